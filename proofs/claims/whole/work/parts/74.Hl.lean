/-! THE LAW'S HELPERS: contracts (printed by wip/gen/mk74.py) -/
section HLB
/-- what a helper answers: 0 and the class's answer, or the number of what was thrown -/
def HR (b : Bool) (post : Option Value → Hp → Prop) (pst : Nat → Hp → Prop) (f : Nat → Int64) (a1 a2 a3 : Int32) (rc : Int32) (h' : Hp) (f' : Nat → Int64) : Prop := (∃ v, post (some (.int v)) h' ∧ rc = 0 ∧ f' 0 = (if b then (if v = 0 then 0 else 1) else v.toInt64)) ∨ (∃ E, E < 3 ∧ pst E h' ∧ rc = ce a1 a2 a3 E ∧ f' = f)
theorem vpu (f : Nat → Int64) (v : Int64) : vp_updL f 0 v 0 = v := by simp [vp_updL]
set_option maxRecDepth 4000 in
set_option maxHeartbeats 1000000 in
theorem h_part {l : Launch} {D : va_G} {cA : Nat → ClassId} {ad : Nat → Nat} {o : Nat} {f : Nat → Int64}  {h : Hp} {post : Option Value → Hp → Prop} {pst : Nat → Hp → Prop} (hM : CtT l y_TO_part prog_1_method_2_code 1 (some .int) (rmT 8) D cls cA slC (StX ad) ad (.ref 0 :: []) h post pst) (hpi : ∀ r h', post r h' → ∃ v, r = some (.int v)) (hpe : ∀ E h', pst E h' → E = 0) : CtH l y_La_part method_3_code 3 [(0, 8, 11, 13)] D cA ad o f [.ref (ad 0), .ref o] h (HR false post pst f 1 0 0) := by
  refine CtH_of (tl := T_La_part) rfl tk_La_part (Nat.le_of_ble_eq_true rfl) ?_
  intro p e s m args below meth c A Q C0 hml hA hst hnc hex RT
  refine Vw_s C0 rfl rfl ?_
  refine Vw_s C0 rfl rfl ?_
  refine Vw_s C0 rfl rfl ?_
  refine Vw_callT (ws := [(o, .inl (cA 1, 1, .inr (.inl f)))]) C0 hml hA hst hnc hex rfl cw_La_7 rfl ⟨⟨Nat.le_of_ble_eq_true rfl, Nat.le_of_ble_eq_true rfl⟩, Nat.le_of_ble_eq_true rfl, Nat.le_of_ble_eq_true rfl⟩ (As := []) rfl hM (rs := [.int 0, .ref o]) (Nat.le_of_ble_eq_true rfl) (by decide) (fun r h' hp => ?_) (fun E h' q hE hp => ?_)
  · obtain ⟨v, rfl⟩ := hpi r h' hp
    refine Vw_s C0 rfl rfl ?_
    refine Vw_last C0 (q0 := 0) (i := 0) rfl rfl (by omega) (by omega) ?_
    refine Vw_go C0 rfl ?_
    refine Vw_s C0 rfl rfl ?_
    exact RT (f' := vp_updL f 0 v.toInt64) (h' := h') (Nat.zero_le _) (Nat.zero_le _) rfl (Or.inl ⟨v, hp, rfl, by rw [vpu]; rfl⟩)
  · have hE1 := hpe E h' hp
    subst hE1
    refine ⟨(0, 8, 11, 13), rfl, ?_⟩
    refine Vw_s C0 rfl rfl ?_
    refine Vw_s C0 rfl rfl ?_
    exact RT (f' := f) (h' := h') (Nat.le_refl _) (Nat.le_refl _) rfl (Or.inr ⟨0, hE, hp, rfl, rfl⟩)
set_option maxRecDepth 4000 in
set_option maxHeartbeats 1000000 in
theorem h_box {l : Launch} {D : va_G} {cA : Nat → ClassId} {ad : Nat → Nat} {o : Nat} {f : Nat → Int64} (x0 : Int32) (x1 : Int64) (x2 : Int64) (x3 : Int64) (x4 : Int64) (x5 : Int64) {h : Hp} {post : Option Value → Hp → Prop} {pst : Nat → Hp → Prop} (hM : CtT l y_TO_box prog_1_method_3_code 12 (some .int) (rmT 8) D cls cA slC (StX ad) ad (.ref 0 :: [.int x0, .long x1, .long x2, .long x3, .long x4, .long x5]) h post pst) (hpi : ∀ r h', post r h' → ∃ v, r = some (.int v)) (hpe : ∀ E h', pst E h' → E = 1 ∨ E = 0 ∨ E = 2) : CtH l y_La_box method_4_code 14 [(0, 19, 22, 19), (0, 19, 26, 13), (0, 19, 30, 21)] D cA ad o f [.ref (ad 0), .int x0, .long x1, .long x2, .long x3, .long x4, .long x5, .ref o] h (HR false post pst f 2 1 3) := by
  refine CtH_of (tl := T_La_box) rfl tk_La_box (Nat.le_of_ble_eq_true rfl) ?_
  intro p e s m args below meth c A Q C0 hml hA hst hnc hex RT
  refine Vw_s C0 rfl rfl ?_
  refine Vw_s C0 rfl rfl ?_
  refine Vw_s C0 rfl rfl ?_
  refine Vw_s C0 rfl rfl ?_
  refine Vw_s C0 rfl rfl ?_
  refine Vw_s C0 rfl rfl ?_
  refine Vw_s C0 rfl rfl ?_
  refine Vw_s C0 rfl rfl ?_
  refine Vw_s C0 rfl rfl ?_
  refine Vw_callT (ws := [(o, .inl (cA 1, 1, .inr (.inl f)))]) C0 hml hA hst hnc hex rfl cw_La_15 rfl ⟨⟨Nat.le_of_ble_eq_true rfl, Nat.le_of_ble_eq_true rfl⟩, Nat.le_of_ble_eq_true rfl, Nat.le_of_ble_eq_true rfl⟩ (As := [.int x0, .long x1, .long x2, .long x3, .long x4, .long x5]) rfl hM (rs := [.int 0, .ref o]) (Nat.le_of_ble_eq_true rfl) (by decide) (fun r h' hp => ?_) (fun E h' q hE hp => ?_)
  · obtain ⟨v, rfl⟩ := hpi r h' hp
    refine Vw_s C0 rfl rfl ?_
    refine Vw_last C0 (q0 := 0) (i := 0) rfl rfl (by omega) (by omega) ?_
    refine Vw_go C0 rfl ?_
    refine Vw_s C0 rfl rfl ?_
    exact RT (f' := vp_updL f 0 v.toInt64) (h' := h') (Nat.zero_le _) (Nat.zero_le _) rfl (Or.inl ⟨v, hp, rfl, by rw [vpu]; rfl⟩)
  · rcases hpe E h' hp with rfl | rfl | rfl
    · refine ⟨(0, 19, 22, 19), rfl, ?_⟩
      refine Vw_s C0 rfl rfl ?_
      refine Vw_s C0 rfl rfl ?_
      exact RT (f' := f) (h' := h') (Nat.le_refl _) (Nat.le_refl _) rfl (Or.inr ⟨1, hE, hp, rfl, rfl⟩)
    · refine ⟨(0, 19, 26, 13), rfl, ?_⟩
      refine Vw_s C0 rfl rfl ?_
      refine Vw_s C0 rfl rfl ?_
      exact RT (f' := f) (h' := h') (Nat.le_refl _) (Nat.le_refl _) rfl (Or.inr ⟨0, hE, hp, rfl, rfl⟩)
    · refine ⟨(0, 19, 30, 21), rfl, ?_⟩
      refine Vw_s C0 rfl rfl ?_
      refine Vw_s C0 rfl rfl ?_
      exact RT (f' := f) (h' := h') (Nat.le_refl _) (Nat.le_refl _) rfl (Or.inr ⟨2, hE, hp, rfl, rfl⟩)
set_option maxRecDepth 4000 in
set_option maxHeartbeats 1000000 in
theorem h_deep {l : Launch} {D : va_G} {cA : Nat → ClassId} {ad : Nat → Nat} {o : Nat} {f : Nat → Int64} (x0 : Int32) (x1 : Int64) {h : Hp} {post : Option Value → Hp → Prop} {pst : Nat → Hp → Prop} (hM : CtT l y_TO_deep prog_1_method_4_code 5 (some .boolean) (rmT 8) D cls cA slC (StX ad) ad (.ref 0 :: [.int x0, .long x1]) h post pst) (hpi : ∀ r h', post r h' → ∃ v, r = some (.int v)) (hpe : ∀ E h', pst E h' → E = 1 ∨ E = 2) : CtH l y_La_deep method_5_code 6 [(0, 18, 21, 19), (0, 18, 25, 21)] D cA ad o f [.ref (ad 0), .int x0, .long x1, .ref o] h (HR true post pst f 0 1 2) := by
  refine CtH_of (tl := T_La_deep) rfl tk_La_deep (Nat.le_of_ble_eq_true rfl) ?_
  intro p e s m args below meth c A Q C0 hml hA hst hnc hex RT
  refine Vw_s C0 rfl rfl ?_
  refine Vw_s C0 rfl rfl ?_
  refine Vw_s C0 rfl rfl ?_
  refine Vw_s C0 rfl rfl ?_
  refine Vw_s C0 rfl rfl ?_
  refine Vw_callT (ws := [(o, .inl (cA 1, 1, .inr (.inl f)))]) C0 hml hA hst hnc hex rfl cw_La_23 rfl ⟨⟨Nat.le_of_ble_eq_true rfl, Nat.le_of_ble_eq_true rfl⟩, Nat.le_of_ble_eq_true rfl, Nat.le_of_ble_eq_true rfl⟩ (As := [.int x0, .long x1]) rfl hM (rs := [.int 0, .ref o]) (Nat.le_of_ble_eq_true rfl) (by decide) (fun r h' hp => ?_) (fun E h' q hE hp => ?_)
  · obtain ⟨v, rfl⟩ := hpi r h' hp
    refine Vw_br C0 rfl rfl (fun c1 => ?_) (fun c1 => ?_)
    · refine Vw_s C0 rfl rfl ?_
      refine Vw_last C0 (q0 := 0) (i := 0) rfl rfl (by omega) (by omega) ?_
      refine Vw_go C0 rfl ?_
      refine Vw_s C0 rfl rfl ?_
      exact RT (f' := vp_updL f 0 0) (h' := h') (Nat.zero_le _) (Nat.zero_le _) rfl (Or.inl ⟨v, hp, rfl, by rw [vpu]; rw [if_pos rfl, if_pos c1]⟩)
    · refine Vw_s C0 rfl rfl ?_
      refine Vw_go C0 rfl ?_
      refine Vw_last C0 (q0 := 0) (i := 0) rfl rfl (by omega) (by omega) ?_
      refine Vw_go C0 rfl ?_
      refine Vw_s C0 rfl rfl ?_
      exact RT (f' := vp_updL f 0 1) (h' := h') (Nat.zero_le _) (Nat.zero_le _) rfl (Or.inl ⟨v, hp, rfl, by rw [vpu]; rw [if_pos rfl, if_neg c1]⟩)
  · rcases hpe E h' hp with rfl | rfl
    · refine ⟨(0, 18, 21, 19), rfl, ?_⟩
      refine Vw_s C0 rfl rfl ?_
      refine Vw_s C0 rfl rfl ?_
      exact RT (f' := f) (h' := h') (Nat.le_refl _) (Nat.le_refl _) rfl (Or.inr ⟨1, hE, hp, rfl, rfl⟩)
    · refine ⟨(0, 18, 25, 21), rfl, ?_⟩
      refine Vw_s C0 rfl rfl ?_
      refine Vw_s C0 rfl rfl ?_
      exact RT (f' := f) (h' := h') (Nat.le_refl _) (Nat.le_refl _) rfl (Or.inr ⟨2, hE, hp, rfl, rfl⟩)
set_option maxRecDepth 4000 in
set_option maxHeartbeats 1000000 in
theorem h_slant {l : Launch} {D : va_G} {cA : Nat → ClassId} {ad : Nat → Nat} {o : Nat} {f : Nat → Int64} (x0 : Int64) (x1 : Int64) (x2 : Int64) {h : Hp} {post : Option Value → Hp → Prop} {pst : Nat → Hp → Prop} (hM : CtT l y_TO_slant prog_1_method_5_code 8 (some .boolean) (rmT 8) D cls cA slC (StX ad) ad (.ref 0 :: [.long x0, .long x1, .long x2]) h post pst) (hpi : ∀ r h', post r h' → ∃ v, r = some (.int v)) (hpe : ∀ E h', pst E h' → E = 2) : CtH l y_La_slant method_6_code 9 [(0, 20, 23, 21)] D cA ad o f [.ref (ad 0), .long x0, .long x1, .long x2, .ref o] h (HR true post pst f 0 0 1) := by
  refine CtH_of (tl := T_La_slant) rfl tk_La_slant (Nat.le_of_ble_eq_true rfl) ?_
  intro p e s m args below meth c A Q C0 hml hA hst hnc hex RT
  refine Vw_s C0 rfl rfl ?_
  refine Vw_s C0 rfl rfl ?_
  refine Vw_s C0 rfl rfl ?_
  refine Vw_s C0 rfl rfl ?_
  refine Vw_s C0 rfl rfl ?_
  refine Vw_s C0 rfl rfl ?_
  refine Vw_callT (ws := [(o, .inl (cA 1, 1, .inr (.inl f)))]) C0 hml hA hst hnc hex rfl cw_La_27 rfl ⟨⟨Nat.le_of_ble_eq_true rfl, Nat.le_of_ble_eq_true rfl⟩, Nat.le_of_ble_eq_true rfl, Nat.le_of_ble_eq_true rfl⟩ (As := [.long x0, .long x1, .long x2]) rfl hM (rs := [.int 0, .ref o]) (Nat.le_of_ble_eq_true rfl) (by decide) (fun r h' hp => ?_) (fun E h' q hE hp => ?_)
  · obtain ⟨v, rfl⟩ := hpi r h' hp
    refine Vw_br C0 rfl rfl (fun c1 => ?_) (fun c1 => ?_)
    · refine Vw_s C0 rfl rfl ?_
      refine Vw_last C0 (q0 := 0) (i := 0) rfl rfl (by omega) (by omega) ?_
      refine Vw_go C0 rfl ?_
      refine Vw_s C0 rfl rfl ?_
      exact RT (f' := vp_updL f 0 0) (h' := h') (Nat.zero_le _) (Nat.zero_le _) rfl (Or.inl ⟨v, hp, rfl, by rw [vpu]; rw [if_pos rfl, if_pos c1]⟩)
    · refine Vw_s C0 rfl rfl ?_
      refine Vw_go C0 rfl ?_
      refine Vw_last C0 (q0 := 0) (i := 0) rfl rfl (by omega) (by omega) ?_
      refine Vw_go C0 rfl ?_
      refine Vw_s C0 rfl rfl ?_
      exact RT (f' := vp_updL f 0 1) (h' := h') (Nat.zero_le _) (Nat.zero_le _) rfl (Or.inl ⟨v, hp, rfl, by rw [vpu]; rw [if_pos rfl, if_neg c1]⟩)
  · have hE1 := hpe E h' hp
    subst hE1
    refine ⟨(0, 20, 23, 21), rfl, ?_⟩
    refine Vw_s C0 rfl rfl ?_
    refine Vw_s C0 rfl rfl ?_
    exact RT (f' := f) (h' := h') (Nat.le_refl _) (Nat.le_refl _) rfl (Or.inr ⟨2, hE, hp, rfl, rfl⟩)
set_option maxRecDepth 4000 in
set_option maxHeartbeats 1000000 in
theorem h_group {l : Launch} {D : va_G} {cA : Nat → ClassId} {ad : Nat → Nat} {o : Nat} {f : Nat → Int64} (x0 : Int32) (x1 : Int32) {h : Hp} {post : Option Value → Hp → Prop} {pst : Nat → Hp → Prop} (hM : CtT l y_TO_group prog_1_method_6_code 4 (some .boolean) (rmT 8) D cls cA slC (StX ad) ad (.ref 0 :: [.int x0, .int x1]) h post pst) (hpi : ∀ r h', post r h' → ∃ v, r = some (.int v)) (hpe : ∀ E h', pst E h' → E = 1 ∨ E = 2) : CtH l y_La_group method_7_code 5 [(0, 17, 20, 19), (0, 17, 24, 21)] D cA ad o f [.ref (ad 0), .int x0, .int x1, .ref o] h (HR true post pst f 0 1 2) := by
  refine CtH_of (tl := T_La_group) rfl tk_La_group (Nat.le_of_ble_eq_true rfl) ?_
  intro p e s m args below meth c A Q C0 hml hA hst hnc hex RT
  refine Vw_s C0 rfl rfl ?_
  refine Vw_s C0 rfl rfl ?_
  refine Vw_s C0 rfl rfl ?_
  refine Vw_s C0 rfl rfl ?_
  refine Vw_s C0 rfl rfl ?_
  refine Vw_callT (ws := [(o, .inl (cA 1, 1, .inr (.inl f)))]) C0 hml hA hst hnc hex rfl cw_La_31 rfl ⟨⟨Nat.le_of_ble_eq_true rfl, Nat.le_of_ble_eq_true rfl⟩, Nat.le_of_ble_eq_true rfl, Nat.le_of_ble_eq_true rfl⟩ (As := [.int x0, .int x1]) rfl hM (rs := [.int 0, .ref o]) (Nat.le_of_ble_eq_true rfl) (by decide) (fun r h' hp => ?_) (fun E h' q hE hp => ?_)
  · obtain ⟨v, rfl⟩ := hpi r h' hp
    refine Vw_br C0 rfl rfl (fun c1 => ?_) (fun c1 => ?_)
    · refine Vw_s C0 rfl rfl ?_
      refine Vw_last C0 (q0 := 0) (i := 0) rfl rfl (by omega) (by omega) ?_
      refine Vw_go C0 rfl ?_
      refine Vw_s C0 rfl rfl ?_
      exact RT (f' := vp_updL f 0 0) (h' := h') (Nat.zero_le _) (Nat.zero_le _) rfl (Or.inl ⟨v, hp, rfl, by rw [vpu]; rw [if_pos rfl, if_pos c1]⟩)
    · refine Vw_s C0 rfl rfl ?_
      refine Vw_go C0 rfl ?_
      refine Vw_last C0 (q0 := 0) (i := 0) rfl rfl (by omega) (by omega) ?_
      refine Vw_go C0 rfl ?_
      refine Vw_s C0 rfl rfl ?_
      exact RT (f' := vp_updL f 0 1) (h' := h') (Nat.zero_le _) (Nat.zero_le _) rfl (Or.inl ⟨v, hp, rfl, by rw [vpu]; rw [if_pos rfl, if_neg c1]⟩)
  · rcases hpe E h' hp with rfl | rfl
    · refine ⟨(0, 17, 20, 19), rfl, ?_⟩
      refine Vw_s C0 rfl rfl ?_
      refine Vw_s C0 rfl rfl ?_
      exact RT (f' := f) (h' := h') (Nat.le_refl _) (Nat.le_refl _) rfl (Or.inr ⟨1, hE, hp, rfl, rfl⟩)
    · refine ⟨(0, 17, 24, 21), rfl, ?_⟩
      refine Vw_s C0 rfl rfl ?_
      refine Vw_s C0 rfl rfl ?_
      exact RT (f' := f) (h' := h') (Nat.le_refl _) (Nat.le_refl _) rfl (Or.inr ⟨2, hE, hp, rfl, rfl⟩)
set_option maxRecDepth 4000 in
set_option maxHeartbeats 1000000 in
theorem h_free {l : Launch} {D : va_G} {cA : Nat → ClassId} {ad : Nat → Nat} {o : Nat} {f : Nat → Int64} (x0 : Int32) (x1 : Int32) (x2 : Int64) {h : Hp} {post : Option Value → Hp → Prop} {pst : Nat → Hp → Prop} (hM : CtT l y_TO_free prog_1_method_7_code 5 (some .boolean) (rmT 8) D cls cA slC (StX ad) ad (.ref 0 :: [.int x0, .int x1, .long x2]) h post pst) (hpi : ∀ r h', post r h' → ∃ v, r = some (.int v)) (hpe : ∀ E h', pst E h' → E = 1 ∨ E = 2) : CtH l y_La_free method_8_code 7 [(0, 19, 22, 19), (0, 19, 26, 21)] D cA ad o f [.ref (ad 0), .int x0, .int x1, .long x2, .ref o] h (HR true post pst f 0 1 2) := by
  refine CtH_of (tl := T_La_free) rfl tk_La_free (Nat.le_of_ble_eq_true rfl) ?_
  intro p e s m args below meth c A Q C0 hml hA hst hnc hex RT
  refine Vw_s C0 rfl rfl ?_
  refine Vw_s C0 rfl rfl ?_
  refine Vw_s C0 rfl rfl ?_
  refine Vw_s C0 rfl rfl ?_
  refine Vw_s C0 rfl rfl ?_
  refine Vw_s C0 rfl rfl ?_
  refine Vw_callT (ws := [(o, .inl (cA 1, 1, .inr (.inl f)))]) C0 hml hA hst hnc hex rfl cw_La_35 rfl ⟨⟨Nat.le_of_ble_eq_true rfl, Nat.le_of_ble_eq_true rfl⟩, Nat.le_of_ble_eq_true rfl, Nat.le_of_ble_eq_true rfl⟩ (As := [.int x0, .int x1, .long x2]) rfl hM (rs := [.int 0, .ref o]) (Nat.le_of_ble_eq_true rfl) (by decide) (fun r h' hp => ?_) (fun E h' q hE hp => ?_)
  · obtain ⟨v, rfl⟩ := hpi r h' hp
    refine Vw_br C0 rfl rfl (fun c1 => ?_) (fun c1 => ?_)
    · refine Vw_s C0 rfl rfl ?_
      refine Vw_last C0 (q0 := 0) (i := 0) rfl rfl (by omega) (by omega) ?_
      refine Vw_go C0 rfl ?_
      refine Vw_s C0 rfl rfl ?_
      exact RT (f' := vp_updL f 0 0) (h' := h') (Nat.zero_le _) (Nat.zero_le _) rfl (Or.inl ⟨v, hp, rfl, by rw [vpu]; rw [if_pos rfl, if_pos c1]⟩)
    · refine Vw_s C0 rfl rfl ?_
      refine Vw_go C0 rfl ?_
      refine Vw_last C0 (q0 := 0) (i := 0) rfl rfl (by omega) (by omega) ?_
      refine Vw_go C0 rfl ?_
      refine Vw_s C0 rfl rfl ?_
      exact RT (f' := vp_updL f 0 1) (h' := h') (Nat.zero_le _) (Nat.zero_le _) rfl (Or.inl ⟨v, hp, rfl, by rw [vpu]; rw [if_pos rfl, if_neg c1]⟩)
  · rcases hpe E h' hp with rfl | rfl
    · refine ⟨(0, 19, 22, 19), rfl, ?_⟩
      refine Vw_s C0 rfl rfl ?_
      refine Vw_s C0 rfl rfl ?_
      exact RT (f' := f) (h' := h') (Nat.le_refl _) (Nat.le_refl _) rfl (Or.inr ⟨1, hE, hp, rfl, rfl⟩)
    · refine ⟨(0, 19, 26, 21), rfl, ?_⟩
      refine Vw_s C0 rfl rfl ?_
      refine Vw_s C0 rfl rfl ?_
      exact RT (f' := f) (h' := h') (Nat.le_refl _) (Nat.le_refl _) rfl (Or.inr ⟨2, hE, hp, rfl, rfl⟩)
set_option maxRecDepth 4000 in
set_option maxHeartbeats 1000000 in
theorem h_step {l : Launch} {D : va_G} {cA : Nat → ClassId} {ad : Nat → Nat} {o : Nat} {f : Nat → Int64} (x0 : Int32) (x1 : Int32) {h : Hp} {post : Option Value → Hp → Prop} {pst : Nat → Hp → Prop} (hM : CtT l y_TO_step prog_1_method_9_code 4 (some .int) (rmT 8) D cls cA slC (StX ad) ad (.ref 0 :: [.int x0, .int x1]) h post pst) (hpi : ∀ r h', post r h' → ∃ v, r = some (.int v)) (hpe : ∀ E h', pst E h' → E = 0 ∨ E = 1 ∨ E = 2) : CtH l y_La_step method_9_code 5 [(0, 10, 13, 13), (0, 10, 17, 19), (0, 10, 21, 21)] D cA ad o f [.ref (ad 0), .int x0, .int x1, .ref o] h (HR false post pst f 1 2 3) := by
  refine CtH_of (tl := T_La_step) rfl tk_La_step (Nat.le_of_ble_eq_true rfl) ?_
  intro p e s m args below meth c A Q C0 hml hA hst hnc hex RT
  refine Vw_s C0 rfl rfl ?_
  refine Vw_s C0 rfl rfl ?_
  refine Vw_s C0 rfl rfl ?_
  refine Vw_s C0 rfl rfl ?_
  refine Vw_s C0 rfl rfl ?_
  refine Vw_callT (ws := [(o, .inl (cA 1, 1, .inr (.inl f)))]) C0 hml hA hst hnc hex rfl cw_La_39 rfl ⟨⟨Nat.le_of_ble_eq_true rfl, Nat.le_of_ble_eq_true rfl⟩, Nat.le_of_ble_eq_true rfl, Nat.le_of_ble_eq_true rfl⟩ (As := [.int x0, .int x1]) rfl hM (rs := [.int 0, .ref o]) (Nat.le_of_ble_eq_true rfl) (by decide) (fun r h' hp => ?_) (fun E h' q hE hp => ?_)
  · obtain ⟨v, rfl⟩ := hpi r h' hp
    refine Vw_s C0 rfl rfl ?_
    refine Vw_last C0 (q0 := 0) (i := 0) rfl rfl (by omega) (by omega) ?_
    refine Vw_go C0 rfl ?_
    refine Vw_s C0 rfl rfl ?_
    exact RT (f' := vp_updL f 0 v.toInt64) (h' := h') (Nat.zero_le _) (Nat.zero_le _) rfl (Or.inl ⟨v, hp, rfl, by rw [vpu]; rfl⟩)
  · rcases hpe E h' hp with rfl | rfl | rfl
    · refine ⟨(0, 10, 13, 13), rfl, ?_⟩
      refine Vw_s C0 rfl rfl ?_
      refine Vw_s C0 rfl rfl ?_
      exact RT (f' := f) (h' := h') (Nat.le_refl _) (Nat.le_refl _) rfl (Or.inr ⟨0, hE, hp, rfl, rfl⟩)
    · refine ⟨(0, 10, 17, 19), rfl, ?_⟩
      refine Vw_s C0 rfl rfl ?_
      refine Vw_s C0 rfl rfl ?_
      exact RT (f' := f) (h' := h') (Nat.le_refl _) (Nat.le_refl _) rfl (Or.inr ⟨1, hE, hp, rfl, rfl⟩)
    · refine ⟨(0, 10, 21, 21), rfl, ?_⟩
      refine Vw_s C0 rfl rfl ?_
      refine Vw_s C0 rfl rfl ?_
      exact RT (f' := f) (h' := h') (Nat.le_refl _) (Nat.le_refl _) rfl (Or.inr ⟨2, hE, hp, rfl, rfl⟩)
set_option maxRecDepth 4000 in
set_option maxHeartbeats 1000000 in
theorem h_apart {l : Launch} {D : va_G} {cA : Nat → ClassId} {ad : Nat → Nat} {o : Nat} {f : Nat → Int64} (x0 : Int32) {h : Hp} {post : Option Value → Hp → Prop} {pst : Nat → Hp → Prop} (hM : CtT l y_TO_apart prog_1_method_10_code 2 (some .int) (rmT 8) D cls cA slC (StX ad) ad (.ref 0 :: [.int x0]) h post pst) (hpi : ∀ r h', post r h' → ∃ v, r = some (.int v)) (hpe : ∀ E h', pst E h' → E = 0 ∨ E = 1) : CtH l y_La_apart method_10_code 4 [(0, 9, 12, 13), (0, 9, 15, 19)] D cA ad o f [.ref (ad 0), .int x0, .ref o] h (HR false post pst f 1 2 0) := by
  refine CtH_of (tl := T_La_apart) rfl tk_La_apart (Nat.le_of_ble_eq_true rfl) ?_
  intro p e s m args below meth c A Q C0 hml hA hst hnc hex RT
  refine Vw_s C0 rfl rfl ?_
  refine Vw_s C0 rfl rfl ?_
  refine Vw_s C0 rfl rfl ?_
  refine Vw_s C0 rfl rfl ?_
  refine Vw_callT (ws := [(o, .inl (cA 1, 1, .inr (.inl f)))]) C0 hml hA hst hnc hex rfl cw_La_43 rfl ⟨⟨Nat.le_of_ble_eq_true rfl, Nat.le_of_ble_eq_true rfl⟩, Nat.le_of_ble_eq_true rfl, Nat.le_of_ble_eq_true rfl⟩ (As := [.int x0]) rfl hM (rs := [.int 0, .ref o]) (Nat.le_of_ble_eq_true rfl) (by decide) (fun r h' hp => ?_) (fun E h' q hE hp => ?_)
  · obtain ⟨v, rfl⟩ := hpi r h' hp
    refine Vw_s C0 rfl rfl ?_
    refine Vw_last C0 (q0 := 0) (i := 0) rfl rfl (by omega) (by omega) ?_
    refine Vw_go C0 rfl ?_
    refine Vw_s C0 rfl rfl ?_
    exact RT (f' := vp_updL f 0 v.toInt64) (h' := h') (Nat.zero_le _) (Nat.zero_le _) rfl (Or.inl ⟨v, hp, rfl, by rw [vpu]; rfl⟩)
  · rcases hpe E h' hp with rfl | rfl
    · refine ⟨(0, 9, 12, 13), rfl, ?_⟩
      refine Vw_s C0 rfl rfl ?_
      refine Vw_s C0 rfl rfl ?_
      exact RT (f' := f) (h' := h') (Nat.le_refl _) (Nat.le_refl _) rfl (Or.inr ⟨0, hE, hp, rfl, rfl⟩)
    · refine ⟨(0, 9, 15, 19), rfl, ?_⟩
      refine Vw_s C0 rfl rfl ?_
      refine Vw_s C0 rfl rfl ?_
      exact RT (f' := f) (h' := h') (Nat.le_refl _) (Nat.le_refl _) rfl (Or.inr ⟨1, hE, hp, rfl, rfl⟩)
set_option maxRecDepth 4000 in
set_option maxHeartbeats 1000000 in
theorem h_locked {l : Launch} {D : va_G} {cA : Nat → ClassId} {ad : Nat → Nat} {o : Nat} {f : Nat → Int64} (x0 : Int32) {h : Hp} {post : Option Value → Hp → Prop} {pst : Nat → Hp → Prop} (hM : CtT l y_TO_locked prog_1_method_11_code 2 (some .int) (rmT 8) D cls cA slC (StX ad) ad (.ref 0 :: [.int x0]) h post pst) (hpi : ∀ r h', post r h' → ∃ v, r = some (.int v)) (hpe : ∀ E h', pst E h' → E = 0 ∨ E = 1) : CtH l y_La_locked method_11_code 4 [(0, 9, 12, 13), (0, 9, 15, 19)] D cA ad o f [.ref (ad 0), .int x0, .ref o] h (HR false post pst f 1 2 0) := by
  refine CtH_of (tl := T_La_locked) rfl tk_La_locked (Nat.le_of_ble_eq_true rfl) ?_
  intro p e s m args below meth c A Q C0 hml hA hst hnc hex RT
  refine Vw_s C0 rfl rfl ?_
  refine Vw_s C0 rfl rfl ?_
  refine Vw_s C0 rfl rfl ?_
  refine Vw_s C0 rfl rfl ?_
  refine Vw_callT (ws := [(o, .inl (cA 1, 1, .inr (.inl f)))]) C0 hml hA hst hnc hex rfl cw_La_47 rfl ⟨⟨Nat.le_of_ble_eq_true rfl, Nat.le_of_ble_eq_true rfl⟩, Nat.le_of_ble_eq_true rfl, Nat.le_of_ble_eq_true rfl⟩ (As := [.int x0]) rfl hM (rs := [.int 0, .ref o]) (Nat.le_of_ble_eq_true rfl) (by decide) (fun r h' hp => ?_) (fun E h' q hE hp => ?_)
  · obtain ⟨v, rfl⟩ := hpi r h' hp
    refine Vw_s C0 rfl rfl ?_
    refine Vw_last C0 (q0 := 0) (i := 0) rfl rfl (by omega) (by omega) ?_
    refine Vw_go C0 rfl ?_
    refine Vw_s C0 rfl rfl ?_
    exact RT (f' := vp_updL f 0 v.toInt64) (h' := h') (Nat.zero_le _) (Nat.zero_le _) rfl (Or.inl ⟨v, hp, rfl, by rw [vpu]; rfl⟩)
  · rcases hpe E h' hp with rfl | rfl
    · refine ⟨(0, 9, 12, 13), rfl, ?_⟩
      refine Vw_s C0 rfl rfl ?_
      refine Vw_s C0 rfl rfl ?_
      exact RT (f' := f) (h' := h') (Nat.le_refl _) (Nat.le_refl _) rfl (Or.inr ⟨0, hE, hp, rfl, rfl⟩)
    · refine ⟨(0, 9, 15, 19), rfl, ?_⟩
      refine Vw_s C0 rfl rfl ?_
      refine Vw_s C0 rfl rfl ?_
      exact RT (f' := f) (h' := h') (Nat.le_refl _) (Nat.le_refl _) rfl (Or.inr ⟨1, hE, hp, rfl, rfl⟩)
set_option maxRecDepth 4000 in
set_option maxHeartbeats 1000000 in
theorem h_stage {l : Launch} {D : va_G} {cA : Nat → ClassId} {ad : Nat → Nat} {o : Nat} {f : Nat → Int64} (x0 : Int32) {h : Hp} {post : Option Value → Hp → Prop} {pst : Nat → Hp → Prop} (hM : CtT l y_TO_stage prog_1_method_12_code 2 (some .int) (rmT 8) D cls cA slC (StX ad) ad (.ref 0 :: [.int x0]) h post pst) (hpi : ∀ r h', post r h' → ∃ v, r = some (.int v)) (hpe : ∀ E h', pst E h' → E = 0 ∨ E = 1) : CtH l y_La_stage method_12_code 4 [(0, 9, 12, 13), (0, 9, 15, 19)] D cA ad o f [.ref (ad 0), .int x0, .ref o] h (HR false post pst f 1 2 0) := by
  refine CtH_of (tl := T_La_stage) rfl tk_La_stage (Nat.le_of_ble_eq_true rfl) ?_
  intro p e s m args below meth c A Q C0 hml hA hst hnc hex RT
  refine Vw_s C0 rfl rfl ?_
  refine Vw_s C0 rfl rfl ?_
  refine Vw_s C0 rfl rfl ?_
  refine Vw_s C0 rfl rfl ?_
  refine Vw_callT (ws := [(o, .inl (cA 1, 1, .inr (.inl f)))]) C0 hml hA hst hnc hex rfl cw_La_50 rfl ⟨⟨Nat.le_of_ble_eq_true rfl, Nat.le_of_ble_eq_true rfl⟩, Nat.le_of_ble_eq_true rfl, Nat.le_of_ble_eq_true rfl⟩ (As := [.int x0]) rfl hM (rs := [.int 0, .ref o]) (Nat.le_of_ble_eq_true rfl) (by decide) (fun r h' hp => ?_) (fun E h' q hE hp => ?_)
  · obtain ⟨v, rfl⟩ := hpi r h' hp
    refine Vw_s C0 rfl rfl ?_
    refine Vw_last C0 (q0 := 0) (i := 0) rfl rfl (by omega) (by omega) ?_
    refine Vw_go C0 rfl ?_
    refine Vw_s C0 rfl rfl ?_
    exact RT (f' := vp_updL f 0 v.toInt64) (h' := h') (Nat.zero_le _) (Nat.zero_le _) rfl (Or.inl ⟨v, hp, rfl, by rw [vpu]; rfl⟩)
  · rcases hpe E h' hp with rfl | rfl
    · refine ⟨(0, 9, 12, 13), rfl, ?_⟩
      refine Vw_s C0 rfl rfl ?_
      refine Vw_s C0 rfl rfl ?_
      exact RT (f' := f) (h' := h') (Nat.le_refl _) (Nat.le_refl _) rfl (Or.inr ⟨0, hE, hp, rfl, rfl⟩)
    · refine ⟨(0, 9, 15, 19), rfl, ?_⟩
      refine Vw_s C0 rfl rfl ?_
      refine Vw_s C0 rfl rfl ?_
      exact RT (f' := f) (h' := h') (Nat.le_refl _) (Nat.le_refl _) rfl (Or.inr ⟨1, hE, hp, rfl, rfl⟩)
set_option maxRecDepth 4000 in
set_option maxHeartbeats 1000000 in
theorem h_turnings {l : Launch} {D : va_G} {cA : Nat → ClassId} {ad : Nat → Nat} {o : Nat} {f : Nat → Int64}  {h : Hp} {post : Option Value → Hp → Prop} {pst : Nat → Hp → Prop} (hM : CtT l y_TO_turnings prog_1_method_13_code 1 (some .int) (rmT 8) D cls cA slC (StX ad) ad (.ref 0 :: []) h post pst) (hpi : ∀ r h', post r h' → ∃ v, r = some (.int v)) (hpe : ∀ E h', pst E h' → E = 0) : CtH l y_La_turnings method_13_code 3 [(0, 8, 11, 13)] D cA ad o f [.ref (ad 0), .ref o] h (HR false post pst f 1 0 0) := by
  refine CtH_of (tl := T_La_turnings) rfl tk_La_turnings (Nat.le_of_ble_eq_true rfl) ?_
  intro p e s m args below meth c A Q C0 hml hA hst hnc hex RT
  refine Vw_s C0 rfl rfl ?_
  refine Vw_s C0 rfl rfl ?_
  refine Vw_s C0 rfl rfl ?_
  refine Vw_callT (ws := [(o, .inl (cA 1, 1, .inr (.inl f)))]) C0 hml hA hst hnc hex rfl cw_La_53 rfl ⟨⟨Nat.le_of_ble_eq_true rfl, Nat.le_of_ble_eq_true rfl⟩, Nat.le_of_ble_eq_true rfl, Nat.le_of_ble_eq_true rfl⟩ (As := []) rfl hM (rs := [.int 0, .ref o]) (Nat.le_of_ble_eq_true rfl) (by decide) (fun r h' hp => ?_) (fun E h' q hE hp => ?_)
  · obtain ⟨v, rfl⟩ := hpi r h' hp
    refine Vw_s C0 rfl rfl ?_
    refine Vw_last C0 (q0 := 0) (i := 0) rfl rfl (by omega) (by omega) ?_
    refine Vw_go C0 rfl ?_
    refine Vw_s C0 rfl rfl ?_
    exact RT (f' := vp_updL f 0 v.toInt64) (h' := h') (Nat.zero_le _) (Nat.zero_le _) rfl (Or.inl ⟨v, hp, rfl, by rw [vpu]; rfl⟩)
  · have hE1 := hpe E h' hp
    subst hE1
    refine ⟨(0, 8, 11, 13), rfl, ?_⟩
    refine Vw_s C0 rfl rfl ?_
    refine Vw_s C0 rfl rfl ?_
    exact RT (f' := f) (h' := h') (Nat.le_refl _) (Nat.le_refl _) rfl (Or.inr ⟨0, hE, hp, rfl, rfl⟩)
set_option maxRecDepth 4000 in
set_option maxHeartbeats 1000000 in
theorem h_two {l : Launch} {D : va_G} {cA : Nat → ClassId} {ad : Nat → Nat} {o : Nat} {f : Nat → Int64} (x0 : Int32) {h : Hp} {post : Option Value → Hp → Prop} {pst : Nat → Hp → Prop} (hM : CtT l y_TO_two prog_1_method_14_code 2 (some .int) (rmT 8) D cls cA slC (StX ad) ad (.ref 0 :: [.int x0]) h post pst) (hpi : ∀ r h', post r h' → ∃ v, r = some (.int v)) (hpe : ∀ E h', pst E h' → E = 0 ∨ E = 2) : CtH l y_La_two method_14_code 4 [(0, 9, 12, 13), (0, 9, 15, 21)] D cA ad o f [.ref (ad 0), .int x0, .ref o] h (HR false post pst f 1 0 2) := by
  refine CtH_of (tl := T_La_two) rfl tk_La_two (Nat.le_of_ble_eq_true rfl) ?_
  intro p e s m args below meth c A Q C0 hml hA hst hnc hex RT
  refine Vw_s C0 rfl rfl ?_
  refine Vw_s C0 rfl rfl ?_
  refine Vw_s C0 rfl rfl ?_
  refine Vw_s C0 rfl rfl ?_
  refine Vw_callT (ws := [(o, .inl (cA 1, 1, .inr (.inl f)))]) C0 hml hA hst hnc hex rfl cw_La_56 rfl ⟨⟨Nat.le_of_ble_eq_true rfl, Nat.le_of_ble_eq_true rfl⟩, Nat.le_of_ble_eq_true rfl, Nat.le_of_ble_eq_true rfl⟩ (As := [.int x0]) rfl hM (rs := [.int 0, .ref o]) (Nat.le_of_ble_eq_true rfl) (by decide) (fun r h' hp => ?_) (fun E h' q hE hp => ?_)
  · obtain ⟨v, rfl⟩ := hpi r h' hp
    refine Vw_s C0 rfl rfl ?_
    refine Vw_last C0 (q0 := 0) (i := 0) rfl rfl (by omega) (by omega) ?_
    refine Vw_go C0 rfl ?_
    refine Vw_s C0 rfl rfl ?_
    exact RT (f' := vp_updL f 0 v.toInt64) (h' := h') (Nat.zero_le _) (Nat.zero_le _) rfl (Or.inl ⟨v, hp, rfl, by rw [vpu]; rfl⟩)
  · rcases hpe E h' hp with rfl | rfl
    · refine ⟨(0, 9, 12, 13), rfl, ?_⟩
      refine Vw_s C0 rfl rfl ?_
      refine Vw_s C0 rfl rfl ?_
      exact RT (f' := f) (h' := h') (Nat.le_refl _) (Nat.le_refl _) rfl (Or.inr ⟨0, hE, hp, rfl, rfl⟩)
    · refine ⟨(0, 9, 15, 21), rfl, ?_⟩
      refine Vw_s C0 rfl rfl ?_
      refine Vw_s C0 rfl rfl ?_
      exact RT (f' := f) (h' := h') (Nat.le_refl _) (Nat.le_refl _) rfl (Or.inr ⟨2, hE, hp, rfl, rfl⟩)
set_option maxRecDepth 4000 in
set_option maxHeartbeats 1000000 in
theorem h_hands {l : Launch} {D : va_G} {cA : Nat → ClassId} {ad : Nat → Nat} {o : Nat} {f : Nat → Int64} (x0 : Int32) (x1 : Int32) {h : Hp} {post : Option Value → Hp → Prop} {pst : Nat → Hp → Prop} (hM : CtT l y_TO_hands prog_1_method_15_code 3 (some .int) (rmT 8) D cls cA slC (StX ad) ad (.ref 0 :: [.int x0, .int x1]) h post pst) (hpi : ∀ r h', post r h' → ∃ v, r = some (.int v)) (hpe : ∀ E h', pst E h' → E = 0 ∨ E = 1 ∨ E = 2) : CtH l y_La_hands method_15_code 5 [(0, 10, 13, 13), (0, 10, 17, 19), (0, 10, 21, 21)] D cA ad o f [.ref (ad 0), .int x0, .int x1, .ref o] h (HR false post pst f 1 2 3) := by
  refine CtH_of (tl := T_La_hands) rfl tk_La_hands (Nat.le_of_ble_eq_true rfl) ?_
  intro p e s m args below meth c A Q C0 hml hA hst hnc hex RT
  refine Vw_s C0 rfl rfl ?_
  refine Vw_s C0 rfl rfl ?_
  refine Vw_s C0 rfl rfl ?_
  refine Vw_s C0 rfl rfl ?_
  refine Vw_s C0 rfl rfl ?_
  refine Vw_callT (ws := [(o, .inl (cA 1, 1, .inr (.inl f)))]) C0 hml hA hst hnc hex rfl cw_La_59 rfl ⟨⟨Nat.le_of_ble_eq_true rfl, Nat.le_of_ble_eq_true rfl⟩, Nat.le_of_ble_eq_true rfl, Nat.le_of_ble_eq_true rfl⟩ (As := [.int x0, .int x1]) rfl hM (rs := [.int 0, .ref o]) (Nat.le_of_ble_eq_true rfl) (by decide) (fun r h' hp => ?_) (fun E h' q hE hp => ?_)
  · obtain ⟨v, rfl⟩ := hpi r h' hp
    refine Vw_s C0 rfl rfl ?_
    refine Vw_last C0 (q0 := 0) (i := 0) rfl rfl (by omega) (by omega) ?_
    refine Vw_go C0 rfl ?_
    refine Vw_s C0 rfl rfl ?_
    exact RT (f' := vp_updL f 0 v.toInt64) (h' := h') (Nat.zero_le _) (Nat.zero_le _) rfl (Or.inl ⟨v, hp, rfl, by rw [vpu]; rfl⟩)
  · rcases hpe E h' hp with rfl | rfl | rfl
    · refine ⟨(0, 10, 13, 13), rfl, ?_⟩
      refine Vw_s C0 rfl rfl ?_
      refine Vw_s C0 rfl rfl ?_
      exact RT (f' := f) (h' := h') (Nat.le_refl _) (Nat.le_refl _) rfl (Or.inr ⟨0, hE, hp, rfl, rfl⟩)
    · refine ⟨(0, 10, 17, 19), rfl, ?_⟩
      refine Vw_s C0 rfl rfl ?_
      refine Vw_s C0 rfl rfl ?_
      exact RT (f' := f) (h' := h') (Nat.le_refl _) (Nat.le_refl _) rfl (Or.inr ⟨1, hE, hp, rfl, rfl⟩)
    · refine ⟨(0, 10, 21, 21), rfl, ?_⟩
      refine Vw_s C0 rfl rfl ?_
      refine Vw_s C0 rfl rfl ?_
      exact RT (f' := f) (h' := h') (Nat.le_refl _) (Nat.le_refl _) rfl (Or.inr ⟨2, hE, hp, rfl, rfl⟩)
set_option maxRecDepth 4000 in
set_option maxHeartbeats 1000000 in
theorem h_out {l : Launch} {D : va_G} {cA : Nat → ClassId} {ad : Nat → Nat} {o : Nat} {f : Nat → Int64} (x0 : Int32) {h : Hp} {post : Option Value → Hp → Prop} {pst : Nat → Hp → Prop} (hM : CtT l y_TO_out prog_1_method_16_code 2 (some .int) (rmT 8) D cls cA slC (StX ad) ad (.ref 0 :: [.int x0]) h post pst) (hpi : ∀ r h', post r h' → ∃ v, r = some (.int v)) (hpe : ∀ E h', pst E h' → E = 0 ∨ E = 1) : CtH l y_La_out method_16_code 4 [(0, 9, 12, 13), (0, 9, 15, 19)] D cA ad o f [.ref (ad 0), .int x0, .ref o] h (HR false post pst f 1 2 0) := by
  refine CtH_of (tl := T_La_out) rfl tk_La_out (Nat.le_of_ble_eq_true rfl) ?_
  intro p e s m args below meth c A Q C0 hml hA hst hnc hex RT
  refine Vw_s C0 rfl rfl ?_
  refine Vw_s C0 rfl rfl ?_
  refine Vw_s C0 rfl rfl ?_
  refine Vw_s C0 rfl rfl ?_
  refine Vw_callT (ws := [(o, .inl (cA 1, 1, .inr (.inl f)))]) C0 hml hA hst hnc hex rfl cw_La_62 rfl ⟨⟨Nat.le_of_ble_eq_true rfl, Nat.le_of_ble_eq_true rfl⟩, Nat.le_of_ble_eq_true rfl, Nat.le_of_ble_eq_true rfl⟩ (As := [.int x0]) rfl hM (rs := [.int 0, .ref o]) (Nat.le_of_ble_eq_true rfl) (by decide) (fun r h' hp => ?_) (fun E h' q hE hp => ?_)
  · obtain ⟨v, rfl⟩ := hpi r h' hp
    refine Vw_s C0 rfl rfl ?_
    refine Vw_last C0 (q0 := 0) (i := 0) rfl rfl (by omega) (by omega) ?_
    refine Vw_go C0 rfl ?_
    refine Vw_s C0 rfl rfl ?_
    exact RT (f' := vp_updL f 0 v.toInt64) (h' := h') (Nat.zero_le _) (Nat.zero_le _) rfl (Or.inl ⟨v, hp, rfl, by rw [vpu]; rfl⟩)
  · rcases hpe E h' hp with rfl | rfl
    · refine ⟨(0, 9, 12, 13), rfl, ?_⟩
      refine Vw_s C0 rfl rfl ?_
      refine Vw_s C0 rfl rfl ?_
      exact RT (f' := f) (h' := h') (Nat.le_refl _) (Nat.le_refl _) rfl (Or.inr ⟨0, hE, hp, rfl, rfl⟩)
    · refine ⟨(0, 9, 15, 19), rfl, ?_⟩
      refine Vw_s C0 rfl rfl ?_
      refine Vw_s C0 rfl rfl ?_
      exact RT (f' := f) (h' := h') (Nat.le_refl _) (Nat.le_refl _) rfl (Or.inr ⟨1, hE, hp, rfl, rfl⟩)
set_option maxRecDepth 4000 in
set_option maxHeartbeats 1000000 in
theorem h_glue {l : Launch} {D : va_G} {cA : Nat → ClassId} {ad : Nat → Nat} {o : Nat} {f : Nat → Int64} (x0 : Int32) (x1 : Int32) (x2 : Int32) {h : Hp} {post : Option Value → Hp → Prop} {pst : Nat → Hp → Prop} (hM : CtT l y_TO_glue prog_1_method_17_code 4 (some .boolean) (rmT 8) D cls cA slC (StX ad) ad (.ref 0 :: [.int x0, .int x1, .int x2]) h post pst) (hpi : ∀ r h', post r h' → ∃ v, r = some (.int v)) (hpe : ∀ E h', pst E h' → E = 1 ∨ E = 2) : CtH l y_La_glue method_17_code 6 [(0, 19, 22, 19), (0, 19, 26, 21)] D cA ad o f [.ref (ad 0), .int x0, .int x1, .int x2, .ref o] h (HR true post pst f 0 1 2) := by
  refine CtH_of (tl := T_La_glue) rfl tk_La_glue (Nat.le_of_ble_eq_true rfl) ?_
  intro p e s m args below meth c A Q C0 hml hA hst hnc hex RT
  refine Vw_s C0 rfl rfl ?_
  refine Vw_s C0 rfl rfl ?_
  refine Vw_s C0 rfl rfl ?_
  refine Vw_s C0 rfl rfl ?_
  refine Vw_s C0 rfl rfl ?_
  refine Vw_s C0 rfl rfl ?_
  refine Vw_callT (ws := [(o, .inl (cA 1, 1, .inr (.inl f)))]) C0 hml hA hst hnc hex rfl cw_La_65 rfl ⟨⟨Nat.le_of_ble_eq_true rfl, Nat.le_of_ble_eq_true rfl⟩, Nat.le_of_ble_eq_true rfl, Nat.le_of_ble_eq_true rfl⟩ (As := [.int x0, .int x1, .int x2]) rfl hM (rs := [.int 0, .ref o]) (Nat.le_of_ble_eq_true rfl) (by decide) (fun r h' hp => ?_) (fun E h' q hE hp => ?_)
  · obtain ⟨v, rfl⟩ := hpi r h' hp
    refine Vw_br C0 rfl rfl (fun c1 => ?_) (fun c1 => ?_)
    · refine Vw_s C0 rfl rfl ?_
      refine Vw_last C0 (q0 := 0) (i := 0) rfl rfl (by omega) (by omega) ?_
      refine Vw_go C0 rfl ?_
      refine Vw_s C0 rfl rfl ?_
      exact RT (f' := vp_updL f 0 0) (h' := h') (Nat.zero_le _) (Nat.zero_le _) rfl (Or.inl ⟨v, hp, rfl, by rw [vpu]; rw [if_pos rfl, if_pos c1]⟩)
    · refine Vw_s C0 rfl rfl ?_
      refine Vw_go C0 rfl ?_
      refine Vw_last C0 (q0 := 0) (i := 0) rfl rfl (by omega) (by omega) ?_
      refine Vw_go C0 rfl ?_
      refine Vw_s C0 rfl rfl ?_
      exact RT (f' := vp_updL f 0 1) (h' := h') (Nat.zero_le _) (Nat.zero_le _) rfl (Or.inl ⟨v, hp, rfl, by rw [vpu]; rw [if_pos rfl, if_neg c1]⟩)
  · rcases hpe E h' hp with rfl | rfl
    · refine ⟨(0, 19, 22, 19), rfl, ?_⟩
      refine Vw_s C0 rfl rfl ?_
      refine Vw_s C0 rfl rfl ?_
      exact RT (f' := f) (h' := h') (Nat.le_refl _) (Nat.le_refl _) rfl (Or.inr ⟨1, hE, hp, rfl, rfl⟩)
    · refine ⟨(0, 19, 26, 21), rfl, ?_⟩
      refine Vw_s C0 rfl rfl ?_
      refine Vw_s C0 rfl rfl ?_
      exact RT (f' := f) (h' := h') (Nat.le_refl _) (Nat.le_refl _) rfl (Or.inr ⟨2, hE, hp, rfl, rfl⟩)
set_option maxRecDepth 4000 in
set_option maxHeartbeats 1000000 in
theorem h_keeps {l : Launch} {D : va_G} {cA : Nat → ClassId} {ad : Nat → Nat} {o : Nat} {f : Nat → Int64}  {h : Hp} {post : Option Value → Hp → Prop} {pst : Nat → Hp → Prop} (hM : CtT l y_TO_keeps prog_1_method_18_code 4 (some .boolean) (rmT 8) D cls cA slC (StX ad) ad (.ref 0 :: []) h post pst) (hpi : ∀ r h', post r h' → ∃ v, r = some (.int v)) (hpe : ∀ E h', pst E h' → E = 0) : CtH l y_La_keeps method_18_code 3 [(0, 15, 18, 13)] D cA ad o f [.ref (ad 0), .ref o] h (HR true post pst f 1 0 0) := by
  refine CtH_of (tl := T_La_keeps) rfl tk_La_keeps (Nat.le_of_ble_eq_true rfl) ?_
  intro p e s m args below meth c A Q C0 hml hA hst hnc hex RT
  refine Vw_s C0 rfl rfl ?_
  refine Vw_s C0 rfl rfl ?_
  refine Vw_s C0 rfl rfl ?_
  refine Vw_callT (ws := [(o, .inl (cA 1, 1, .inr (.inl f)))]) C0 hml hA hst hnc hex rfl cw_La_69 rfl ⟨⟨Nat.le_of_ble_eq_true rfl, Nat.le_of_ble_eq_true rfl⟩, Nat.le_of_ble_eq_true rfl, Nat.le_of_ble_eq_true rfl⟩ (As := []) rfl hM (rs := [.int 0, .ref o]) (Nat.le_of_ble_eq_true rfl) (by decide) (fun r h' hp => ?_) (fun E h' q hE hp => ?_)
  · obtain ⟨v, rfl⟩ := hpi r h' hp
    refine Vw_br C0 rfl rfl (fun c1 => ?_) (fun c1 => ?_)
    · refine Vw_s C0 rfl rfl ?_
      refine Vw_last C0 (q0 := 0) (i := 0) rfl rfl (by omega) (by omega) ?_
      refine Vw_go C0 rfl ?_
      refine Vw_s C0 rfl rfl ?_
      exact RT (f' := vp_updL f 0 0) (h' := h') (Nat.zero_le _) (Nat.zero_le _) rfl (Or.inl ⟨v, hp, rfl, by rw [vpu]; rw [if_pos rfl, if_pos c1]⟩)
    · refine Vw_s C0 rfl rfl ?_
      refine Vw_go C0 rfl ?_
      refine Vw_last C0 (q0 := 0) (i := 0) rfl rfl (by omega) (by omega) ?_
      refine Vw_go C0 rfl ?_
      refine Vw_s C0 rfl rfl ?_
      exact RT (f' := vp_updL f 0 1) (h' := h') (Nat.zero_le _) (Nat.zero_le _) rfl (Or.inl ⟨v, hp, rfl, by rw [vpu]; rw [if_pos rfl, if_neg c1]⟩)
  · have hE1 := hpe E h' hp
    subst hE1
    refine ⟨(0, 15, 18, 13), rfl, ?_⟩
    refine Vw_s C0 rfl rfl ?_
    refine Vw_s C0 rfl rfl ?_
    exact RT (f' := f) (h' := h') (Nat.le_refl _) (Nat.le_refl _) rfl (Or.inr ⟨0, hE, hp, rfl, rfl⟩)
set_option maxRecDepth 4000 in
set_option maxHeartbeats 1000000 in
theorem h_clamp {l : Launch} {D : va_G} {cA : Nat → ClassId} {ad : Nat → Nat} {o : Nat} {f : Nat → Int64} (x0 : Int32) (x1 : Int32) (x2 : Int64) {h : Hp} {post : Option Value → Hp → Prop} {pst : Nat → Hp → Prop} (hM : CtT l y_TO_clamp prog_1_method_19_code 6 (some .int) (rmT 8) D cls cA slC (StX ad) ad (.ref 0 :: [.int x0, .int x1, .long x2]) h post pst) (hpi : ∀ r h', post r h' → ∃ v, r = some (.int v)) (hpe : ∀ E h', pst E h' → E = 1 ∨ E = 2) : CtH l y_La_clamp method_19_code 7 [(0, 12, 15, 19), (0, 12, 19, 21)] D cA ad o f [.ref (ad 0), .int x0, .int x1, .long x2, .ref o] h (HR false post pst f 0 1 2) := by
  refine CtH_of (tl := T_La_clamp) rfl tk_La_clamp (Nat.le_of_ble_eq_true rfl) ?_
  intro p e s m args below meth c A Q C0 hml hA hst hnc hex RT
  refine Vw_s C0 rfl rfl ?_
  refine Vw_s C0 rfl rfl ?_
  refine Vw_s C0 rfl rfl ?_
  refine Vw_s C0 rfl rfl ?_
  refine Vw_s C0 rfl rfl ?_
  refine Vw_s C0 rfl rfl ?_
  refine Vw_callT (ws := [(o, .inl (cA 1, 1, .inr (.inl f)))]) C0 hml hA hst hnc hex rfl cw_La_73 rfl ⟨⟨Nat.le_of_ble_eq_true rfl, Nat.le_of_ble_eq_true rfl⟩, Nat.le_of_ble_eq_true rfl, Nat.le_of_ble_eq_true rfl⟩ (As := [.int x0, .int x1, .long x2]) rfl hM (rs := [.int 0, .ref o]) (Nat.le_of_ble_eq_true rfl) (by decide) (fun r h' hp => ?_) (fun E h' q hE hp => ?_)
  · obtain ⟨v, rfl⟩ := hpi r h' hp
    refine Vw_s C0 rfl rfl ?_
    refine Vw_last C0 (q0 := 0) (i := 0) rfl rfl (by omega) (by omega) ?_
    refine Vw_go C0 rfl ?_
    refine Vw_s C0 rfl rfl ?_
    exact RT (f' := vp_updL f 0 v.toInt64) (h' := h') (Nat.zero_le _) (Nat.zero_le _) rfl (Or.inl ⟨v, hp, rfl, by rw [vpu]; rfl⟩)
  · rcases hpe E h' hp with rfl | rfl
    · refine ⟨(0, 12, 15, 19), rfl, ?_⟩
      refine Vw_s C0 rfl rfl ?_
      refine Vw_s C0 rfl rfl ?_
      exact RT (f' := f) (h' := h') (Nat.le_refl _) (Nat.le_refl _) rfl (Or.inr ⟨1, hE, hp, rfl, rfl⟩)
    · refine ⟨(0, 12, 19, 21), rfl, ?_⟩
      refine Vw_s C0 rfl rfl ?_
      refine Vw_s C0 rfl rfl ?_
      exact RT (f' := f) (h' := h') (Nat.le_refl _) (Nat.le_refl _) rfl (Or.inr ⟨2, hE, hp, rfl, rfl⟩)
end HLB
