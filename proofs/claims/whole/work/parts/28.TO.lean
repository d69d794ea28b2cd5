/-! The class's own methods, first half: what is asked ahead, and those that change -/
section TOa
variable {l : Launch} {D : va_G} {cA : Nat → ClassId} {ad : Nat → Nat}
theorem XT {d : Nat} {own : String} {tl : List (Nat × RowE)} {cl : List vw_C} {sl : List Sh} {St : (Nat → Prop) → State → Heap → Prop} : XOk d own tl D cl cA sl St ad (fun _ => True) := fun _ _ _ _ _ _ _ _ _ _ _ _ _ _ _ _ _ _ _ => trivial
section
variable {sl : List Sh} {tl : List (Nat × RowE)} {V : VT} {pc n nx tg x wd o N d : Nat} {k : Int32} {K : Int64} {lv : List (Option Value)} {h : Hp} {cl : List vw_C} {St : (Nat → Prop) → State → Heap → Prop} {own : String} {pst : Nat → Hp → Prop}
theorem ClT.ct (C : ClT l d D cl cA sl St ad own tl pst V) {y : MethodName} {bytes : ByteArray} {maxL : Nat} {ret : Option FieldType} {d1 b ci M : Nat} {fs : List Nat} {T : u_T} (As : List Value) {post : Option Value → Hp → Prop} {pst2 : Nat → Hp → Prop} (st : List Value) (h1 : lkT tl pc = some (.invokevirtual o, n, nx, tg, x, wd, k, K)) (cw : CwV own o y bytes maxL ret N) (hd : d1 < d) (hm : maxL ≤ 40) (hb1 : sl[b]? = some (.inl (ci, fs))) (hb2 : cl[ci]? = some (y.cls, T, M)) (hN : As.length = N)
    (hM : CtT l y bytes maxL ret (rmT d1) D cl cA sl St ad (.ref b :: As) h post pst2) (hs8 : (st.map fun v => v.category).sum ≤ 8) (kk : ∀ (r : Option Value) (h' : Hp), post r h' → V nx lv (r.toList ++ st) h') (kt : ∀ (E : Nat) (h' : Hp), pst2 E h' → pst E h') : V pc lv (As.reverse ++ .ref b :: st) h := C pc n nx tg x wd o k K y bytes maxL ret d1 N b ci M fs T As h post pst2 lv st h1 cw hd hm hb1 hb2 hN hM hs8 kk kt
theorem Thr.t (H : Thr tl pst V) (E k : Nat) {pc p2 p3 p4 p5 n1 n2 n3 n4 n5 g1 g2 g3 g4 g5 x1 x2 x3 x4 x5 w1 w2 w3 w4 w5 q5 : Nat} {k1 k2 k3 k4 k5 : Int32} {K1 K2 K3 K4 K5 : Int64} {st : List Value} (hE : E < 3) (h1 : lkT tl pc = some (.new (exC E), n1, p2, g1, x1, w1, k1, K1)) (h2 : lkT tl p2 = some (.dup, n2, p3, g2, x2, w2, k2, K2)) (h3 : lkT tl p3 = some (.ldc k, n3, p4, g3, x3, w3, k3, K3) ∨ lkT tl p3 = some (.ldc_w k, n3, p4, g3, x3, w3, k3, K3)) (hk : k ∈ strK) (h4 : lkT tl p4 = some (.invokespecial (exI E), n4, p5, g4, x4, w4, k4, K4)) (h5 : lkT tl p5 = some (.athrow, n5, q5, g5, x5, w5, k5, K5)) (hs8 : (st.map fun v => v.category).sum ≤ 8) (hp : pst E h) : V pc lv st h :=
  H E k pc p2 p3 p4 p5 n1 n2 n3 n4 n5 g1 g2 g3 g4 g5 x1 x2 x3 x4 x5 w1 w2 w3 w4 w5 q5 k1 k2 k3 k4 k5 K1 K2 K3 K4 K5 lv st h hE h1 h2 h3 hk h4 h5 hs8 hp
end
/-- a contract under more knowledge -/
theorem Ct.more {y : MethodName} {bytes : ByteArray} {maxL : Nat} {ret : Option FieldType} {rm : Room} {cl : List vw_C} {sl : List Sh} {St St' : (Nat → Prop) → State → Heap → Prop} {avs : List Value} {h : Hp} {post : Option Value → Hp → Prop} (hS : ∀ A U H, St' A U H → St A U H) (hM : Ct l y bytes maxL ret rm D cl cA sl St ad avs h post) : Ct l y bytes maxL ret rm D cl cA sl St' ad avs h post := by
  intro sz p e ha hc hk s m args below hf happ hP hK
  obtain ⟨q0, q1, qP, qK, qD, qS⟩ := hP
  exact hM sz p e ha hc hk s m args below hf happ ⟨q0, q1, qP, qK, qD, hS _ _ _ qS⟩ hK
theorem StX_T (A : Nat → Prop) (U : State) (H : Heap) (h : StX ad A U H) : StT ad A U H := h.1
theorem i01 {P : Prop} [Decidable P] : (if P then (1 : Int32) else 0) = 0 ↔ ¬ P := by
  by_cases h : P
  · simp [h]
  · simp [h]
abbrev pOk (h : Hp) (x : Int32) : Prop := 0 ≤ x ∧ x < h.1 1 0
abbrev plc (v : Int64) : Prop := -1000000 ≤ v ∧ v ≤ 1000000
abbrev siz (v : Int64) : Prop := 1 ≤ v ∧ v ≤ 1000000
abbrev slt (v : Int64) : Prop := -1000 ≤ v ∧ v ≤ 1000
theorem c_TO_needPart (hfl : l.flags = flags0) (h : Hp) (x : Int32) : CtT l y_TO_needPart prog_1_method_20_code 2 none (rmT 6) D cls cA slC (StX ad) ad [.ref 0, .int x] h (fun r h' => pOk h x ∧ r = none ∧ h' = h) (fun E h' => ¬ pOk h x ∧ E = 1 ∧ h' = h) := by
  refine CtT.of (tl := T_TO_needPart) _ XT hfl (by omega) rfl tk_TO_needPart cls_ok (Nat.le_of_ble_eq_true rfl) (fun V G E C CT TH _ => ?_)
  repeat (first | refine G.sx (fun _ => false) rfl rfl rfl ?_ | refine G.gox (fun _ => false) rfl rfl rfl ?_ | refine G.getx (fun _ => false) rfl rfl rfl rfl ?_)
  refine C.cv [.int x] [] rfl cw_TO_260 (d1 := 1) (by omega) (by omega) rfl rfl rfl (c_It_has (StX_ok ad) h x) (by decide) (fun r h1 hq => ?_)
  obtain ⟨rfl, rfl⟩ := hq
  refine G.br rfl rfl (fun c1 => ?_) (fun c1 => ?_)
  · repeat (first | refine G.sx (fun _ => false) rfl rfl rfl ?_ | refine G.gox (fun _ => false) rfl rfl rfl ?_ | refine G.getx (fun _ => false) rfl rfl rfl rfl ?_)
    exact E.rv rfl rfl ⟨Decidable.not_not.mp (fun z => c1 (i01.mpr z)), rfl, rfl⟩
  · exact TH.t 1 261 (by decide) rfl rfl (Or.inr rfl) (by decide) rfl rfl (by decide) ⟨i01.mp c1, rfl, rfl⟩
theorem c_TO_needTwoParts (hfl : l.flags = flags0) (h : Hp) (a b : Int32) : CtT l y_TO_needTwoParts prog_1_method_21_code 3 none (rmT 7) D cls cA slC (StX ad) ad [.ref 0, .int a, .int b] h (fun r h' => (pOk h a ∧ pOk h b ∧ a ≠ b) ∧ r = none ∧ h' = h) (fun E h' => (¬ (pOk h a ∧ pOk h b) ∧ E = 1 ∨ (pOk h a ∧ pOk h b) ∧ a = b ∧ E = 2) ∧ h' = h) := by
  refine CtT.of (tl := T_TO_needTwoParts) _ XT hfl (by omega) rfl tk_TO_needTwoParts cls_ok (Nat.le_of_ble_eq_true rfl) (fun V G E C CT TH _ => ?_)
  repeat (first | refine G.sx (fun _ => false) rfl rfl rfl ?_ | refine G.gox (fun _ => false) rfl rfl rfl ?_ | refine G.getx (fun _ => false) rfl rfl rfl rfl ?_)
  refine CT.ct [.int a] [] rfl cw_TO_90 (d1 := 6) (by omega) (by omega) rfl rfl rfl (c_TO_needPart hfl h a) (by decide) (fun r h1 hq => ?_) (fun F h1 hq => ⟨Or.inl ⟨fun z => hq.1 z.1, hq.2.1⟩, hq.2.2⟩)
  obtain ⟨pa, rfl, rfl⟩ := hq
  repeat (first | refine G.sx (fun _ => false) rfl rfl rfl ?_ | refine G.gox (fun _ => false) rfl rfl rfl ?_ | refine G.getx (fun _ => false) rfl rfl rfl rfl ?_)
  refine CT.ct [.int b] [] rfl cw_TO_90 (d1 := 6) (by omega) (by omega) rfl rfl rfl (c_TO_needPart hfl h1 b) (by decide) (fun r h2 hq => ?_) (fun F h2 hq => ⟨Or.inl ⟨fun z => hq.1 z.2, hq.2.1⟩, hq.2.2⟩)
  obtain ⟨pb, rfl, rfl⟩ := hq
  repeat (first | refine G.sx (fun _ => false) rfl rfl rfl ?_ | refine G.gox (fun _ => false) rfl rfl rfl ?_ | refine G.getx (fun _ => false) rfl rfl rfl rfl ?_)
  refine G.br rfl rfl (fun c1 => ?_) (fun c1 => ?_)
  · repeat (first | refine G.sx (fun _ => false) rfl rfl rfl ?_ | refine G.gox (fun _ => false) rfl rfl rfl ?_ | refine G.getx (fun _ => false) rfl rfl rfl rfl ?_)
    exact E.rv rfl rfl ⟨⟨pa, pb, c1⟩, rfl, rfl⟩
  · exact TH.t 2 263 (by decide) rfl rfl (Or.inr rfl) (by decide) rfl rfl (by decide) ⟨Or.inr ⟨⟨pa, pb⟩, c1, rfl⟩, rfl⟩
theorem c_TO_needNumber (hfl : l.flags = flags0) (h : Hp) (x : Int32) : CtT l y_TO_needNumber prog_1_method_22_code 2 none (rmT 6) D cls cA slC (StX ad) ad [.ref 0, .int x] h (fun r h' => 0 ≤ x ∧ r = none ∧ h' = h) (fun E h' => ¬ 0 ≤ x ∧ E = 1 ∧ h' = h) := by
  refine CtT.of (tl := T_TO_needNumber) _ XT hfl (by omega) rfl tk_TO_needNumber cls_ok (Nat.le_of_ble_eq_true rfl) (fun V G E C CT TH _ => ?_)
  repeat (first | refine G.sx (fun _ => false) rfl rfl rfl ?_ | refine G.gox (fun _ => false) rfl rfl rfl ?_ | refine G.getx (fun _ => false) rfl rfl rfl rfl ?_)
  refine G.br rfl rfl (fun c1 => ?_) (fun c1 => ?_)
  · repeat (first | refine G.sx (fun _ => false) rfl rfl rfl ?_ | refine G.gox (fun _ => false) rfl rfl rfl ?_ | refine G.getx (fun _ => false) rfl rfl rfl rfl ?_)
    exact E.rv rfl rfl ⟨c1, rfl, rfl⟩
  · exact TH.t 1 265 (by decide) rfl rfl (Or.inr rfl) (by decide) rfl rfl (by decide) ⟨c1, rfl, rfl⟩
theorem c_TO_needRun (hfl : l.flags = flags0) (h : Hp) : CtT l y_TO_needRun prog_1_method_23_code 1 none (rmT 6) D cls cA slC (StX ad) ad [.ref 0] h (fun r h' => ¬ h.1 0 8 = 0 ∧ r = none ∧ h' = h) (fun E h' => h.1 0 8 = 0 ∧ E = 0 ∧ h' = h) := by
  refine CtT.of (tl := T_TO_needRun) _ XT hfl (by omega) rfl tk_TO_needRun cls_ok (Nat.le_of_ble_eq_true rfl) (fun V G E C CT TH _ => ?_)
  repeat (first | refine G.sx (fun _ => false) rfl rfl rfl ?_ | refine G.gox (fun _ => false) rfl rfl rfl ?_ | refine G.getx (fun _ => false) rfl rfl rfl rfl ?_)
  refine G.br rfl rfl (fun c1 => ?_) (fun c1 => ?_)
  · repeat (first | refine G.sx (fun _ => false) rfl rfl rfl ?_ | refine G.gox (fun _ => false) rfl rfl rfl ?_ | refine G.getx (fun _ => false) rfl rfl rfl rfl ?_)
    exact E.rv rfl rfl ⟨c1, rfl, rfl⟩
  · exact TH.t 0 267 (by decide) rfl rfl (Or.inr rfl) (by decide) rfl rfl (by decide) ⟨c1, rfl, rfl⟩
theorem c_TO_needSteps (hfl : l.flags = flags0) (h : Hp) : CtT l y_TO_needSteps prog_1_method_24_code 1 none (rmT 7) D cls cA slC (StX ad) ad [.ref 0] h (fun r h' => (¬ h.1 0 8 = 0 ∧ h.1 6 6 = 0) ∧ r = none ∧ h' = h) (fun E h' => ¬ (¬ h.1 0 8 = 0 ∧ h.1 6 6 = 0) ∧ E = 0 ∧ h' = h) := by
  refine CtT.of (tl := T_TO_needSteps) _ XT hfl (by omega) rfl tk_TO_needSteps cls_ok (Nat.le_of_ble_eq_true rfl) (fun V G E C CT TH _ => ?_)
  repeat (first | refine G.sx (fun _ => false) rfl rfl rfl ?_ | refine G.gox (fun _ => false) rfl rfl rfl ?_ | refine G.getx (fun _ => false) rfl rfl rfl rfl ?_)
  refine CT.ct [] [] rfl cw_TO_191 (d1 := 6) (by omega) (by omega) rfl rfl rfl (c_TO_needRun hfl h) (by decide) (fun r h1 hq => ?_) (fun F h1 hq => ⟨fun z => z.1 hq.1, hq.2.1, hq.2.2⟩)
  obtain ⟨pa, rfl, rfl⟩ := hq
  repeat (first | refine G.sx (fun _ => false) rfl rfl rfl ?_ | refine G.gox (fun _ => false) rfl rfl rfl ?_ | refine G.getx (fun _ => false) rfl rfl rfl rfl ?_)
  refine G.br rfl rfl (fun c1 => ?_) (fun c1 => ?_)
  · repeat (first | refine G.sx (fun _ => false) rfl rfl rfl ?_ | refine G.gox (fun _ => false) rfl rfl rfl ?_ | refine G.getx (fun _ => false) rfl rfl rfl rfl ?_)
    exact E.rv rfl rfl ⟨⟨pa, c1⟩, rfl, rfl⟩
  · exact TH.t 0 269 (by decide) rfl rfl (Or.inr rfl) (by decide) rfl rfl (by decide) ⟨fun z => c1 z.2, rfl, rfl⟩
theorem c_TO_isPlace (h : Hp) (v : Int64) : Ct l y_TO_isPlace prog_1_method_25_code 2 (some .boolean) (rmD 1) D cls cA slC (StX ad) ad [.long v] h (fun r h' => r = some (.int (if plc v then 1 else 0)) ∧ h' = h) := by
  refine Ct.of (tl := T_TO_isPlace) (by decide) tk_TO_isPlace cls_ok (StX_ok ad) (Nat.le_of_ble_eq_true rfl) (fun V G E C => ?_)
  repeat (first | refine G.sx (fun _ => false) rfl rfl rfl ?_ | refine G.gox (fun _ => false) rfl rfl rfl ?_ | refine G.getx (fun _ => false) rfl rfl rfl rfl ?_)
  refine G.br rfl rfl (fun c1 => ?_) (fun c1 => ?_)
  · repeat (first | refine G.sx (fun _ => false) rfl rfl rfl ?_ | refine G.gox (fun _ => false) rfl rfl rfl ?_ | refine G.getx (fun _ => false) rfl rfl rfl rfl ?_)
    refine E.ri rfl (Or.inr ⟨rfl, Or.inl rfl⟩) ⟨?_, rfl⟩
    rw [if_neg (fun z => absurd (cmp_lt.mp c1) (Int64.not_lt.mpr z.1))]
  · repeat (first | refine G.sx (fun _ => false) rfl rfl rfl ?_ | refine G.gox (fun _ => false) rfl rfl rfl ?_ | refine G.getx (fun _ => false) rfl rfl rfl rfl ?_)
    refine G.br rfl rfl (fun c2 => ?_) (fun c2 => ?_)
    · repeat (first | refine G.sx (fun _ => false) rfl rfl rfl ?_ | refine G.gox (fun _ => false) rfl rfl rfl ?_ | refine G.getx (fun _ => false) rfl rfl rfl rfl ?_)
      refine E.ri rfl (Or.inr ⟨rfl, Or.inl rfl⟩) ⟨?_, rfl⟩
      rw [if_neg (fun z => absurd (cmp_gt.mp c2) (Int64.not_lt.mpr z.2))]
    · repeat (first | refine G.sx (fun _ => false) rfl rfl rfl ?_ | refine G.gox (fun _ => false) rfl rfl rfl ?_ | refine G.getx (fun _ => false) rfl rfl rfl rfl ?_)
      refine E.ri rfl (Or.inr ⟨rfl, Or.inr rfl⟩) ⟨?_, rfl⟩
      rw [if_pos ⟨Int64.not_lt.mp (fun z => c1 (cmp_lt.mpr z)), Int64.not_lt.mp (fun z => c2 (cmp_gt.mpr z))⟩]
theorem c_TO_isSize (h : Hp) (v : Int64) : Ct l y_TO_isSize prog_1_method_26_code 2 (some .boolean) (rmD 1) D cls cA slC (StX ad) ad [.long v] h (fun r h' => r = some (.int (if siz v then 1 else 0)) ∧ h' = h) := by
  refine Ct.of (tl := T_TO_isSize) (by decide) tk_TO_isSize cls_ok (StX_ok ad) (Nat.le_of_ble_eq_true rfl) (fun V G E C => ?_)
  repeat (first | refine G.sx (fun _ => false) rfl rfl rfl ?_ | refine G.gox (fun _ => false) rfl rfl rfl ?_ | refine G.getx (fun _ => false) rfl rfl rfl rfl ?_)
  refine G.br rfl rfl (fun c1 => ?_) (fun c1 => ?_)
  · repeat (first | refine G.sx (fun _ => false) rfl rfl rfl ?_ | refine G.gox (fun _ => false) rfl rfl rfl ?_ | refine G.getx (fun _ => false) rfl rfl rfl rfl ?_)
    refine E.ri rfl (Or.inr ⟨rfl, Or.inl rfl⟩) ⟨?_, rfl⟩
    rw [if_neg (fun z => absurd (cmp_lt.mp c1) (Int64.not_lt.mpr z.1))]
  · repeat (first | refine G.sx (fun _ => false) rfl rfl rfl ?_ | refine G.gox (fun _ => false) rfl rfl rfl ?_ | refine G.getx (fun _ => false) rfl rfl rfl rfl ?_)
    refine G.br rfl rfl (fun c2 => ?_) (fun c2 => ?_)
    · repeat (first | refine G.sx (fun _ => false) rfl rfl rfl ?_ | refine G.gox (fun _ => false) rfl rfl rfl ?_ | refine G.getx (fun _ => false) rfl rfl rfl rfl ?_)
      refine E.ri rfl (Or.inr ⟨rfl, Or.inl rfl⟩) ⟨?_, rfl⟩
      rw [if_neg (fun z => absurd (cmp_gt.mp c2) (Int64.not_lt.mpr z.2))]
    · repeat (first | refine G.sx (fun _ => false) rfl rfl rfl ?_ | refine G.gox (fun _ => false) rfl rfl rfl ?_ | refine G.getx (fun _ => false) rfl rfl rfl rfl ?_)
      refine E.ri rfl (Or.inr ⟨rfl, Or.inr rfl⟩) ⟨?_, rfl⟩
      rw [if_pos ⟨Int64.not_lt.mp (fun z => c1 (cmp_lt.mpr z)), Int64.not_lt.mp (fun z => c2 (cmp_gt.mpr z))⟩]
theorem c_TO_isSlant (h : Hp) (v : Int64) : Ct l y_TO_isSlant prog_1_method_27_code 2 (some .boolean) (rmD 1) D cls cA slC (StX ad) ad [.long v] h (fun r h' => r = some (.int (if slt v then 1 else 0)) ∧ h' = h) := by
  refine Ct.of (tl := T_TO_isSlant) (by decide) tk_TO_isSlant cls_ok (StX_ok ad) (Nat.le_of_ble_eq_true rfl) (fun V G E C => ?_)
  repeat (first | refine G.sx (fun _ => false) rfl rfl rfl ?_ | refine G.gox (fun _ => false) rfl rfl rfl ?_ | refine G.getx (fun _ => false) rfl rfl rfl rfl ?_)
  refine G.br rfl rfl (fun c1 => ?_) (fun c1 => ?_)
  · repeat (first | refine G.sx (fun _ => false) rfl rfl rfl ?_ | refine G.gox (fun _ => false) rfl rfl rfl ?_ | refine G.getx (fun _ => false) rfl rfl rfl rfl ?_)
    refine E.ri rfl (Or.inr ⟨rfl, Or.inl rfl⟩) ⟨?_, rfl⟩
    rw [if_neg (fun z => absurd (cmp_lt.mp c1) (Int64.not_lt.mpr z.1))]
  · repeat (first | refine G.sx (fun _ => false) rfl rfl rfl ?_ | refine G.gox (fun _ => false) rfl rfl rfl ?_ | refine G.getx (fun _ => false) rfl rfl rfl rfl ?_)
    refine G.br rfl rfl (fun c2 => ?_) (fun c2 => ?_)
    · repeat (first | refine G.sx (fun _ => false) rfl rfl rfl ?_ | refine G.gox (fun _ => false) rfl rfl rfl ?_ | refine G.getx (fun _ => false) rfl rfl rfl rfl ?_)
      refine E.ri rfl (Or.inr ⟨rfl, Or.inl rfl⟩) ⟨?_, rfl⟩
      rw [if_neg (fun z => absurd (cmp_gt.mp c2) (Int64.not_lt.mpr z.2))]
    · repeat (first | refine G.sx (fun _ => false) rfl rfl rfl ?_ | refine G.gox (fun _ => false) rfl rfl rfl ?_ | refine G.getx (fun _ => false) rfl rfl rfl rfl ?_)
      refine E.ri rfl (Or.inr ⟨rfl, Or.inr rfl⟩) ⟨?_, rfl⟩
      rw [if_pos ⟨Int64.not_lt.mp (fun z => c1 (cmp_lt.mpr z)), Int64.not_lt.mp (fun z => c2 (cmp_gt.mpr z))⟩]
end TOa
