/-! .. step, apart, locked, stage, turnings, two, hands, out, keeps -/
section TOd
variable {l : Launch} {D : va_G} {cA : Nat → ClassId} {ad : Nat → Nat}
/-- the run's record as the methods see it -/
abbrev RunV (h : Hp) (n : Nat) (it : Nat → Nat) (nb : Nat) (own : Nat → Nat) (nw : Nat) : Prop := h.1 0 8 = 0 ∨ h.1 0 8 = 1 ∧ RanI h n it nb own nw
theorem RunV.of {h : Hp} {n : Nat} {it : Nat → Nat} {nb : Nat} {own : Nat → Nat} {nw : Nat} (hr : RunV h n it nb own nw) (h8 : ¬ h.1 0 8 = 0) : h.1 0 8 = 1 ∧ RanI h n it nb own nw := by
  rcases hr with z | z
  · exact absurd z h8
  · exact z
theorem c_TO_apart (hfl : l.flags = flags0) {h : Hp} {n : Nat} {it : Nat → Nat} {nb : Nat} {own : Nat → Nat} {nw : Nat} (hr : RunV h n it nb own nw) (k : Int32) : CtT l y_TO_apart prog_1_method_10_code 2 (some .int) (rmT 8) D cls cA slC (StX ad) ad [.ref 0, .int k] h (fun r h' => (¬ h.1 0 8 = 0 ∧ 0 ≤ k) ∧ ∃ m j, PlI h (TC h it nb own nw) nw (allB it n) m ∧ k = nI j ∧ j < 2 ^ 31 ∧ r = some (.int (if j < m then nI (tkF (TC h it nb own nw) nw (allB it n) j) else -1)) ∧ h' = h) (fun E h' => h' = h ∧ (h.1 0 8 = 0 ∧ E = 0 ∨ ¬ h.1 0 8 = 0 ∧ ¬ 0 ≤ k ∧ E = 1)) := by
  refine CtT.of (tl := T_TO_apart) _ XT hfl (by omega) rfl tk_TO_apart cls_ok (Nat.le_of_ble_eq_true rfl) (fun V G E C CT TH _ => ?_)
  repeat (first | refine G.sx (fun _ => false) rfl rfl rfl ?_ | refine G.gox (fun _ => false) rfl rfl rfl ?_ | refine G.getx (fun _ => false) rfl rfl rfl rfl ?_)
  refine CT.ct [] [] rfl cw_TO_191 (d1 := 6) (by omega) (by omega) rfl rfl rfl (c_TO_needRun hfl h) (by decide) (fun r h1 hq => ?_) (fun F h1 hq => ⟨hq.2.2, Or.inl ⟨hq.1, hq.2.1⟩⟩)
  obtain ⟨pa, rfl, rfl⟩ := hq
  repeat (first | refine G.sx (fun _ => false) rfl rfl rfl ?_ | refine G.gox (fun _ => false) rfl rfl rfl ?_ | refine G.getx (fun _ => false) rfl rfl rfl rfl ?_)
  refine CT.ct [.int k] [] rfl cw_TO_194 (d1 := 6) (by omega) (by omega) rfl rfl rfl (c_TO_needNumber hfl h1 k) (by decide) (fun r h2 hq => ?_) (fun F h2 hq => ⟨hq.2.2, Or.inr ⟨pa, hq.1, hq.2.1⟩⟩)
  obtain ⟨pb, rfl, rfl⟩ := hq
  obtain ⟨-, -, ⟨m, hP, -⟩, -⟩ := hr.of pa
  obtain ⟨q1, q2, q3, q4⟩ := id hP
  obtain ⟨j, hj, rfl⟩ := nI_of (Int32.not_lt.mpr pb)
  repeat (first | refine G.sx (fun q => Nat.beq q 17) rfl rfl rfl ?_ | refine G.gox (fun q => Nat.beq q 17) rfl rfl rfl ?_ | refine G.getx (fun q => Nat.beq q 17) rfl rfl rfl rfl ?_)
  show V 17 _ [.int (h2.1 6 5), .int (nI j)] _
  rw [q1]
  refine G.br rfl rfl (fun c1 => ?_) (fun c1 => ?_)
  · have c1 : m ≤ j := (nI_leI (by omega) hj).mp c1
    repeat (first | refine G.sx (fun _ => false) rfl rfl rfl ?_ | refine G.gox (fun _ => false) rfl rfl rfl ?_ | refine G.getx (fun _ => false) rfl rfl rfl rfl ?_)
    refine E.ri rfl (Or.inl rfl) ⟨⟨pa, pb⟩, m, j, hP, rfl, hj, ?_, rfl⟩
    rw [if_neg (by omega)]
  · have c1 : j < m := Nat.lt_of_not_le (fun z => c1 ((nI_leI (by omega) hj).mpr z))
    repeat (first | refine G.sx (fun _ => false) rfl rfl rfl ?_ | refine G.gox (fun _ => false) rfl rfl rfl ?_ | refine G.getx (fun _ => false) rfl rfl rfl rfl ?_)
    refine G.ialn rfl rfl (by omega) (by decide) ?_
    rw [(q4 j c1).2.1]
    repeat (first | refine G.sx (fun _ => false) rfl rfl rfl ?_ | refine G.gox (fun _ => false) rfl rfl rfl ?_ | refine G.getx (fun _ => false) rfl rfl rfl rfl ?_)
    refine E.ri rfl (Or.inl rfl) ⟨⟨pa, pb⟩, m, j, hP, rfl, hj, ?_, rfl⟩
    rw [if_pos c1]
theorem c_TO_locked (hfl : l.flags = flags0) {h : Hp} {n : Nat} {it : Nat → Nat} {nb : Nat} {own : Nat → Nat} {nw : Nat} (hV : BV h n it nb own nw) (hr : RunV h n it nb own nw) (k : Int32) : CtT l y_TO_locked prog_1_method_11_code 2 (some .int) (rmT 8) D cls cA slC (StX ad) ad [.ref 0, .int k] h (fun r h' => (¬ h.1 0 8 = 0 ∧ 0 ≤ k) ∧ ∃ m, PlI h (TC h it nb own nw) nw (allB it n) m ∧ (m = 12 ∨ fstI (TC h it nb own nw) nw (plS (TC h it nb own nw) nw (allB it n) m) = none) ∧ r = some (.int (bAt (pOf it (plS (TC h it nb own nw) nw (allB it n) m) n) k 12 0 0)) ∧ h' = h) (fun E h' => h' = h ∧ (h.1 0 8 = 0 ∧ E = 0 ∨ ¬ h.1 0 8 = 0 ∧ ¬ 0 ≤ k ∧ E = 1)) := by
  obtain ⟨hC, -⟩ := hV
  have n12 := hC.1.2.1
  have hA : allB it n < 4096 := allB_lt n hC.1.2.1 (fun i hi => (hC.1.2.2 i hi).2)
  refine CtT.of (tl := T_TO_locked) _ XT hfl (by omega) rfl tk_TO_locked cls_ok (Nat.le_of_ble_eq_true rfl) (fun V G E C CT TH _ => ?_)
  repeat (first | refine G.sx (fun _ => false) rfl rfl rfl ?_ | refine G.gox (fun _ => false) rfl rfl rfl ?_ | refine G.getx (fun _ => false) rfl rfl rfl rfl ?_)
  refine CT.ct [] [] rfl cw_TO_191 (d1 := 6) (by omega) (by omega) rfl rfl rfl (c_TO_needRun hfl h) (by decide) (fun r h1 hq => ?_) (fun F h1 hq => ⟨hq.2.2, Or.inl ⟨hq.1, hq.2.1⟩⟩)
  obtain ⟨pa, rfl, rfl⟩ := hq
  repeat (first | refine G.sx (fun _ => false) rfl rfl rfl ?_ | refine G.gox (fun _ => false) rfl rfl rfl ?_ | refine G.getx (fun _ => false) rfl rfl rfl rfl ?_)
  refine CT.ct [.int k] [] rfl cw_TO_194 (d1 := 6) (by omega) (by omega) rfl rfl rfl (c_TO_needNumber hfl h1 k) (by decide) (fun r h2 hq => ?_) (fun F h2 hq => ⟨hq.2.2, Or.inr ⟨pa, hq.1, hq.2.1⟩⟩)
  obtain ⟨pb, rfl, rfl⟩ := hq
  obtain ⟨-, -, ⟨m, hP, hm⟩, -⟩ := hr.of pa
  obtain ⟨q1, q2, q3, q4⟩ := id hP
  repeat (first | refine G.sx (fun q => Nat.beq q 20) rfl rfl rfl ?_ | refine G.gox (fun q => Nat.beq q 20) rfl rfl rfl ?_ | refine G.getx (fun q => Nat.beq q 20) rfl rfl rfl rfl ?_)
  show V 20 _ [.int (h2.1 6 6), .ref 1] _
  rw [q2]
  refine C.cv [.int (nI (plS (TC h2 it nb own nw) nw (allB it n) m))] [] rfl cw_TO_188 (d1 := 1) (by omega) (by omega) rfl rfl rfl (c_It_partsOf (StX_ok ad) hC.1 _ (plS_lt hA m)) (by decide) (fun r h3 hq => ?_)
  obtain ⟨rfl, rfl⟩ := hq
  repeat (first | refine G.sx (fun _ => false) rfl rfl rfl ?_ | refine G.gox (fun _ => false) rfl rfl rfl ?_ | refine G.getx (fun _ => false) rfl rfl rfl rfl ?_)
  refine C.cs [.int (nI (pOf it (plS (TC h3 it nb own nw) nw (allB it n) m) n)), .int k] [] rfl cw_TO_201 (d1 := 1) (by omega) (by omega) rfl (c_It_bitAt (StX_ok ad) h3 _ (Nat.lt_trans (pOf_lt n n12) (by decide)) k) (by decide) (fun r h4 hq => ?_)
  obtain ⟨rfl, rfl⟩ := hq
  exact E.ri rfl (Or.inl rfl) ⟨⟨pa, pb⟩, m, hP, hm, rfl, rfl⟩
theorem c_TO_stage (hfl : l.flags = flags0) {h : Hp} {n : Nat} {it : Nat → Nat} {nb : Nat} {own : Nat → Nat} {nw : Nat} (hr : RunV h n it nb own nw) (k : Int32) : CtT l y_TO_stage prog_1_method_12_code 2 (some .int) (rmT 8) D cls cA slC (StX ad) ad [.ref 0, .int k] h (fun r h' => ((¬ h.1 0 8 = 0 ∧ h.1 6 6 = 0) ∧ 0 ≤ k) ∧ ∃ m, PlI h (TC h it nb own nw) nw (allB it n) m ∧ r = some (.int (stF (fun i => h.1 21 (m - 1 - i)) k m 0 0)) ∧ h' = h) (fun E h' => h' = h ∧ (¬ (¬ h.1 0 8 = 0 ∧ h.1 6 6 = 0) ∧ E = 0 ∨ (¬ h.1 0 8 = 0 ∧ h.1 6 6 = 0) ∧ ¬ 0 ≤ k ∧ E = 1)) := by
  refine CtT.of (tl := T_TO_stage) _ XT hfl (by omega) rfl tk_TO_stage cls_ok (Nat.le_of_ble_eq_true rfl) (fun V G E C CT TH _ => ?_)
  repeat (first | refine G.sx (fun _ => false) rfl rfl rfl ?_ | refine G.gox (fun _ => false) rfl rfl rfl ?_ | refine G.getx (fun _ => false) rfl rfl rfl rfl ?_)
  refine CT.ct [] [] rfl cw_TO_174 (d1 := 7) (by omega) (by omega) rfl rfl rfl (c_TO_needSteps hfl h) (by decide) (fun r h1 hq => ?_) (fun F h1 hq => ⟨hq.2.2, Or.inl ⟨hq.1, hq.2.1⟩⟩)
  obtain ⟨pa, rfl, rfl⟩ := hq
  repeat (first | refine G.sx (fun _ => false) rfl rfl rfl ?_ | refine G.gox (fun _ => false) rfl rfl rfl ?_ | refine G.getx (fun _ => false) rfl rfl rfl rfl ?_)
  refine CT.ct [.int k] [] rfl cw_TO_194 (d1 := 6) (by omega) (by omega) rfl rfl rfl (c_TO_needNumber hfl h1 k) (by decide) (fun r h2 hq => ?_) (fun F h2 hq => ⟨hq.2.2, Or.inr ⟨pa, hq.1, hq.2.1⟩⟩)
  obtain ⟨pb, rfl, rfl⟩ := hq
  obtain ⟨-, -, ⟨m, hP, -⟩, -⟩ := hr.of pa.1
  repeat (first | refine G.sx (fun _ => false) rfl rfl rfl ?_ | refine G.gox (fun _ => false) rfl rfl rfl ?_ | refine G.getx (fun _ => false) rfl rfl rfl rfl ?_)
  refine C.cv [.int k] [] rfl cw_TO_205 (d1 := 2) (by omega) (by omega) rfl rfl rfl (c_Pl_firstStepOfStage (StX_ok ad) hP.1 hP.2.2.1 k) (by decide) (fun r h3 hq => ?_)
  obtain ⟨rfl, rfl⟩ := hq
  exact E.ri rfl (Or.inl rfl) ⟨⟨pa, pb⟩, m, hP, rfl, rfl⟩
theorem c_TO_step (hfl : l.flags = flags0) {h : Hp} {n : Nat} {it : Nat → Nat} {nb : Nat} {own : Nat → Nat} {nw : Nat} (hV : BV h n it nb own nw) (hr : RunV h n it nb own nw) (k t : Int32) : CtT l y_TO_step prog_1_method_9_code 4 (some .int) (rmT 8) D cls cA slC (StX ad) ad [.ref 0, .int k, .int t] h (fun r h' => (¬ h.1 0 8 = 0 ∧ h.1 6 6 = 0) ∧ (0 ≤ t ∧ t ≤ 2) ∧ ∃ m j, PlI h (TC h it nb own nw) nw (allB it n) m ∧ k = nI j ∧ j < m ∧ r = some (.int (if t = 1 then oI (lfw (TC h it nb own nw) nw (tkF (TC h it nb own nw) nw (allB it n) (m - 1 - j)) (plS (TC h it nb own nw) nw (allB it n) (m - 1 - j))) else if t = 0 then nI (tkF (TC h it nb own nw) nw (allB it n) (m - 1 - j)) else nI (pOf it (2 ^ tkF (TC h it nb own nw) nw (allB it n) (m - 1 - j)) n))) ∧ h' = h)
    (fun E h' => h' = h ∧ (¬ (¬ h.1 0 8 = 0 ∧ h.1 6 6 = 0) ∧ E = 0 ∨ (¬ h.1 0 8 = 0 ∧ h.1 6 6 = 0) ∧ (¬ (0 ≤ k ∧ k < h.1 6 5) ∧ E = 1 ∨ (0 ≤ k ∧ k < h.1 6 5) ∧ ¬ (0 ≤ t ∧ t ≤ 2) ∧ E = 2))) := by
  obtain ⟨hC, -⟩ := hV
  have n12 := hC.1.2.1
  have hA : allB it n < 4096 := allB_lt n hC.1.2.1 (fun i hi => (hC.1.2.2 i hi).2)
  refine CtT.of (tl := T_TO_step) _ XT hfl (by omega) rfl tk_TO_step cls_ok (Nat.le_of_ble_eq_true rfl) (fun V G E C CT TH _ => ?_)
  repeat (first | refine G.sx (fun _ => false) rfl rfl rfl ?_ | refine G.gox (fun _ => false) rfl rfl rfl ?_ | refine G.getx (fun _ => false) rfl rfl rfl rfl ?_)
  refine CT.ct [] [] rfl cw_TO_174 (d1 := 7) (by omega) (by omega) rfl rfl rfl (c_TO_needSteps hfl h) (by decide) (fun r h1 hq => ?_) (fun F h1 hq => ⟨hq.2.2, Or.inl ⟨hq.1, hq.2.1⟩⟩)
  obtain ⟨pa, rfl, rfl⟩ := hq
  obtain ⟨-, -, ⟨m, hP, -⟩, -⟩ := hr.of pa.1
  obtain ⟨q1, q2, q3, q4⟩ := id hP
  have T1 : ∀ lv, ¬ (0 ≤ k ∧ k < h1.1 6 5) → V 19 lv [] h1 := fun lv c => TH.t 1 177 (by decide) rfl rfl (Or.inl rfl) (by decide) rfl rfl (by decide) ⟨rfl, Or.inr ⟨pa, Or.inl ⟨c, rfl⟩⟩⟩
  repeat (first | refine G.sx (fun _ => false) rfl rfl rfl ?_ | refine G.gox (fun _ => false) rfl rfl rfl ?_ | refine G.getx (fun _ => false) rfl rfl rfl rfl ?_)
  refine G.br rfl rfl (fun c1 => T1 _ (fun q => absurd q.1 (Int32.not_le.mpr c1))) (fun c1 => ?_)
  repeat (first | refine G.sx (fun _ => false) rfl rfl rfl ?_ | refine G.gox (fun _ => false) rfl rfl rfl ?_ | refine G.getx (fun _ => false) rfl rfl rfl rfl ?_)
  refine G.br rfl rfl (fun c2 => ?_) (fun c2 => T1 _ (fun q => c2 q.2))
  have pk : 0 ≤ k ∧ k < h1.1 6 5 := ⟨Int32.not_lt.mp c1, c2⟩
  have T2 : ∀ lv, ¬ (0 ≤ t ∧ t ≤ 2) → V 38 lv [] h1 := fun lv c => TH.t 2 179 (by decide) rfl rfl (Or.inl rfl) (by decide) rfl rfl (by decide) ⟨rfl, Or.inr ⟨pa, Or.inr ⟨pk, c, rfl⟩⟩⟩
  obtain ⟨j, hj, rfl⟩ := nI_of (Int32.not_lt.mpr pk.1)
  have hjm : j < m := by
    have z := pk.2
    rw [q1] at z
    exact (nI_ltI hj (by omega)).mp z
  obtain ⟨u1, u2, u3, u4⟩ := q4 (m - 1 - j) (by omega)
  have t12 : tkF (TC h1 it nb own nw) nw (allB it n) (m - 1 - j) < 12 := by
    unfold tkF
    cases e : fstI (TC h1 it nb own nw) nw (plS (TC h1 it nb own nw) nw (allB it n) (m - 1 - j)) with
    | none => exact absurd e u1
    | some q => exact (fstI_lt e).1
  repeat (first | refine G.sx (fun _ => false) rfl rfl rfl ?_ | refine G.gox (fun _ => false) rfl rfl rfl ?_ | refine G.getx (fun _ => false) rfl rfl rfl rfl ?_)
  refine G.br rfl rfl (fun c3 => T2 _ (fun q => absurd q.1 (Int32.not_le.mpr c3))) (fun c3 => ?_)
  repeat (first | refine G.sx (fun _ => false) rfl rfl rfl ?_ | refine G.gox (fun _ => false) rfl rfl rfl ?_ | refine G.getx (fun _ => false) rfl rfl rfl rfl ?_)
  refine G.br rfl rfl (fun c4 => ?_) (fun c4 => T2 _ (fun q => c4 q.2))
  have pt : 0 ≤ t ∧ t ≤ 2 := ⟨Int32.not_lt.mp c3, c4⟩
  repeat (first | refine G.sx (fun _ => false) rfl rfl rfl ?_ | refine G.gox (fun _ => false) rfl rfl rfl ?_ | refine G.getx (fun _ => false) rfl rfl rfl rfl ?_)
  refine G.br rfl rfl (fun c5 => ?_) (fun c5 => ?_)
  · repeat (first | refine G.sx (fun _ => false) rfl rfl rfl ?_ | refine G.gox (fun _ => false) rfl rfl rfl ?_ | refine G.getx (fun _ => false) rfl rfl rfl rfl ?_)
    refine C.cv [.int (nI j)] [] rfl cw_TO_185 (d1 := 1) (by omega) (by omega) rfl rfl rfl (c_Pl_itemOfStep (StX_ok ad) q1 q3 j hjm) (by decide) (fun r h3 hq => ?_)
    obtain ⟨rfl, rfl⟩ := hq
    rw [u2]
    repeat (first | refine G.sx (fun _ => false) rfl rfl rfl ?_ | refine G.gox (fun _ => false) rfl rfl rfl ?_ | refine G.getx (fun _ => false) rfl rfl rfl rfl ?_)
    refine G.br rfl rfl (fun c6 => ?_) (fun c6 => ?_)
    · repeat (first | refine G.sx (fun q => Nat.beq q 85) rfl rfl rfl ?_ | refine G.gox (fun q => Nat.beq q 85) rfl rfl rfl ?_ | refine G.getx (fun q => Nat.beq q 85) rfl rfl rfl rfl ?_)
      show V 85 _ [.int (nI (tkF (TC h3 it nb own nw) nw (allB it n) (m - 1 - j))), .int 1, .ref 1] _
      repeat (first | refine G.sx (fun _ => false) rfl rfl rfl ?_ | refine G.gox (fun _ => false) rfl rfl rfl ?_ | refine G.getx (fun _ => false) rfl rfl rfl rfl ?_)
      show V 86 _ [.int ((1 : Int32) <<< (nI (tkF (TC h3 it nb own nw) nw (allB it n) (m - 1 - j)) &&& 31)), .ref 1] _
      rw [one_shl (by omega)]
      refine C.cv [.int (nI (2 ^ tkF (TC h3 it nb own nw) nw (allB it n) (m - 1 - j)))] [] rfl cw_TO_188 (d1 := 1) (by omega) (by omega) rfl rfl rfl (c_It_partsOf (StX_ok ad) hC.1 _ (pw_lt t12)) (by decide) (fun r h4 hq => ?_)
      obtain ⟨rfl, rfl⟩ := hq
      repeat (first | refine G.sx (fun _ => false) rfl rfl rfl ?_ | refine G.gox (fun _ => false) rfl rfl rfl ?_ | refine G.getx (fun _ => false) rfl rfl rfl rfl ?_)
      refine E.ri rfl (Or.inl rfl) ⟨pa, pt, m, j, hP, rfl, hjm, ?_, rfl⟩
      rw [if_neg c5, if_neg c6]
    · repeat (first | refine G.sx (fun _ => false) rfl rfl rfl ?_ | refine G.gox (fun _ => false) rfl rfl rfl ?_ | refine G.getx (fun _ => false) rfl rfl rfl rfl ?_)
      refine E.ri rfl (Or.inl rfl) ⟨pa, pt, m, j, hP, rfl, hjm, ?_, rfl⟩
      rw [if_neg c5, if_pos c6]
  · repeat (first | refine G.sx (fun _ => false) rfl rfl rfl ?_ | refine G.gox (fun _ => false) rfl rfl rfl ?_ | refine G.getx (fun _ => false) rfl rfl rfl rfl ?_)
    refine C.cv [.int (nI j)] [] rfl cw_TO_181 (d1 := 1) (by omega) (by omega) rfl rfl rfl (c_Pl_wayOfStep (StX_ok ad) q1 q3 j hjm) (by decide) (fun r h3 hq => ?_)
    obtain ⟨rfl, rfl⟩ := hq
    refine E.ri rfl (Or.inl rfl) ⟨pa, pt, m, j, hP, rfl, hjm, ?_, rfl⟩
    rw [if_pos c5, u3]
theorem c_TO_turnings (hfl : l.flags = flags0) {h : Hp} {n : Nat} {it : Nat → Nat} {nb : Nat} {own : Nat → Nat} {nw : Nat} (hV : BV h n it nb own nw) (hr : RunV h n it nb own nw) : CtT l y_TO_turnings prog_1_method_13_code 1 (some .int) (rmT 8) D cls cA slC (StX ad) ad [.ref 0] h (fun r h' => ¬ h.1 0 8 = 0 ∧ FrR h h' ∧ h'.1 0 8 = 1 ∧ RanI h' n it nb own nw ∧ h'.1 6 = h.1 6 ∧ (h.1 6 6 = 0 ∧ (∃ v, r = some (.int v) ∧ TnOk (TC h it nb own nw) nw (allB it n) v) ∨ ¬ h.1 6 6 = 0 ∧ r = some (.int (-1)))) (fun E h' => h' = h ∧ h.1 0 8 = 0 ∧ E = 0) := by
  obtain ⟨hC, -⟩ := hV
  have hA : allB it n < 4096 := allB_lt n hC.1.2.1 (fun i hi => (hC.1.2.2 i hi).2)
  refine CtT.of (tl := T_TO_turnings) _ XT hfl (by omega) rfl tk_TO_turnings cls_ok (Nat.le_of_ble_eq_true rfl) (fun V G E C CT TH _ => ?_)
  repeat (first | refine G.sx (fun _ => false) rfl rfl rfl ?_ | refine G.gox (fun _ => false) rfl rfl rfl ?_ | refine G.getx (fun _ => false) rfl rfl rfl rfl ?_)
  refine CT.ct [] [] rfl cw_TO_191 (d1 := 6) (by omega) (by omega) rfl rfl rfl (c_TO_needRun hfl h) (by decide) (fun r h1 hq => ?_) (fun F h1 hq => ⟨hq.2.2, hq.1, hq.2.1⟩)
  obtain ⟨pa, rfl, rfl⟩ := hq
  obtain ⟨r8, hR⟩ := hr.of pa
  have hT := hR.T hC
  repeat (first | refine G.sx (fun _ => false) rfl rfl rfl ?_ | refine G.gox (fun _ => false) rfl rfl rfl ?_ | refine G.getx (fun _ => false) rfl rfl rfl rfl ?_)
  refine G.br rfl rfl (fun c1 => ?_) (fun c1 => ?_)
  · repeat (first | refine G.sx (fun _ => false) rfl rfl rfl ?_ | refine G.gox (fun _ => false) rfl rfl rfl ?_ | refine G.getx (fun _ => false) rfl rfl rfl rfl ?_)
    exact E.ri rfl (Or.inl rfl) ⟨pa, FrR.rf, r8, hR, rfl, Or.inr ⟨c1, rfl⟩⟩
  · obtain ⟨x1, x2, x3, x4, x5⟩ := id hR
    repeat (first | refine G.sx (fun _ => false) rfl rfl rfl ?_ | refine G.gox (fun _ => false) rfl rfl rfl ?_ | refine G.getx (fun _ => false) rfl rfl rfl rfl ?_)
    refine C.cv [] [] rfl cw_TO_208 (d1 := 5) (by omega) (by omega) rfl rfl rfl (c_Se_leastTurnings (StX_ok ad) hC.1 hC.2.2.2.1 hC.2.2.2.2.2 hT hA x4) (by decide) (fun r h2 hq => ?_)
    obtain ⟨rfl, y1, y2, y3, y4⟩ := hq
    have hf : FrR h1 h2 := y2.r (by decide) (by decide)
    repeat (first | refine G.sx (fun _ => false) rfl rfl rfl ?_ | refine G.gox (fun _ => false) rfl rfl rfl ?_ | refine G.getx (fun _ => false) rfl rfl rfl rfl ?_)
    refine E.ri rfl (Or.inl rfl) ⟨pa, hf, by rw [y2.1 0 (by decide)]; exact r8, ?_, y2.1 6 (by decide), Or.inl ⟨c1, _, rfl, y1⟩⟩
    rw [RanI_fr hf]
    obtain ⟨fl, f1, f2, f3, f4⟩ := x1
    obtain ⟨m, ⟨p1, p2, p3, p4⟩, pm⟩ := x2
    obtain ⟨se, se1, se2, se3⟩ := x5
    refine ⟨⟨fl, f1, by rw [y2.1 5 (by decide)]; exact f2, f3, fun s hs => by rw [y2.1 (38 + s) (by simp; omega)]; exact f4 s hs⟩, ⟨m, ⟨by rw [y2.1 6 (by decide)]; exact p1, by rw [y2.1 6 (by decide)]; exact p2, p3, fun j hj => by rw [y2.1 20 (by decide), y2.1 21 (by decide), y2.1 22 (by decide)]; exact p4 j hj⟩, pm⟩, ?_, Or.inr ⟨y3, y1⟩, se, by rw [y2.1 8 (by decide)]; exact se1, se2, by rw [y2.1 8 (by decide)]; exact se3⟩
    rw [y4, y2.1 24 (by decide)]
    exact x3
theorem c_TO_two (hfl : l.flags = flags0) {h : Hp} {n : Nat} {it : Nat → Nat} {nb : Nat} {own : Nat → Nat} {nw : Nat} (hV : BV h n it nb own nw) (hr : RunV h n it nb own nw) (d : Int32) : CtT l y_TO_two prog_1_method_14_code 2 (some .int) (rmT 8) D cls cA slC (StX ad) ad [.ref 0, .int d] h (fun r h' => (¬ h.1 0 8 = 0 ∧ 0 ≤ d ∧ d ≤ 2) ∧ FrR h h' ∧ h'.1 0 8 = 1 ∧ RanI h' n it nb own nw ∧ h'.1 6 = h.1 6 ∧ ∃ q, d = nI q ∧ q ≤ 2 ∧ r = some (.int (oI (fstN (fun c => fbB (fun s => TF (mtB h s) it own nb nw) it nw n c (h.1 25)) (q + 1) 0) + 1))) (fun E h' => h' = h ∧ (h.1 0 8 = 0 ∧ E = 0 ∨ ¬ h.1 0 8 = 0 ∧ ¬ (0 ≤ d ∧ d ≤ 2) ∧ E = 2)) := by
  obtain ⟨hC, hSh, hmv⟩ := hV
  refine CtT.of (tl := T_TO_two) _ XT hfl (by omega) rfl tk_TO_two cls_ok (Nat.le_of_ble_eq_true rfl) (fun V G E C CT TH _ => ?_)
  repeat (first | refine G.sx (fun _ => false) rfl rfl rfl ?_ | refine G.gox (fun _ => false) rfl rfl rfl ?_ | refine G.getx (fun _ => false) rfl rfl rfl rfl ?_)
  refine CT.ct [] [] rfl cw_TO_191 (d1 := 6) (by omega) (by omega) rfl rfl rfl (c_TO_needRun hfl h) (by decide) (fun r h1 hq => ?_) (fun F h1 hq => ⟨hq.2.2, Or.inl ⟨hq.1, hq.2.1⟩⟩)
  obtain ⟨pa, rfl, rfl⟩ := hq
  obtain ⟨r8, hR⟩ := hr.of pa
  have T1 : ∀ lv, ¬ (0 ≤ d ∧ d ≤ 2) → V 13 lv [] h1 := fun lv c => TH.t 2 211 (by decide) rfl rfl (Or.inl rfl) (by decide) rfl rfl (by decide) ⟨rfl, Or.inr ⟨pa, c, rfl⟩⟩
  repeat (first | refine G.sx (fun _ => false) rfl rfl rfl ?_ | refine G.gox (fun _ => false) rfl rfl rfl ?_ | refine G.getx (fun _ => false) rfl rfl rfl rfl ?_)
  refine G.br rfl rfl (fun c1 => T1 _ (fun q => absurd q.1 (Int32.not_le.mpr c1))) (fun c1 => ?_)
  repeat (first | refine G.sx (fun _ => false) rfl rfl rfl ?_ | refine G.gox (fun _ => false) rfl rfl rfl ?_ | refine G.getx (fun _ => false) rfl rfl rfl rfl ?_)
  refine G.br rfl rfl (fun c2 => ?_) (fun c2 => T1 _ (fun q => c2 q.2))
  obtain ⟨q, hq2, rfl⟩ := nI_of2 (M := 2) (n := 2) (by decide) c1 c2
  obtain ⟨x1, x2, x3, x4, x5⟩ := id hR
  obtain ⟨fl, f1, f2, f3, f4⟩ := x1
  obtain ⟨se, hse⟩ := x5
  repeat (first | refine G.sx (fun _ => false) rfl rfl rfl ?_ | refine G.gox (fun _ => false) rfl rfl rfl ?_ | refine G.getx (fun _ => false) rfl rfl rfl rfl ?_)
  refine C.cv [.int (nI q)] [] rfl cw_TO_213 (d1 := 7) (by omega) (by omega) rfl rfl rfl (Ct.more StX_T (c_Sm_leastWithin hC hSh (fl := fl) ⟨f2, f3, f4⟩ hmv rfl hse q hq2)) (by decide) (fun r h2 hq => ?_)
  obtain ⟨rfl, y1, ⟨fl', z1, z2, z3, z4⟩, se', z5⟩ := hq
  have hf : FrR h1 h2 := y1.r
  repeat (first | refine G.sx (fun _ => false) rfl rfl rfl ?_ | refine G.gox (fun _ => false) rfl rfl rfl ?_ | refine G.getx (fun _ => false) rfl rfl rfl rfl ?_)
  refine E.ri rfl (Or.inl rfl) ⟨⟨pa, Int32.not_lt.mp c1, c2⟩, hf, by rw [y1.2 0 (by decide) (by decide) (by decide)]; exact r8, ?_, y1.2 6 (by decide) (by decide) (by decide), q, rfl, hq2, rfl⟩
  rw [RanI_fr hf]
  obtain ⟨m, ⟨p1, p2, p3, p4⟩, pm⟩ := x2
  have e6 := y1.2 6 (by decide) (by decide) (by decide)
  have e7 := y1.2 7 (by decide) (by decide) (by decide)
  refine ⟨⟨fl', by omega, z2, z3, fun s hs => ?_⟩, ⟨m, ⟨by rw [e6]; exact p1, by rw [e6]; exact p2, p3, fun j hj => by rw [y1.2 20 (by decide) (by decide) (by decide), y1.2 21 (by decide) (by decide) (by decide), y1.2 22 (by decide) (by decide) (by decide)]; exact p4 j hj⟩, pm⟩, ?_, ?_, se', z5⟩
  · have z6 : RwI (mtB h2 s) it own (Prs it own nb nw) (h2.1 (38 + s)) := z4 s hs
    rw [mtB_fn hf.1] at z6
    exact z6
  · rw [e7, y1.2 24 (by decide) (by decide) (by decide)]
    exact x3
  · rw [e7]
    exact x4
theorem c_TO_hands (hfl : l.flags = flags0) {h : Hp} {n : Nat} {it : Nat → Nat} {nb : Nat} {own : Nat → Nat} {nw : Nat} (hV : BV h n it nb own nw) (hr : RunV h n it nb own nw) (p k : Int32) : CtT l y_TO_hands prog_1_method_15_code 3 (some .int) (rmT 8) D cls cA slC (StX ad) ad [.ref 0, .int p, .int k] h (fun r h' => ((¬ h.1 0 8 = 0 ∧ 0 ≤ k) ∧ 1 ≤ p ∧ p ≤ 12) ∧ ∃ q, p = nI q ∧ 1 ≤ q ∧ q ≤ 12 ∧ r = some (.int (grF (TC h it nb own nw) nw q k 12 0 (allB it n))) ∧ h' = h) (fun E h' => h' = h ∧ (h.1 0 8 = 0 ∧ E = 0 ∨ ¬ h.1 0 8 = 0 ∧ ¬ 0 ≤ k ∧ E = 1 ∨ (¬ h.1 0 8 = 0 ∧ 0 ≤ k) ∧ ¬ (1 ≤ p ∧ p ≤ 12) ∧ E = 2)) := by
  obtain ⟨hC, -⟩ := hV
  have hA : allB it n < 4096 := allB_lt n hC.1.2.1 (fun i hi => (hC.1.2.2 i hi).2)
  refine CtT.of (tl := T_TO_hands) _ XT hfl (by omega) rfl tk_TO_hands cls_ok (Nat.le_of_ble_eq_true rfl) (fun V G E C CT TH _ => ?_)
  repeat (first | refine G.sx (fun _ => false) rfl rfl rfl ?_ | refine G.gox (fun _ => false) rfl rfl rfl ?_ | refine G.getx (fun _ => false) rfl rfl rfl rfl ?_)
  refine CT.ct [] [] rfl cw_TO_191 (d1 := 6) (by omega) (by omega) rfl rfl rfl (c_TO_needRun hfl h) (by decide) (fun r h1 hq => ?_) (fun F h1 hq => ⟨hq.2.2, Or.inl ⟨hq.1, hq.2.1⟩⟩)
  obtain ⟨pa, rfl, rfl⟩ := hq
  repeat (first | refine G.sx (fun _ => false) rfl rfl rfl ?_ | refine G.gox (fun _ => false) rfl rfl rfl ?_ | refine G.getx (fun _ => false) rfl rfl rfl rfl ?_)
  refine CT.ct [.int k] [] rfl cw_TO_194 (d1 := 6) (by omega) (by omega) rfl rfl rfl (c_TO_needNumber hfl h1 k) (by decide) (fun r h2 hq => ?_) (fun F h2 hq => ⟨hq.2.2, Or.inr (Or.inl ⟨pa, hq.1, hq.2.1⟩)⟩)
  obtain ⟨pb, rfl, rfl⟩ := hq
  obtain ⟨-, hR⟩ := hr.of pa
  have hT := hR.T hC
  have T1 : ∀ lv, ¬ (1 ≤ p ∧ p ≤ 12) → V 20 lv [] h2 := fun lv c => TH.t 2 216 (by decide) rfl rfl (Or.inl rfl) (by decide) rfl rfl (by decide) ⟨rfl, Or.inr (Or.inr ⟨⟨pa, pb⟩, c, rfl⟩)⟩
  repeat (first | refine G.sx (fun _ => false) rfl rfl rfl ?_ | refine G.gox (fun _ => false) rfl rfl rfl ?_ | refine G.getx (fun _ => false) rfl rfl rfl rfl ?_)
  refine G.br rfl rfl (fun c1 => T1 _ (fun q => absurd q.1 (Int32.not_le.mpr c1))) (fun c1 => ?_)
  repeat (first | refine G.sx (fun _ => false) rfl rfl rfl ?_ | refine G.gox (fun _ => false) rfl rfl rfl ?_ | refine G.getx (fun _ => false) rfl rfl rfl rfl ?_)
  refine G.br rfl rfl (fun c2 => ?_) (fun c2 => T1 _ (fun q => c2 q.2))
  have c1 : 1 ≤ p := Int32.not_lt.mp c1
  obtain ⟨q, hq2, rfl⟩ := nI_of2 (M := 12) (n := 12) (by decide) (Int32.not_lt.mpr (Int32.le_trans (by decide) c1)) c2
  have hq1 : 1 ≤ q := (nI_leI (a := 1) (by omega) (by omega)).mp c1
  repeat (first | refine G.sx (fun _ => false) rfl rfl rfl ?_ | refine G.gox (fun _ => false) rfl rfl rfl ?_ | refine G.getx (fun _ => false) rfl rfl rfl rfl ?_)
  refine C.cv [.int (nI q), .int k] [] rfl cw_TO_218 (d1 := 4) (by omega) (by omega) rfl rfl rfl (c_Pl_goingInRound (StX_ok ad) hC.1 hC.2.2.2.1 hC.2.2.2.2.2 hT hA q hq2 k) (by decide) (fun r h3 hq => ?_)
  obtain ⟨rfl, rfl⟩ := hq
  exact E.ri rfl (Or.inl rfl) ⟨⟨⟨pa, pb⟩, c1, c2⟩, q, rfl, hq1, hq2, rfl, rfl⟩
theorem c_TO_out (hfl : l.flags = flags0) {h : Hp} {n : Nat} {it : Nat → Nat} {nb : Nat} {own : Nat → Nat} {nw : Nat} (hV : BV h n it nb own nw) (hr : RunV h n it nb own nw) (p : Int32) : CtT l y_TO_out prog_1_method_16_code 2 (some .int) (rmT 8) D cls cA slC (StX ad) ad [.ref 0, .int p] h (fun r h' => (¬ h.1 0 8 = 0 ∧ pOk h p) ∧ FrR h h' ∧ h'.1 0 8 = 1 ∧ RanI h' n it nb own nw ∧ h'.1 6 = h.1 6 ∧ ∃ i v, p = nI i ∧ i < n ∧ r = some (.int v) ∧ BfL (TC h it nb own nw) nw (allB it n) 0 v (it i)) (fun E h' => h' = h ∧ (h.1 0 8 = 0 ∧ E = 0 ∨ ¬ h.1 0 8 = 0 ∧ ¬ pOk h p ∧ E = 1)) := by
  obtain ⟨hC, -⟩ := hV
  have n12 := hC.1.2.1
  have hA : allB it n < 4096 := allB_lt n hC.1.2.1 (fun i hi => (hC.1.2.2 i hi).2)
  refine CtT.of (tl := T_TO_out) _ XT hfl (by omega) rfl tk_TO_out cls_ok (Nat.le_of_ble_eq_true rfl) (fun V G E C CT TH _ => ?_)
  repeat (first | refine G.sx (fun _ => false) rfl rfl rfl ?_ | refine G.gox (fun _ => false) rfl rfl rfl ?_ | refine G.getx (fun _ => false) rfl rfl rfl rfl ?_)
  refine CT.ct [] [] rfl cw_TO_191 (d1 := 6) (by omega) (by omega) rfl rfl rfl (c_TO_needRun hfl h) (by decide) (fun r h1 hq => ?_) (fun F h1 hq => ⟨hq.2.2, Or.inl ⟨hq.1, hq.2.1⟩⟩)
  obtain ⟨pa, rfl, rfl⟩ := hq
  repeat (first | refine G.sx (fun _ => false) rfl rfl rfl ?_ | refine G.gox (fun _ => false) rfl rfl rfl ?_ | refine G.getx (fun _ => false) rfl rfl rfl rfl ?_)
  refine CT.ct [.int p] [] rfl cw_TO_90 (d1 := 6) (by omega) (by omega) rfl rfl rfl (c_TO_needPart hfl h1 p) (by decide) (fun r h2 hq => ?_) (fun F h2 hq => ⟨hq.2.2, Or.inr ⟨pa, hq.1, hq.2.1⟩⟩)
  obtain ⟨pb, rfl, rfl⟩ := hq
  obtain ⟨i, rfl, hi⟩ := pOk_ex hC.1.1 n12 pb
  obtain ⟨r8, hR⟩ := hr.of pa
  have hT := hR.T hC
  have hii := hC.1.2.2 i hi
  repeat (first | refine G.sx (fun _ => false) rfl rfl rfl ?_ | refine G.gox (fun _ => false) rfl rfl rfl ?_ | refine G.getx (fun _ => false) rfl rfl rfl rfl ?_)
  refine G.ialn rfl rfl (by omega) (by decide) ?_
  rw [hii.1]
  obtain ⟨x1, x2, x3, x4, x5⟩ := id hR
  refine C.cv [.int (nI (it i))] [] rfl cw_TO_224 (d1 := 6) (by omega) (by omega) rfl rfl rfl (c_Se_leastBefore (StX_ok ad) hC.1 hC.2.2.2.1 hC.2.2.2.2.2 hT hA x3 (it i) (by omega)) (by decide) (fun r h3 hq => ?_)
  obtain ⟨rfl, y1, y2, y3, y4, y5⟩ := hq
  have hf : FrR h2 h3 := y2.r (by decide) (by decide)
  refine E.ri rfl (Or.inl rfl) ⟨⟨pa, pb⟩, hf, by rw [y2.1 0 (by decide)]; exact r8, ?_, y2.1 6 (by decide), i, _, rfl, hi, rfl, y1 (it i) (by omega)⟩
  rw [RanI_fr hf]
  obtain ⟨fl, f1, f2, f3, f4⟩ := x1
  obtain ⟨m, ⟨p1, p2, p3, p4⟩, pm⟩ := x2
  obtain ⟨se, se1, se2, se3⟩ := x5
  refine ⟨⟨fl, f1, by rw [y2.1 5 (by decide)]; exact f2, f3, fun s hs => by rw [y2.1 (38 + s) (by simp; omega)]; exact f4 s hs⟩, ⟨m, ⟨by rw [y2.1 6 (by decide)]; exact p1, by rw [y2.1 6 (by decide)]; exact p2, p3, fun j hj => by rw [y2.1 20 (by decide), y2.1 21 (by decide), y2.1 22 (by decide)]; exact p4 j hj⟩, pm⟩, Or.inr ⟨y3, y1⟩, ?_, se, by rw [y2.1 8 (by decide)]; exact se1, se2, by rw [y2.1 8 (by decide)]; exact se3⟩
  rw [y4, y5]
  exact x4
end TOd
