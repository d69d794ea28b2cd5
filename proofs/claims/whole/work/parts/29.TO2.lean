/-! The class's own methods: part, box, deep, slant, group, free, glue, clamp -/
section TOb
variable {l : Launch} {D : va_G} {cA : Nat → ClassId} {ad : Nat → Nat}
theorem pOk_ex {h : Hp} {n : Nat} {x : Int32} (hn : h.1 1 0 = nI n) (h12 : n ≤ 12) (hx : pOk h x) : ∃ i, x = nI i ∧ i < n := by
  obtain ⟨j, hj, rfl⟩ := nI_of (Int32.not_lt.mpr hx.1)
  have h2 := hx.2
  rw [hn] at h2
  exact ⟨j, rfl, (nI_ltI hj (by omega)).mp h2⟩
theorem c_TO_part (hfl : l.flags = flags0) {h : Hp} {n : Nat} (hn : h.1 1 0 = nI n) (h12 : n ≤ 12) : CtT l y_TO_part prog_1_method_2_code 1 (some .int) (rmT 8) D cls cA slC (StX ad) ad [.ref 0] h (fun r h' => n < 12 ∧ r = some (.int (nI n)) ∧ h' = upI (upI (upI h 0 8 0) 9 n (nI n)) 1 0 (nI (n + 1))) (fun E h' => n = 12 ∧ E = 0 ∧ h' = h) := by
  refine CtT.of (tl := T_TO_part) _ XT hfl (by omega) rfl tk_TO_part cls_ok (Nat.le_of_ble_eq_true rfl) (fun V G E C CT TH _ => ?_)
  repeat (first | refine G.sx (fun _ => false) rfl rfl rfl ?_ | refine G.gox (fun _ => false) rfl rfl rfl ?_ | refine G.getx (fun _ => false) rfl rfl rfl rfl ?_)
  refine G.br rfl rfl (fun c1 => ?_) (fun c1 => ?_)
  · have hlt : n < 12 := by
      rw [hn] at c1
      exact (nI_ltI (b := 12) (by omega) (by omega)).mp c1
    repeat (first | refine G.sx (fun _ => false) rfl rfl rfl ?_ | refine G.gox (fun _ => false) rfl rfl rfl ?_ | refine G.getx (fun _ => false) rfl rfl rfl rfl ?_)
    refine G.putz rfl rfl rfl (Or.inl rfl) ?_
    repeat (first | refine G.sx (fun _ => false) rfl rfl rfl ?_ | refine G.gox (fun _ => false) rfl rfl rfl ?_ | refine G.getx (fun _ => false) rfl rfl rfl rfl ?_)
    refine C.cv [] [] rfl cw_TO_86 (d1 := 1) (by omega) (by omega) rfl rfl rfl (c_It_addPart (StX_ok ad) (h := upI h 0 8 0) (n := n) hn hlt) (by decide) (fun r h1 hq => ?_)
    obtain ⟨rfl, rfl⟩ := hq
    exact E.ri rfl (Or.inl rfl) ⟨hlt, rfl, rfl⟩
  · have hge : n = 12 := by
      have c2 : ¬ nI n < nI 12 := by rw [hn] at c1; exact c1
      have : ¬ n < 12 := fun z => c2 ((nI_ltI (b := 12) (by omega) (by omega)).mpr z)
      omega
    exact TH.t 0 81 (by decide) rfl rfl (Or.inl rfl) (by decide) rfl rfl (by decide) ⟨hge, rfl, rfl⟩
theorem c_TO_box (hfl : l.flags = flags0) {h : Hp} {nb : Nat} (hn : h.1 2 0 = nI nb) (h40 : nb ≤ 40) (p : Int32) (x y z w d : Int64) : CtT l y_TO_box prog_1_method_3_code 12 (some .int) (rmT 8) D cls cA slC (StX ad) ad [.ref 0, .int p, .long x, .long y, .long z, .long w, .long d] h (fun r h' => (pOk h p ∧ nb < 40 ∧ (plc x ∧ plc y ∧ plc z) ∧ siz w ∧ siz d) ∧ r = some (.int (nI nb)) ∧ h' = adH (upI h 0 8 0) nb p x y z w d) (fun E h' => h' = h ∧ (¬ pOk h p ∧ E = 1 ∨ pOk h p ∧ ¬ nb < 40 ∧ E = 0 ∨ pOk h p ∧ nb < 40 ∧ ¬ ((plc x ∧ plc y ∧ plc z) ∧ siz w ∧ siz d) ∧ E = 2)) := by
  refine CtT.of (tl := T_TO_box) _ XT hfl (by omega) rfl tk_TO_box cls_ok (Nat.le_of_ble_eq_true rfl) (fun V G E C CT TH _ => ?_)
  repeat (first | refine G.sx (fun _ => false) rfl rfl rfl ?_ | refine G.gox (fun _ => false) rfl rfl rfl ?_ | refine G.getx (fun _ => false) rfl rfl rfl rfl ?_)
  refine CT.ct [.int p] [] rfl cw_TO_90 (d1 := 6) (by omega) (by omega) rfl rfl rfl (c_TO_needPart hfl h p) (by decide) (fun r h1 hq => ?_) (fun F h1 hq => ⟨hq.2.2, Or.inl ⟨hq.1, hq.2.1⟩⟩)
  obtain ⟨pa, rfl, rfl⟩ := hq
  repeat (first | refine G.sx (fun _ => false) rfl rfl rfl ?_ | refine G.gox (fun _ => false) rfl rfl rfl ?_ | refine G.getx (fun _ => false) rfl rfl rfl rfl ?_)
  refine G.br rfl rfl (fun c1 => ?_) (fun c1 => ?_)
  · have hlt : nb < 40 := by
      rw [hn] at c1
      exact (nI_ltI (b := 40) (by omega) (by omega)).mp c1
    have T1 : ∀ lv, ¬ (plc x ∧ plc y ∧ plc z) → V 50 lv [] h1 := fun lv c => TH.t 2 105 (by decide) rfl rfl (Or.inl rfl) (by decide) rfl rfl (by decide) ⟨rfl, Or.inr (Or.inr ⟨pa, hlt, fun q => c q.1, rfl⟩)⟩
    have T2 : ∀ lv, ¬ (siz w ∧ siz d) → V 76 lv [] h1 := fun lv c => TH.t 2 111 (by decide) rfl rfl (Or.inl rfl) (by decide) rfl rfl (by decide) ⟨rfl, Or.inr (Or.inr ⟨pa, hlt, fun q => c q.2, rfl⟩)⟩
    repeat (first | refine G.sx (fun _ => false) rfl rfl rfl ?_ | refine G.gox (fun _ => false) rfl rfl rfl ?_ | refine G.getx (fun _ => false) rfl rfl rfl rfl ?_)
    refine C.cs [.long x] [] rfl cw_TO_99 (d1 := 1) (by omega) (by omega) rfl (c_TO_isPlace h1 x) (by decide) (fun r h2 hq => ?_)
    obtain ⟨rfl, rfl⟩ := hq
    refine G.br rfl rfl (fun c2 => T1 _ (fun q => i01.mp c2 q.1)) (fun c2 => ?_)
    repeat (first | refine G.sx (fun _ => false) rfl rfl rfl ?_ | refine G.gox (fun _ => false) rfl rfl rfl ?_ | refine G.getx (fun _ => false) rfl rfl rfl rfl ?_)
    refine C.cs [.long y] [] rfl cw_TO_99 (d1 := 1) (by omega) (by omega) rfl (c_TO_isPlace h2 y) (by decide) (fun r h3 hq => ?_)
    obtain ⟨rfl, rfl⟩ := hq
    refine G.br rfl rfl (fun c3 => T1 _ (fun q => i01.mp c3 q.2.1)) (fun c3 => ?_)
    repeat (first | refine G.sx (fun _ => false) rfl rfl rfl ?_ | refine G.gox (fun _ => false) rfl rfl rfl ?_ | refine G.getx (fun _ => false) rfl rfl rfl rfl ?_)
    refine C.cs [.long z] [] rfl cw_TO_99 (d1 := 1) (by omega) (by omega) rfl (c_TO_isPlace h3 z) (by decide) (fun r h4 hq => ?_)
    obtain ⟨rfl, rfl⟩ := hq
    refine G.br rfl rfl (fun c4 => ?_) (fun c4 => T1 _ (fun q => i01.mp c4 q.2.2))
    repeat (first | refine G.sx (fun _ => false) rfl rfl rfl ?_ | refine G.gox (fun _ => false) rfl rfl rfl ?_ | refine G.getx (fun _ => false) rfl rfl rfl rfl ?_)
    refine C.cs [.long w] [] rfl cw_TO_108 (d1 := 1) (by omega) (by omega) rfl (c_TO_isSize h4 w) (by decide) (fun r h5 hq => ?_)
    obtain ⟨rfl, rfl⟩ := hq
    refine G.br rfl rfl (fun c5 => T2 _ (fun q => i01.mp c5 q.1)) (fun c5 => ?_)
    repeat (first | refine G.sx (fun _ => false) rfl rfl rfl ?_ | refine G.gox (fun _ => false) rfl rfl rfl ?_ | refine G.getx (fun _ => false) rfl rfl rfl rfl ?_)
    refine C.cs [.long d] [] rfl cw_TO_108 (d1 := 1) (by omega) (by omega) rfl (c_TO_isSize h5 d) (by decide) (fun r h6 hq => ?_)
    obtain ⟨rfl, rfl⟩ := hq
    refine G.br rfl rfl (fun c6 => ?_) (fun c6 => T2 _ (fun q => i01.mp c6 q.2))
    repeat (first | refine G.sx (fun _ => false) rfl rfl rfl ?_ | refine G.gox (fun _ => false) rfl rfl rfl ?_ | refine G.getx (fun _ => false) rfl rfl rfl rfl ?_)
    refine G.putz rfl rfl rfl (Or.inl rfl) ?_
    repeat (first | refine G.sx (fun _ => false) rfl rfl rfl ?_ | refine G.gox (fun _ => false) rfl rfl rfl ?_ | refine G.getx (fun _ => false) rfl rfl rfl rfl ?_)
    refine C.cv [.int p, .long x, .long y, .long z, .long w, .long d] [] rfl cw_TO_113 (d1 := 1) (by omega) (by omega) rfl rfl rfl (c_Bx_addBox (StX_ok ad) (h := upI h6 0 8 0) (nb := nb) hn hlt p x y z w d) (by decide) (fun r h7 hq => ?_)
    obtain ⟨rfl, rfl⟩ := hq
    exact E.ri rfl (Or.inl rfl) ⟨⟨pa, hlt, ⟨Decidable.not_not.mp (fun q => c2 (i01.mpr q)), Decidable.not_not.mp (fun q => c3 (i01.mpr q)), Decidable.not_not.mp (fun q => c4 (i01.mpr q))⟩, Decidable.not_not.mp (fun q => c5 (i01.mpr q)), Decidable.not_not.mp (fun q => c6 (i01.mpr q))⟩, rfl, rfl⟩
  · have hge : ¬ nb < 40 := fun z => by
      rw [hn] at c1
      exact c1 (nI_lt (b := 40) z (by omega))
    exact TH.t 0 97 (by decide) rfl rfl (Or.inl rfl) (by decide) rfl rfl (by decide) ⟨rfl, Or.inr (Or.inl ⟨pa, hge, rfl⟩)⟩
abbrev bOk (h : Hp) (x : Int32) : Prop := 0 ≤ x ∧ x < h.1 2 0
theorem c_TO_deep (hfl : l.flags = flags0) {h : Hp} {nb : Nat} (hn : h.1 2 0 = nI nb) (h40 : nb ≤ 40) (b : Int32) (d : Int64) : CtT l y_TO_deep prog_1_method_4_code 5 (some .boolean) (rmT 8) D cls cA slC (StX ad) ad [.ref 0, .int b, .long d] h (fun r h' => (bOk h b ∧ siz d) ∧ ∃ i, b = nI i ∧ i < nb ∧ (h.2 31 i = d ∧ r = some (.int 0) ∧ h' = h ∨ h.2 31 i ≠ d ∧ r = some (.int 1) ∧ h' = upI (upL h 31 i d) 0 8 0)) (fun E h' => h' = h ∧ (¬ bOk h b ∧ E = 1 ∨ bOk h b ∧ ¬ siz d ∧ E = 2)) := by
  refine CtT.of (tl := T_TO_deep) _ XT hfl (by omega) rfl tk_TO_deep cls_ok (Nat.le_of_ble_eq_true rfl) (fun V G E C CT TH _ => ?_)
  repeat (first | refine G.sx (fun _ => false) rfl rfl rfl ?_ | refine G.gox (fun _ => false) rfl rfl rfl ?_ | refine G.getx (fun _ => false) rfl rfl rfl rfl ?_)
  refine C.cv [.int b] [] rfl cw_TO_117 (d1 := 1) (by omega) (by omega) rfl rfl rfl (c_Bx_has (StX_ok ad) h b) (by decide) (fun r h1 hq => ?_)
  obtain ⟨rfl, rfl⟩ := hq
  refine G.br rfl rfl (fun c1 => ?_) (fun c1 => ?_)
  · have c1 : bOk h1 b := Decidable.not_not.mp (fun q => c1 (i01.mpr q))
    obtain ⟨i, rfl, hi⟩ : ∃ i, b = nI i ∧ i < nb := by
      obtain ⟨j, hj, rfl⟩ := nI_of (Int32.not_lt.mpr c1.1)
      have h2 := c1.2
      rw [hn] at h2
      exact ⟨j, rfl, (nI_ltI hj (by omega)).mp h2⟩
    repeat (first | refine G.sx (fun _ => false) rfl rfl rfl ?_ | refine G.gox (fun _ => false) rfl rfl rfl ?_ | refine G.getx (fun _ => false) rfl rfl rfl rfl ?_)
    refine C.cs [.long d] [] rfl cw_TO_108 (d1 := 1) (by omega) (by omega) rfl (c_TO_isSize h1 d) (by decide) (fun r h2 hq => ?_)
    obtain ⟨rfl, rfl⟩ := hq
    refine G.br rfl rfl (fun c2 => ?_) (fun c2 => ?_)
    · have c2 : siz d := Decidable.not_not.mp (fun q => c2 (i01.mpr q))
      repeat (first | refine G.sx (fun _ => false) rfl rfl rfl ?_ | refine G.gox (fun _ => false) rfl rfl rfl ?_ | refine G.getx (fun _ => false) rfl rfl rfl rfl ?_)
      refine C.cv [.int (nI i), .long d] [] rfl cw_TO_126 (d1 := 2) (by omega) (by omega) rfl rfl rfl (c_Bx_setDepth (StX_ok ad) hn h40 i hi d) (by decide) (fun r h3 hq => ?_)
      rcases hq with ⟨e1, rfl, rfl⟩ | ⟨e1, rfl, rfl⟩
      · repeat (first | refine G.sx (fun _ => false) rfl rfl rfl ?_ | refine G.gox (fun _ => false) rfl rfl rfl ?_ | refine G.getx (fun _ => false) rfl rfl rfl rfl ?_)
        refine G.br rfl rfl (fun c3 => ?_) (fun c3 => absurd rfl c3)
        repeat (first | refine G.sx (fun _ => false) rfl rfl rfl ?_ | refine G.gox (fun _ => false) rfl rfl rfl ?_ | refine G.getx (fun _ => false) rfl rfl rfl rfl ?_)
        exact E.ri rfl (Or.inr ⟨rfl, Or.inl rfl⟩) ⟨⟨c1, c2⟩, i, rfl, hi, Or.inl ⟨e1, rfl, rfl⟩⟩
      · repeat (first | refine G.sx (fun _ => false) rfl rfl rfl ?_ | refine G.gox (fun _ => false) rfl rfl rfl ?_ | refine G.getx (fun _ => false) rfl rfl rfl rfl ?_)
        refine G.br rfl rfl (fun c3 => absurd c3 (by decide)) (fun c3 => ?_)
        repeat (first | refine G.sx (fun _ => false) rfl rfl rfl ?_ | refine G.gox (fun _ => false) rfl rfl rfl ?_ | refine G.getx (fun _ => false) rfl rfl rfl rfl ?_)
        refine G.putz rfl rfl rfl (Or.inl rfl) ?_
        repeat (first | refine G.sx (fun _ => false) rfl rfl rfl ?_ | refine G.gox (fun _ => false) rfl rfl rfl ?_ | refine G.getx (fun _ => false) rfl rfl rfl rfl ?_)
        exact E.ri rfl (Or.inr ⟨rfl, Or.inr rfl⟩) ⟨⟨c1, c2⟩, i, rfl, hi, Or.inr ⟨e1, rfl, rfl⟩⟩
    · exact TH.t 2 111 (by decide) rfl rfl (Or.inl rfl) (by decide) rfl rfl (by decide) ⟨rfl, Or.inr ⟨c1, i01.mp c2, rfl⟩⟩
  · exact TH.t 1 123 (by decide) rfl rfl (Or.inl rfl) (by decide) rfl rfl (by decide) ⟨rfl, Or.inl ⟨i01.mp c1, rfl⟩⟩
theorem c_TO_slant (hfl : l.flags = flags0) {h : Hp} {nw : Nat} (hn : h.1 3 0 = nI nw) (h10 : nw ≤ 10) (x y z : Int64) : CtT l y_TO_slant prog_1_method_5_code 8 (some .boolean) (rmT 8) D cls cA slC (StX ad) ad [.ref 0, .long x, .long y, .long z] h (fun r h' => ((slt x ∧ slt y ∧ slt z) ∧ ¬ (x = 0 ∧ y = 0 ∧ z = 0)) ∧ (nw = 10 ∧ r = some (.int 0) ∧ h' = h ∨ nw < 10 ∧ r = some (.int 1) ∧ h' = upI (upI (upL (upL (upL h 32 nw x) 33 nw y) 34 nw z) 3 0 (nI (nw + 1))) 0 8 0)) (fun E h' => h' = h ∧ ¬ ((slt x ∧ slt y ∧ slt z) ∧ ¬ (x = 0 ∧ y = 0 ∧ z = 0)) ∧ E = 2) := by
  refine CtT.of (tl := T_TO_slant) _ XT hfl (by omega) rfl tk_TO_slant cls_ok (Nat.le_of_ble_eq_true rfl) (fun V G E C CT TH _ => ?_)
  have T1 : ∀ lv, ¬ (slt x ∧ slt y ∧ slt z) → V 22 lv [] h := fun lv c => TH.t 2 133 (by decide) rfl rfl (Or.inl rfl) (by decide) rfl rfl (by decide) ⟨rfl, fun q => c q.1, rfl⟩
  repeat (first | refine G.sx (fun _ => false) rfl rfl rfl ?_ | refine G.gox (fun _ => false) rfl rfl rfl ?_ | refine G.getx (fun _ => false) rfl rfl rfl rfl ?_)
  refine C.cs [.long x] [] rfl cw_TO_130 (d1 := 1) (by omega) (by omega) rfl (c_TO_isSlant h x) (by decide) (fun r h2 hq => ?_)
  obtain ⟨rfl, rfl⟩ := hq
  refine G.br rfl rfl (fun c2 => T1 _ (fun q => i01.mp c2 q.1)) (fun c2 => ?_)
  repeat (first | refine G.sx (fun _ => false) rfl rfl rfl ?_ | refine G.gox (fun _ => false) rfl rfl rfl ?_ | refine G.getx (fun _ => false) rfl rfl rfl rfl ?_)
  refine C.cs [.long y] [] rfl cw_TO_130 (d1 := 1) (by omega) (by omega) rfl (c_TO_isSlant h2 y) (by decide) (fun r h3 hq => ?_)
  obtain ⟨rfl, rfl⟩ := hq
  refine G.br rfl rfl (fun c3 => T1 _ (fun q => i01.mp c3 q.2.1)) (fun c3 => ?_)
  repeat (first | refine G.sx (fun _ => false) rfl rfl rfl ?_ | refine G.gox (fun _ => false) rfl rfl rfl ?_ | refine G.getx (fun _ => false) rfl rfl rfl rfl ?_)
  refine C.cs [.long z] [] rfl cw_TO_130 (d1 := 1) (by omega) (by omega) rfl (c_TO_isSlant h3 z) (by decide) (fun r h4 hq => ?_)
  obtain ⟨rfl, rfl⟩ := hq
  refine G.br rfl rfl (fun c4 => ?_) (fun c4 => T1 _ (fun q => i01.mp c4 q.2.2))
  have hs : slt x ∧ slt y ∧ slt z := ⟨Decidable.not_not.mp (fun q => c2 (i01.mpr q)), Decidable.not_not.mp (fun q => c3 (i01.mpr q)), Decidable.not_not.mp (fun q => c4 (i01.mpr q))⟩
  have F : ∀ (h0 : ¬ (x = 0 ∧ y = 0 ∧ z = 0)), V 61 [some (.ref 0), some (.long x), none, some (.long y), none, some (.long z), none, none] [] h4 := by
    intro h0
    repeat (first | refine G.sx (fun _ => false) rfl rfl rfl ?_ | refine G.gox (fun _ => false) rfl rfl rfl ?_ | refine G.getx (fun _ => false) rfl rfl rfl rfl ?_)
    refine C.cv [.long x, .long y, .long z] [] rfl cw_TO_137 (d1 := 1) (by omega) (by omega) rfl rfl rfl (c_Wy_addSlant (StX_ok ad) hn h10 x y z) (by decide) (fun r h3 hq => ?_)
    rcases hq with ⟨e1, rfl, rfl⟩ | ⟨e1, rfl, rfl⟩
    · repeat (first | refine G.sx (fun _ => false) rfl rfl rfl ?_ | refine G.gox (fun _ => false) rfl rfl rfl ?_ | refine G.getx (fun _ => false) rfl rfl rfl rfl ?_)
      refine G.br rfl rfl (fun c3 => ?_) (fun c3 => absurd rfl c3)
      repeat (first | refine G.sx (fun _ => false) rfl rfl rfl ?_ | refine G.gox (fun _ => false) rfl rfl rfl ?_ | refine G.getx (fun _ => false) rfl rfl rfl rfl ?_)
      exact E.ri rfl (Or.inr ⟨rfl, Or.inl rfl⟩) ⟨⟨hs, h0⟩, Or.inl ⟨e1, rfl, rfl⟩⟩
    · repeat (first | refine G.sx (fun _ => false) rfl rfl rfl ?_ | refine G.gox (fun _ => false) rfl rfl rfl ?_ | refine G.getx (fun _ => false) rfl rfl rfl rfl ?_)
      refine G.br rfl rfl (fun c3 => absurd c3 (by decide)) (fun c3 => ?_)
      repeat (first | refine G.sx (fun _ => false) rfl rfl rfl ?_ | refine G.gox (fun _ => false) rfl rfl rfl ?_ | refine G.getx (fun _ => false) rfl rfl rfl rfl ?_)
      refine G.putz rfl rfl rfl (Or.inl rfl) ?_
      repeat (first | refine G.sx (fun _ => false) rfl rfl rfl ?_ | refine G.gox (fun _ => false) rfl rfl rfl ?_ | refine G.getx (fun _ => false) rfl rfl rfl rfl ?_)
      exact E.ri rfl (Or.inr ⟨rfl, Or.inr rfl⟩) ⟨⟨hs, h0⟩, Or.inr ⟨e1, rfl, rfl⟩⟩
  repeat (first | refine G.sx (fun _ => false) rfl rfl rfl ?_ | refine G.gox (fun _ => false) rfl rfl rfl ?_ | refine G.getx (fun _ => false) rfl rfl rfl rfl ?_)
  refine G.br rfl rfl (fun c5 => F (fun q => c5 (cmp_eq.mpr q.1))) (fun c5 => ?_)
  repeat (first | refine G.sx (fun _ => false) rfl rfl rfl ?_ | refine G.gox (fun _ => false) rfl rfl rfl ?_ | refine G.getx (fun _ => false) rfl rfl rfl rfl ?_)
  refine G.br rfl rfl (fun c6 => F (fun q => c6 (cmp_eq.mpr q.2.1))) (fun c6 => ?_)
  repeat (first | refine G.sx (fun _ => false) rfl rfl rfl ?_ | refine G.gox (fun _ => false) rfl rfl rfl ?_ | refine G.getx (fun _ => false) rfl rfl rfl rfl ?_)
  refine G.br rfl rfl (fun c7 => F (fun q => c7 (cmp_eq.mpr q.2.2))) (fun c7 => ?_)
  exact TH.t 2 135 (by decide) rfl rfl (Or.inl rfl) (by decide) rfl rfl (by decide) ⟨rfl, fun q => q.2 ⟨cmp_eq.mp c5, cmp_eq.mp c6, cmp_eq.mp c7⟩, rfl⟩
theorem c_TO_group (hfl : l.flags = flags0) {h : Hp} {n : Nat} {it : Nat → Nat} (hI : ItI h n it) (a b : Int32) : CtT l y_TO_group prog_1_method_6_code 4 (some .boolean) (rmT 8) D cls cA slC (StX ad) ad [.ref 0, .int a, .int b] h (fun r h' => (pOk h a ∧ pOk h b ∧ a ≠ b) ∧ ∃ i j, a = nI i ∧ b = nI j ∧ i < n ∧ j < n ∧ (it i = it j ∧ r = some (.int 0) ∧ h' = h ∨ it i ≠ it j ∧ r = some (.int 1) ∧ h' = upI (setI h 9 (fun q => if q < n then nI (jnF it i j q) else h.1 9 q)) 0 8 0)) (fun E h' => (¬ (pOk h a ∧ pOk h b) ∧ E = 1 ∨ (pOk h a ∧ pOk h b) ∧ a = b ∧ E = 2) ∧ h' = h) := by
  refine CtT.of (tl := T_TO_group) _ XT hfl (by omega) rfl tk_TO_group cls_ok (Nat.le_of_ble_eq_true rfl) (fun V G E C CT TH _ => ?_)
  repeat (first | refine G.sx (fun _ => false) rfl rfl rfl ?_ | refine G.gox (fun _ => false) rfl rfl rfl ?_ | refine G.getx (fun _ => false) rfl rfl rfl rfl ?_)
  refine CT.ct [.int a, .int b] [] rfl cw_TO_141 (d1 := 7) (by omega) (by omega) rfl rfl rfl (c_TO_needTwoParts hfl h a b) (by decide) (fun r h1 hq => ?_) (fun F h1 hq => hq)
  obtain ⟨pa, rfl, rfl⟩ := hq
  obtain ⟨i, rfl, hi⟩ := pOk_ex hI.1 hI.2.1 pa.1
  obtain ⟨j, rfl, hj⟩ := pOk_ex hI.1 hI.2.1 pa.2.1
  repeat (first | refine G.sx (fun _ => false) rfl rfl rfl ?_ | refine G.gox (fun _ => false) rfl rfl rfl ?_ | refine G.getx (fun _ => false) rfl rfl rfl rfl ?_)
  refine C.cv [.int (nI i), .int (nI j)] [] rfl cw_TO_145 (d1 := 2) (by omega) (by omega) rfl rfl rfl (c_It_join (StX_ok ad) hI i j hi hj) (by decide) (fun r h3 hq => ?_)
  rcases hq with ⟨e1, rfl, rfl⟩ | ⟨e1, rfl, rfl⟩
  · repeat (first | refine G.sx (fun _ => false) rfl rfl rfl ?_ | refine G.gox (fun _ => false) rfl rfl rfl ?_ | refine G.getx (fun _ => false) rfl rfl rfl rfl ?_)
    refine G.br rfl rfl (fun c3 => ?_) (fun c3 => absurd rfl c3)
    repeat (first | refine G.sx (fun _ => false) rfl rfl rfl ?_ | refine G.gox (fun _ => false) rfl rfl rfl ?_ | refine G.getx (fun _ => false) rfl rfl rfl rfl ?_)
    exact E.ri rfl (Or.inr ⟨rfl, Or.inl rfl⟩) ⟨pa, i, j, rfl, rfl, hi, hj, Or.inl ⟨e1, rfl, rfl⟩⟩
  · repeat (first | refine G.sx (fun _ => false) rfl rfl rfl ?_ | refine G.gox (fun _ => false) rfl rfl rfl ?_ | refine G.getx (fun _ => false) rfl rfl rfl rfl ?_)
    refine G.br rfl rfl (fun c3 => absurd c3 (by decide)) (fun c3 => ?_)
    repeat (first | refine G.sx (fun _ => false) rfl rfl rfl ?_ | refine G.gox (fun _ => false) rfl rfl rfl ?_ | refine G.getx (fun _ => false) rfl rfl rfl rfl ?_)
    refine G.putz rfl rfl rfl (Or.inl rfl) ?_
    repeat (first | refine G.sx (fun _ => false) rfl rfl rfl ?_ | refine G.gox (fun _ => false) rfl rfl rfl ?_ | refine G.getx (fun _ => false) rfl rfl rfl rfl ?_)
    exact E.ri rfl (Or.inr ⟨rfl, Or.inr rfl⟩) ⟨pa, i, j, rfl, rfl, hi, hj, Or.inr ⟨e1, rfl, rfl⟩⟩
abbrev wOk (h : Hp) (x : Int32) : Prop := 0 ≤ x ∧ x < h.1 3 0
/-- the bits of no part -/
def bitsOff (x : Int64) (n : Nat) : Int64 := (x.toUInt64 >>> ((nI n).toInt64.toUInt64 &&& Int64.toUInt64 63)).toInt64
theorem c_TO_free (hfl : l.flags = flags0) {h : Hp} {n : Nat} {it : Nat → Nat} {nb : Nat} {own : Nat → Nat} {nw : Nat} (hC : CI h n it nb own nw) (p w : Int32) (x : Int64) : CtT l y_TO_free prog_1_method_7_code 5 (some .boolean) (rmT 8) D cls cA slC (StX ad) ad [.ref 0, .int p, .int w, .long x] h (fun r h' => (pOk h p ∧ wOk h w ∧ bitsOff x n = 0) ∧ ∃ i k, p = nI i ∧ w = nI k ∧ i < n ∧ k < nw ∧ r = some (.int (if anyB (fun a => decide (own a = i) && anyB (fun b => decide (own b ≠ i) && (lbit x (own b) && mtB h 0 k a b)) nb) nb then 0 else 1)) ∧ h' = h) (fun E h' => h' = h ∧ (¬ (pOk h p ∧ wOk h w) ∧ E = 1 ∨ (pOk h p ∧ wOk h w) ∧ ¬ bitsOff x n = 0 ∧ E = 2)) := by
  obtain ⟨hI, hB, hon, hnw, h6, h10⟩ := hC
  refine CtT.of (tl := T_TO_free) _ XT hfl (by omega) rfl tk_TO_free cls_ok (Nat.le_of_ble_eq_true rfl) (fun V G E C CT TH _ => ?_)
  repeat (first | refine G.sx (fun _ => false) rfl rfl rfl ?_ | refine G.gox (fun _ => false) rfl rfl rfl ?_ | refine G.getx (fun _ => false) rfl rfl rfl rfl ?_)
  refine CT.ct [.int p] [] rfl cw_TO_90 (d1 := 6) (by omega) (by omega) rfl rfl rfl (c_TO_needPart hfl h p) (by decide) (fun r h1 hq => ?_) (fun F h1 hq => ⟨hq.2.2, Or.inl ⟨fun q => hq.1 q.1, hq.2.1⟩⟩)
  obtain ⟨pa, rfl, rfl⟩ := hq
  obtain ⟨i, rfl, hi⟩ := pOk_ex hI.1 hI.2.1 pa
  repeat (first | refine G.sx (fun _ => false) rfl rfl rfl ?_ | refine G.gox (fun _ => false) rfl rfl rfl ?_ | refine G.getx (fun _ => false) rfl rfl rfl rfl ?_)
  refine C.cv [.int w] [] rfl cw_TO_149 (d1 := 1) (by omega) (by omega) rfl rfl rfl (c_Wy_has (StX_ok ad) h1 w) (by decide) (fun r h2 hq => ?_)
  obtain ⟨rfl, rfl⟩ := hq
  refine G.br rfl rfl (fun c1 => ?_) (fun c1 => ?_)
  · have c1 : wOk h2 w := Decidable.not_not.mp (fun q => c1 (i01.mpr q))
    obtain ⟨k, rfl, hk⟩ : ∃ k, w = nI k ∧ k < nw := by
      obtain ⟨j, hj, rfl⟩ := nI_of (Int32.not_lt.mpr c1.1)
      have z2 := c1.2
      rw [hnw] at z2
      exact ⟨j, rfl, (nI_ltI hj (by omega)).mp z2⟩
    repeat (first | refine G.sx (fun q => Nat.beq q 34) rfl rfl rfl ?_ | refine G.gox (fun q => Nat.beq q 34) rfl rfl rfl ?_ | refine G.getx (fun q => Nat.beq q 34) rfl rfl rfl rfl ?_)
    show V 34 _ [.int (h2.1 1 0), .long x] _
    rw [hI.1]
    repeat (first | refine G.sx (fun _ => false) rfl rfl rfl ?_ | refine G.gox (fun _ => false) rfl rfl rfl ?_ | refine G.getx (fun _ => false) rfl rfl rfl rfl ?_)
    refine G.br rfl rfl (fun c2 => ?_) (fun c2 => ?_)
    · have c2 : bitsOff x n = 0 := cmp_eq.mp c2
      repeat (first | refine G.sx (fun _ => false) rfl rfl rfl ?_ | refine G.gox (fun _ => false) rfl rfl rfl ?_ | refine G.getx (fun _ => false) rfl rfl rfl rfl ?_)
      refine C.cv [.int (nI i), .int (nI k), .long x] [] rfl cw_TO_154 (d1 := 2) (by omega) (by omega) rfl rfl rfl (c_Ba_isPartBarred (StX_ok ad) hB i k (by have := hI.2.1; omega) (by omega) x) (by decide) (fun r h3 hq => ?_)
      obtain ⟨rfl, rfl⟩ := hq
      refine G.br rfl rfl (fun c3 => ?_) (fun c3 => ?_)
      · have c3 := Decidable.not_not.mp (fun q => c3 (i01.mpr q))
        repeat (first | refine G.sx (fun _ => false) rfl rfl rfl ?_ | refine G.gox (fun _ => false) rfl rfl rfl ?_ | refine G.getx (fun _ => false) rfl rfl rfl rfl ?_)
        refine E.ri rfl (Or.inr ⟨rfl, Or.inl rfl⟩) ⟨⟨pa, c1, c2⟩, i, k, rfl, rfl, hi, hk, ?_, rfl⟩
        rw [if_pos c3]
      · have c3 := i01.mp c3
        repeat (first | refine G.sx (fun _ => false) rfl rfl rfl ?_ | refine G.gox (fun _ => false) rfl rfl rfl ?_ | refine G.getx (fun _ => false) rfl rfl rfl rfl ?_)
        refine E.ri rfl (Or.inr ⟨rfl, Or.inr rfl⟩) ⟨⟨pa, c1, c2⟩, i, k, rfl, rfl, hi, hk, ?_, rfl⟩
        rw [if_neg c3]
    · exact TH.t 2 152 (by decide) rfl rfl (Or.inl rfl) (by decide) rfl rfl (by decide) ⟨rfl, Or.inr ⟨⟨pa, c1⟩, fun q => c2 (cmp_eq.mpr q), rfl⟩⟩
  · exact TH.t 1 150 (by decide) rfl rfl (Or.inl rfl) (by decide) rfl rfl (by decide) ⟨rfl, Or.inl ⟨fun q => i01.mp c1 q.2, rfl⟩⟩
theorem c_TO_glue (hfl : l.flags = flags0) {h : Hp} {ng : Nat} (hn : h.1 4 0 = nI ng) (h16 : ng ≤ 16) (a b t : Int32) : CtT l y_TO_glue prog_1_method_17_code 4 (some .boolean) (rmT 8) D cls cA slC (StX ad) ad [.ref 0, .int a, .int b, .int t] h (fun r h' => ((pOk h a ∧ pOk h b ∧ a ≠ b) ∧ 0 ≤ t ∧ t ≤ 1000) ∧ (ng = 16 ∧ r = some (.int 0) ∧ h' = h ∨ ng < 16 ∧ r = some (.int 1) ∧ h' = upI (upI (upI (upI h 14 ng a) 15 ng b) 16 ng t) 4 0 (nI (ng + 1)))) (fun E h' => h' = h ∧ (¬ (pOk h a ∧ pOk h b) ∧ E = 1 ∨ (pOk h a ∧ pOk h b) ∧ a = b ∧ E = 2 ∨ (pOk h a ∧ pOk h b ∧ a ≠ b) ∧ ¬ (0 ≤ t ∧ t ≤ 1000) ∧ E = 2)) := by
  refine CtT.of (tl := T_TO_glue) _ XT hfl (by omega) rfl tk_TO_glue cls_ok (Nat.le_of_ble_eq_true rfl) (fun V G E C CT TH _ => ?_)
  repeat (first | refine G.sx (fun _ => false) rfl rfl rfl ?_ | refine G.gox (fun _ => false) rfl rfl rfl ?_ | refine G.getx (fun _ => false) rfl rfl rfl rfl ?_)
  refine CT.ct [.int a, .int b] [] rfl cw_TO_141 (d1 := 7) (by omega) (by omega) rfl rfl rfl (c_TO_needTwoParts hfl h a b) (by decide) (fun r h1 hq => ?_) (fun F h1 hq => ⟨hq.2, by
    rcases hq.1 with q | q
    · exact Or.inl q
    · exact Or.inr (Or.inl q)⟩)
  obtain ⟨pa, rfl, rfl⟩ := hq
  have T1 : ∀ lv, ¬ (0 ≤ t ∧ t ≤ 1000) → V 17 lv [] h1 := fun lv c => TH.t 2 227 (by decide) rfl rfl (Or.inl rfl) (by decide) rfl rfl (by decide) ⟨rfl, Or.inr (Or.inr ⟨pa, c, rfl⟩)⟩
  repeat (first | refine G.sx (fun _ => false) rfl rfl rfl ?_ | refine G.gox (fun _ => false) rfl rfl rfl ?_ | refine G.getx (fun _ => false) rfl rfl rfl rfl ?_)
  refine G.br rfl rfl (fun c1 => T1 _ (fun q => absurd q.1 (Int32.not_le.mpr c1))) (fun c1 => ?_)
  repeat (first | refine G.sx (fun _ => false) rfl rfl rfl ?_ | refine G.gox (fun _ => false) rfl rfl rfl ?_ | refine G.getx (fun _ => false) rfl rfl rfl rfl ?_)
  refine G.br rfl rfl (fun c2 => ?_) (fun c2 => T1 _ (fun q => c2 q.2))
  repeat (first | refine G.sx (fun _ => false) rfl rfl rfl ?_ | refine G.gox (fun _ => false) rfl rfl rfl ?_ | refine G.getx (fun _ => false) rfl rfl rfl rfl ?_)
  refine C.cv [.int a, .int b, .int t] [] rfl cw_TO_229 (d1 := 1) (by omega) (by omega) rfl rfl rfl (c_Gl_addGlue (StX_ok ad) hn h16 a b t) (by decide) (fun r h3 hq => ?_)
  rcases hq with ⟨e1, rfl, rfl⟩ | ⟨e1, rfl, rfl⟩
  · exact E.ri rfl (Or.inr ⟨rfl, Or.inl rfl⟩) ⟨⟨pa, Int32.not_lt.mp c1, c2⟩, Or.inl ⟨e1, rfl, rfl⟩⟩
  · exact E.ri rfl (Or.inr ⟨rfl, Or.inr rfl⟩) ⟨⟨pa, Int32.not_lt.mp c1, c2⟩, Or.inr ⟨e1, rfl, rfl⟩⟩
/-- how long two parts are together -/
def exN2 (h : Hp) (own : Nat → Nat) (nb p q x : Nat) : Int64 := (exF (fun i => decide (own i = p ∨ own i = q)) (fun i => h.2 (26 + x) i) (fun i => h.2 (26 + x) i + h.2 (29 + x) i) nb).2 - (exF (fun i => decide (own i = p ∨ own i = q)) (fun i => h.2 (26 + x) i) (fun i => h.2 (26 + x) i + h.2 (29 + x) i) nb).1
theorem c_TO_clamp (hfl : l.flags = flags0) {h : Hp} {n : Nat} {it : Nat → Nat} {nb : Nat} {own : Nat → Nat} (hI : ItI h n it) (hB : BxI h nb own) (a b : Int32) (re : Int64) : CtT l y_TO_clamp prog_1_method_19_code 6 (some .int) (rmT 8) D cls cA slC (StX ad) ad [.ref 0, .int a, .int b, .long re] h (fun r h' => ((pOk h a ∧ pOk h b) ∧ 0 ≤ re) ∧ ∃ i j, a = nI i ∧ b = nI j ∧ i < n ∧ j < n ∧ r = some (.int (oI (if anyB (fun q => decide (own q = i)) nb && anyB (fun q => decide (own q = j)) nb then fstN (fun x => decide (exN2 h own nb i j x ≤ re)) 3 0 else none))) ∧ h' = h) (fun E h' => h' = h ∧ (¬ (pOk h a ∧ pOk h b) ∧ E = 1 ∨ (pOk h a ∧ pOk h b) ∧ ¬ 0 ≤ re ∧ E = 2)) := by
  have h12 := hI.2.1
  refine CtT.of (tl := T_TO_clamp) _ XT hfl (by omega) rfl tk_TO_clamp cls_ok (Nat.le_of_ble_eq_true rfl) (fun V G E C CT TH _ => ?_)
  repeat (first | refine G.sx (fun _ => false) rfl rfl rfl ?_ | refine G.gox (fun _ => false) rfl rfl rfl ?_ | refine G.getx (fun _ => false) rfl rfl rfl rfl ?_)
  refine CT.ct [.int a] [] rfl cw_TO_90 (d1 := 6) (by omega) (by omega) rfl rfl rfl (c_TO_needPart hfl h a) (by decide) (fun r h1 hq => ?_) (fun F h1 hq => ⟨hq.2.2, Or.inl ⟨fun q => hq.1 q.1, hq.2.1⟩⟩)
  obtain ⟨pa, rfl, rfl⟩ := hq
  repeat (first | refine G.sx (fun _ => false) rfl rfl rfl ?_ | refine G.gox (fun _ => false) rfl rfl rfl ?_ | refine G.getx (fun _ => false) rfl rfl rfl rfl ?_)
  refine CT.ct [.int b] [] rfl cw_TO_90 (d1 := 6) (by omega) (by omega) rfl rfl rfl (c_TO_needPart hfl h1 b) (by decide) (fun r h2 hq => ?_) (fun F h2 hq => ⟨hq.2.2, Or.inl ⟨fun q => hq.1 q.2, hq.2.1⟩⟩)
  obtain ⟨pb, rfl, rfl⟩ := hq
  obtain ⟨i, rfl, hi⟩ := pOk_ex hI.1 hI.2.1 pa
  obtain ⟨j, rfl, hj⟩ := pOk_ex hI.1 hI.2.1 pb
  repeat (first | refine G.sx (fun _ => false) rfl rfl rfl ?_ | refine G.gox (fun _ => false) rfl rfl rfl ?_ | refine G.getx (fun _ => false) rfl rfl rfl rfl ?_)
  refine G.br rfl rfl (fun c1 => ?_) (fun c1 => ?_)
  · have c1 : 0 ≤ re := cmp_ge.mp c1
    have N : ∀ lv, (anyB (fun q => decide (own q = i)) nb && anyB (fun q => decide (own q = j)) nb) = false → V 48 lv [] h2 := by
      intro lv hf
      repeat (first | refine G.sx (fun _ => false) rfl rfl rfl ?_ | refine G.gox (fun _ => false) rfl rfl rfl ?_ | refine G.getx (fun _ => false) rfl rfl rfl rfl ?_)
      refine E.ri rfl (Or.inl rfl) ⟨⟨⟨pa, pb⟩, c1⟩, i, j, rfl, rfl, hi, hj, ?_, rfl⟩
      rw [hf]
      rfl
    repeat (first | refine G.sx (fun _ => false) rfl rfl rfl ?_ | refine G.gox (fun _ => false) rfl rfl rfl ?_ | refine G.getx (fun _ => false) rfl rfl rfl rfl ?_)
    refine C.cv [.int (nI i)] [] rfl cw_TO_253 (d1 := 1) (by omega) (by omega) rfl rfl rfl (c_Bx_hasPart (StX_ok ad) hB i (by omega)) (by decide) (fun r h3 hq => ?_)
    obtain ⟨rfl, rfl⟩ := hq
    refine G.br rfl rfl (fun c2 => N _ (by have := i01.mp c2; simp [this])) (fun c2 => ?_)
    have c2 := Decidable.not_not.mp (fun q => c2 (i01.mpr q))
    repeat (first | refine G.sx (fun _ => false) rfl rfl rfl ?_ | refine G.gox (fun _ => false) rfl rfl rfl ?_ | refine G.getx (fun _ => false) rfl rfl rfl rfl ?_)
    refine C.cv [.int (nI j)] [] rfl cw_TO_253 (d1 := 1) (by omega) (by omega) rfl rfl rfl (c_Bx_hasPart (StX_ok ad) hB j (by omega)) (by decide) (fun r h4 hq => ?_)
    obtain ⟨rfl, rfl⟩ := hq
    refine G.br rfl rfl (fun c3 => ?_) (fun c3 => N _ (by have := i01.mp c3; simp [this]))
    have c3 := Decidable.not_not.mp (fun q => c3 (i01.mpr q))
    have L : ∀ (m x : Nat), m + x = 3 → fstN (fun x => decide (exN2 h4 own nb i j x ≤ re)) m x = fstN (fun x => decide (exN2 h4 own nb i j x ≤ re)) 3 0 → V 53 [some (.ref 0), some (.int (nI i)), some (.int (nI j)), some (.long re), none, some (.int (nI x))] [] h4 := by
      intro m
      induction m with
      | zero =>
        intro x hx e
        repeat (first | refine G.sx (fun _ => false) rfl rfl rfl ?_ | refine G.gox (fun _ => false) rfl rfl rfl ?_ | refine G.getx (fun _ => false) rfl rfl rfl rfl ?_)
        refine G.br rfl rfl (fun _ => ?_) (fun c1 => absurd (nI_le (a := 3) (by omega) (by omega)) c1)
        repeat (first | refine G.sx (fun _ => false) rfl rfl rfl ?_ | refine G.gox (fun _ => false) rfl rfl rfl ?_ | refine G.getx (fun _ => false) rfl rfl rfl rfl ?_)
        refine E.ri rfl (Or.inl rfl) ⟨⟨⟨pa, pb⟩, c1⟩, i, j, rfl, rfl, hi, hj, ?_, rfl⟩
        rw [c2, c3, ← e]
        rfl
      | succ m ih =>
        intro x hx e
        repeat (first | refine G.sx (fun _ => false) rfl rfl rfl ?_ | refine G.gox (fun _ => false) rfl rfl rfl ?_ | refine G.getx (fun _ => false) rfl rfl rfl rfl ?_)
        refine G.br rfl rfl (fun c5 => absurd c5 (nI_ge (b := 3) (by omega) (by omega))) (fun _ => ?_)
        repeat (first | refine G.sx (fun _ => false) rfl rfl rfl ?_ | refine G.gox (fun _ => false) rfl rfl rfl ?_ | refine G.getx (fun _ => false) rfl rfl rfl rfl ?_)
        refine C.cv [.int (nI i), .int (nI j), .int (nI x)] [] rfl cw_TO_256 (d1 := 1) (by omega) (by omega) rfl rfl rfl (c_Bx_extent (StX_ok ad) hB i j x (by omega) (by omega) (by omega)) (by decide) (fun r h5 hq => ?_)
        obtain ⟨rfl, rfl⟩ := hq
        repeat (first | refine G.sx (fun _ => false) rfl rfl rfl ?_ | refine G.gox (fun _ => false) rfl rfl rfl ?_ | refine G.getx (fun _ => false) rfl rfl rfl rfl ?_)
        refine G.br rfl rfl (fun c5 => ?_) (fun c5 => ?_)
        · have c5 : ¬ exN2 h5 own nb i j x ≤ re := Int64.not_le.mpr (cmp_gt.mp c5)
          repeat (first | refine G.sx (fun _ => false) rfl rfl rfl ?_ | refine G.gox (fun _ => false) rfl rfl rfl ?_ | refine G.getx (fun _ => false) rfl rfl rfl rfl ?_)
          refine G.go rfl ?_
          have e2 := ih (x + 1) (by omega) (by rw [← e]; simp only [fstN]; rw [if_neg (by simp [c5])])
          rw [← nI_1] at e2
          exact e2
        · have c5 : exN2 h5 own nb i j x ≤ re := Int64.not_lt.mp (fun q => c5 (cmp_gt.mpr q))
          repeat (first | refine G.sx (fun _ => false) rfl rfl rfl ?_ | refine G.gox (fun _ => false) rfl rfl rfl ?_ | refine G.getx (fun _ => false) rfl rfl rfl rfl ?_)
          refine E.ri rfl (Or.inl rfl) ⟨⟨⟨pa, pb⟩, c1⟩, i, j, rfl, rfl, hi, hj, ?_, rfl⟩
          have e3 : fstN (fun x => decide (exN2 h5 own nb i j x ≤ re)) (m + 1) x = some x := by simp [fstN, c5]
          rw [c2, c3, ← e, e3]
          rfl
    repeat (first | refine G.sx (fun q => Nat.beq q 53) rfl rfl rfl ?_ | refine G.gox (fun q => Nat.beq q 53) rfl rfl rfl ?_ | refine G.getx (fun q => Nat.beq q 53) rfl rfl rfl rfl ?_)
    exact L 3 0 rfl rfl
  · exact TH.t 2 251 (by decide) rfl rfl (Or.inl rfl) (by decide) rfl rfl (by decide) ⟨rfl, Or.inr ⟨⟨pa, pb⟩, fun q => c1 (cmp_ge.mpr q), rfl⟩⟩
end TOb
