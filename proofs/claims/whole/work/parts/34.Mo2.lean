/-! The reference: deep, slant, group, glue, hasBox, clamp -/
section MoB
variable {l : Launch} {D : va_G} {cA : Nat → ClassId} {ad : Nat → Nat} {St : (Nat → Prop) → State → Heap → Prop}
abbrev bOM (g : Hp) (x : Int32) : Prop := 0 ≤ x ∧ x < g.1 0 2
theorem Ok_ex {x y : Int32} {n : Nat} (hn : y = nI n) (h31 : n < 2 ^ 31) (hx : 0 ≤ x ∧ x < y) : ∃ i, x = nI i ∧ i < n := by
  obtain ⟨j, hj, rfl⟩ := nI_of (Int32.not_lt.mpr hx.1)
  have h2 := hx.2
  rw [hn] at h2
  exact ⟨j, rfl, (nI_ltI hj h31).mp h2⟩
theorem le1 {lv : List (Option Value)} {v : Value} (hl : lk lv 0 = some v) : leL [some v] lv := by
  cases lv with
  | nil => simp [lk] at hl
  | cons a r => exact leL_c hl leL_0
theorem c_Mo_deep (hSt : StOk St) {g : Hp} {nb : Nat} (hn : g.1 0 2 = nI nb) (h40 : nb ≤ 40) (b : Int32) (d : Int64) : Ct l y_Mo_deep prog_11_method_7_code 4 (some .boolean) (rmD 2) D cls cA slM St ad [.ref 0, .int b, .long d] g (fun r g' => (bOM g b ∧ siz d) ∧ (∃ i, b = nI i ∧ i < nb ∧ (g.2 2 (6 * i + 5) = g.2 2 (6 * i + 2) + d ∧ r = some (.int 0) ∧ g' = upI g 0 0 0 ∨ g.2 2 (6 * i + 5) ≠ g.2 2 (6 * i + 2) + d ∧ r = some (.int 1) ∧ g' = upI (upL (upI g 0 0 0) 2 (6 * i + 5) (g.2 2 (6 * i + 2) + d)) 0 14 0)) ∨ r = some (.int 0) ∧ (¬ bOM g b ∧ g' = upI g 0 0 1 ∨ bOM g b ∧ ¬ siz d ∧ g' = upI g 0 0 2)) := by
  refine Ct.of (tl := T_Mo_deep) (by decide) tk_Mo_deep cls_ok hSt (Nat.le_of_ble_eq_true rfl) (fun V G E C => ?_)
  have K1 : ∀ (c : Int32) lv, lk lv 0 = some (.ref 0) → 0 < c → (¬ bOM g b ∧ c = 1 ∨ bOM g b ∧ ¬ siz d ∧ c = 2) → V 33 lv [.int c, .ref 0] g := by
    intro c lv hl hc hx
    refine G.le _ (le1 hl) ?_
    refine G.put rfl rfl rfl ?_
    repeat (first | refine G.sx (fun _ => false) rfl rfl rfl ?_ | refine G.gox (fun _ => false) rfl rfl rfl ?_ | refine G.getx (fun _ => false) rfl rfl rfl rfl ?_)
    refine G.br rfl rfl (fun c2 => ?_) (fun c2 => absurd (by rw [up_eq]; exact hc) c2)
    repeat (first | refine G.sx (fun _ => false) rfl rfl rfl ?_ | refine G.gox (fun _ => false) rfl rfl rfl ?_ | refine G.getx (fun _ => false) rfl rfl rfl rfl ?_)
    refine E.ri rfl (Or.inr ⟨rfl, Or.inl rfl⟩) (Or.inr ⟨rfl, ?_⟩)
    rcases hx with ⟨a1, rfl⟩ | ⟨a1, a2, rfl⟩
    · exact Or.inl ⟨a1, rfl⟩
    · exact Or.inr ⟨a1, a2, rfl⟩
  repeat (first | refine G.sx (fun _ => false) rfl rfl rfl ?_ | refine G.gox (fun _ => false) rfl rfl rfl ?_ | refine G.getx (fun _ => false) rfl rfl rfl rfl ?_)
  refine G.br rfl rfl (fun c1 => ?_) (fun c1 => ?_)
  · repeat (first | refine G.sx (fun _ => false) rfl rfl rfl ?_ | refine G.gox (fun _ => false) rfl rfl rfl ?_ | refine G.getx (fun _ => false) rfl rfl rfl rfl ?_)
    exact K1 1 _ rfl (by decide) (Or.inl ⟨fun q => absurd q.1 (Int32.not_le.mpr c1), rfl⟩)
  repeat (first | refine G.sx (fun _ => false) rfl rfl rfl ?_ | refine G.gox (fun _ => false) rfl rfl rfl ?_ | refine G.getx (fun _ => false) rfl rfl rfl rfl ?_)
  refine G.br rfl rfl (fun c2 => ?_) (fun c2 => ?_)
  · have pk : bOM g b := ⟨Int32.not_lt.mp c1, c2⟩
    obtain ⟨i, rfl, hi⟩ := Ok_ex hn (by omega) pk
    repeat (first | refine G.sx (fun _ => false) rfl rfl rfl ?_ | refine G.gox (fun _ => false) rfl rfl rfl ?_ | refine G.getx (fun _ => false) rfl rfl rfl rfl ?_)
    refine C.cs [.long d, .long 1, .long 1000000] [.ref 0] rfl cw_Mo_69 (d1 := 1) (by omega) (by omega) rfl (c_Mo_isIn hSt g d _ _) (by decide) (fun r h6 hq => ?_)
    obtain ⟨rfl, rfl⟩ := hq
    refine G.br rfl rfl (fun c3 => ?_) (fun c3 => ?_)
    · repeat (first | refine G.sx (fun _ => false) rfl rfl rfl ?_ | refine G.gox (fun _ => false) rfl rfl rfl ?_ | refine G.getx (fun _ => false) rfl rfl rfl rfl ?_)
      exact K1 2 _ rfl (by decide) (Or.inr ⟨pk, i01.mp c3, rfl⟩)
    · have c3 : siz d := Decidable.not_not.mp (fun q => c3 (i01.mpr q))
      repeat (first | refine G.sx (fun _ => false) rfl rfl rfl ?_ | refine G.gox (fun _ => false) rfl rfl rfl ?_ | refine G.getx (fun _ => false) rfl rfl rfl rfl ?_)
      refine G.put rfl rfl rfl ?_
      repeat (first | refine G.sx (fun _ => false) rfl rfl rfl ?_ | refine G.gox (fun _ => false) rfl rfl rfl ?_ | refine G.getx (fun _ => false) rfl rfl rfl rfl ?_)
      refine G.br rfl rfl (fun c4 => absurd c4 (by rw [up_eq]; decide)) (fun c4 => ?_)
      repeat (first | refine G.sx (fun q => Nat.beq q 53) rfl rfl rfl ?_ | refine G.gox (fun q => Nat.beq q 53) rfl rfl rfl ?_ | refine G.getx (fun q => Nat.beq q 53) rfl rfl rfl rfl ?_)
      show V 53 _ [.int (6 * nI i + nI 5), .ref 2] _
      rw [ix6, nI_add]
      refine G.laln rfl rfl (by omega) (by decide) ?_
      repeat (first | refine G.sx (fun q => Nat.beq q 64) rfl rfl rfl ?_ | refine G.gox (fun q => Nat.beq q 64) rfl rfl rfl ?_ | refine G.getx (fun q => Nat.beq q 64) rfl rfl rfl rfl ?_)
      show V 64 _ [.int (6 * nI i + nI 2), .ref 2, _] _
      rw [ix6, nI_add]
      refine G.laln rfl rfl (by omega) (by decide) ?_
      repeat (first | refine G.sx (fun _ => false) rfl rfl rfl ?_ | refine G.gox (fun _ => false) rfl rfl rfl ?_ | refine G.getx (fun _ => false) rfl rfl rfl rfl ?_)
      refine G.br rfl rfl (fun c5 => ?_) (fun c5 => ?_)
      · repeat (first | refine G.sx (fun q => Nat.beq q 82) rfl rfl rfl ?_ | refine G.gox (fun q => Nat.beq q 82) rfl rfl rfl ?_ | refine G.getx (fun q => Nat.beq q 82) rfl rfl rfl rfl ?_)
        show V 82 _ [.int 5, .int (6 * nI i), .ref 2] _
        repeat (first | refine G.sx (fun q => Nat.beq q 83) rfl rfl rfl ?_ | refine G.gox (fun q => Nat.beq q 83) rfl rfl rfl ?_ | refine G.getx (fun q => Nat.beq q 83) rfl rfl rfl rfl ?_)
        show V 83 _ [.int (6 * nI i + nI 5), .ref 2] _
        rw [ix6, nI_add]
        repeat (first | refine G.sx (fun q => Nat.beq q 93) rfl rfl rfl ?_ | refine G.gox (fun q => Nat.beq q 93) rfl rfl rfl ?_ | refine G.getx (fun q => Nat.beq q 93) rfl rfl rfl rfl ?_)
        show V 93 _ [.int (6 * nI i + nI 2), .ref 2, .int (nI (6 * i + 5)), .ref 2] _
        rw [ix6, nI_add]
        refine G.laln rfl rfl (by omega) (by decide) ?_
        repeat (first | refine G.sx (fun _ => false) rfl rfl rfl ?_ | refine G.gox (fun _ => false) rfl rfl rfl ?_ | refine G.getx (fun _ => false) rfl rfl rfl rfl ?_)
        refine G.lasn rfl rfl (by omega) (by decide) ?_
        repeat (first | refine G.sx (fun _ => false) rfl rfl rfl ?_ | refine G.gox (fun _ => false) rfl rfl rfl ?_ | refine G.getx (fun _ => false) rfl rfl rfl rfl ?_)
        refine G.putz rfl rfl rfl (Or.inl rfl) ?_
        repeat (first | refine G.sx (fun _ => false) rfl rfl rfl ?_ | refine G.gox (fun _ => false) rfl rfl rfl ?_ | refine G.getx (fun _ => false) rfl rfl rfl rfl ?_)
        exact E.ri rfl (Or.inr ⟨rfl, Or.inr rfl⟩) (Or.inl ⟨⟨pk, c3⟩, i, rfl, hi, Or.inr ⟨fun q => c5 (cmp_eq.mpr q), rfl, rfl⟩⟩)
      · repeat (first | refine G.sx (fun _ => false) rfl rfl rfl ?_ | refine G.gox (fun _ => false) rfl rfl rfl ?_ | refine G.getx (fun _ => false) rfl rfl rfl rfl ?_)
        exact E.ri rfl (Or.inr ⟨rfl, Or.inl rfl⟩) (Or.inl ⟨⟨pk, c3⟩, i, rfl, hi, Or.inl ⟨cmp_eq.mp c5, rfl, rfl⟩⟩)
  · repeat (first | refine G.sx (fun _ => false) rfl rfl rfl ?_ | refine G.gox (fun _ => false) rfl rfl rfl ?_ | refine G.getx (fun _ => false) rfl rfl rfl rfl ?_)
    exact K1 1 _ rfl (by decide) (Or.inl ⟨fun q => c2 q.2, rfl⟩)
theorem c_Mo_slant (hSt : StOk St) {g : Hp} {ns : Nat} (hn : g.1 0 5 = nI ns) (h4 : ns ≤ 4) (x y z : Int64) : Ct l y_Mo_slant prog_11_method_8_code 9 (some .boolean) (rmD 2) D cls cA slM St ad [.ref 0, .long x, .long y, .long z] g (fun r g' => ((slt x ∧ slt y ∧ slt z) ∧ ¬ (x = 0 ∧ y = 0 ∧ z = 0)) ∧ (ns = 4 ∧ r = some (.int 0) ∧ g' = upI g 0 0 0 ∨ ns < 4 ∧ r = some (.int 1) ∧ g' = upI (upI (upL (upL (upL (upI g 0 0 0) 3 (3 * (6 + ns)) x) 3 (3 * (6 + ns) + 1) y) 3 (3 * (6 + ns) + 2) z) 0 5 (nI (ns + 1))) 0 14 0) ∨ ¬ ((slt x ∧ slt y ∧ slt z) ∧ ¬ (x = 0 ∧ y = 0 ∧ z = 0)) ∧ r = some (.int 0) ∧ g' = upI g 0 0 1) := by
  refine Ct.of (tl := T_Mo_slant) (by decide) tk_Mo_slant cls_ok hSt (Nat.le_of_ble_eq_true rfl) (fun V G E C => ?_)
  have J0 : ¬ ((slt x ∧ slt y ∧ slt z) ∧ ¬ (x = 0 ∧ y = 0 ∧ z = 0)) → V 63 (ent [.ref 0, .long x, .long y, .long z] 9) [] g := by
    intro hb
    repeat (first | refine G.sx (fun _ => false) rfl rfl rfl ?_ | refine G.gox (fun _ => false) rfl rfl rfl ?_ | refine G.getx (fun _ => false) rfl rfl rfl rfl ?_)
    refine G.br rfl rfl (fun c1 => ?_) (fun c1 => absurd rfl c1)
    repeat (first | refine G.sx (fun _ => false) rfl rfl rfl ?_ | refine G.gox (fun _ => false) rfl rfl rfl ?_ | refine G.getx (fun _ => false) rfl rfl rfl rfl ?_)
    refine G.put rfl rfl rfl ?_
    repeat (first | refine G.sx (fun _ => false) rfl rfl rfl ?_ | refine G.gox (fun _ => false) rfl rfl rfl ?_ | refine G.getx (fun _ => false) rfl rfl rfl rfl ?_)
    refine G.br rfl rfl (fun c2 => ?_) (fun c2 => absurd (by rw [up_eq]; decide) c2)
    repeat (first | refine G.sx (fun _ => false) rfl rfl rfl ?_ | refine G.gox (fun _ => false) rfl rfl rfl ?_ | refine G.getx (fun _ => false) rfl rfl rfl rfl ?_)
    exact E.ri rfl (Or.inr ⟨rfl, Or.inl rfl⟩) (Or.inr ⟨hb, rfl, rfl⟩)
  have J1 : ((slt x ∧ slt y ∧ slt z) ∧ ¬ (x = 0 ∧ y = 0 ∧ z = 0)) → V 59 (ent [.ref 0, .long x, .long y, .long z] 9) [] g := by
    intro hb
    repeat (first | refine G.sx (fun _ => false) rfl rfl rfl ?_ | refine G.gox (fun _ => false) rfl rfl rfl ?_ | refine G.getx (fun _ => false) rfl rfl rfl rfl ?_)
    refine G.br rfl rfl (fun c1 => absurd c1 (by decide)) (fun c1 => ?_)
    repeat (first | refine G.sx (fun _ => false) rfl rfl rfl ?_ | refine G.gox (fun _ => false) rfl rfl rfl ?_ | refine G.getx (fun _ => false) rfl rfl rfl rfl ?_)
    refine G.put rfl rfl rfl ?_
    repeat (first | refine G.sx (fun _ => false) rfl rfl rfl ?_ | refine G.gox (fun _ => false) rfl rfl rfl ?_ | refine G.getx (fun _ => false) rfl rfl rfl rfl ?_)
    refine G.br rfl rfl (fun c2 => absurd c2 (by rw [up_eq]; decide)) (fun c2 => ?_)
    have e1 : (upI g 0 0 0).1 0 5 = nI ns := by rw [up_ne _ _ _ _ (by decide)]; exact hn
    repeat (first | refine G.sx (fun q => Nat.beq q 92) rfl rfl rfl ?_ | refine G.gox (fun q => Nat.beq q 92) rfl rfl rfl ?_ | refine G.getx (fun q => Nat.beq q 92) rfl rfl rfl rfl ?_)
    show V 92 _ [.int 4, .int ((upI g 0 0 0).1 0 5)] _
    rw [e1]
    refine G.br rfl rfl (fun c3 => ?_) (fun c3 => ?_)
    · have hlt : ns < 4 := by
        have : ns ≠ 4 := fun z => c3 (by rw [z]; rfl)
        omega
      repeat (first | refine G.sx (fun q => Nat.beq q 106) rfl rfl rfl ?_ | refine G.gox (fun q => Nat.beq q 106) rfl rfl rfl ?_ | refine G.getx (fun q => Nat.beq q 106) rfl rfl rfl rfl ?_)
      show V 106 _ [.int (3 * (nI 6 + (upI g 0 0 0).1 0 5))] _
      rw [e1, nI_add, ix3]
      repeat (first | refine G.sx (fun _ => false) rfl rfl rfl ?_ | refine G.gox (fun _ => false) rfl rfl rfl ?_ | refine G.getx (fun _ => false) rfl rfl rfl rfl ?_)
      refine G.lasn rfl rfl (by omega) (by decide) ?_
      repeat (first | refine G.sx (fun q => Nat.beq q 125) rfl rfl rfl ?_ | refine G.gox (fun q => Nat.beq q 125) rfl rfl rfl ?_ | refine G.getx (fun q => Nat.beq q 125) rfl rfl rfl rfl ?_)
      show V 125 _ [.long y, .int (nI (3 * (6 + ns)) + nI 1), .ref 3] _
      rw [nI_add]
      refine G.lasn rfl rfl (by omega) (by decide) ?_
      repeat (first | refine G.sx (fun q => Nat.beq q 136) rfl rfl rfl ?_ | refine G.gox (fun q => Nat.beq q 136) rfl rfl rfl ?_ | refine G.getx (fun q => Nat.beq q 136) rfl rfl rfl rfl ?_)
      show V 136 _ [.long z, .int (nI (3 * (6 + ns)) + nI 2), .ref 3] _
      rw [nI_add]
      refine G.lasn rfl rfl (by omega) (by decide) ?_
      repeat (first | refine G.sx (fun q => Nat.beq q 144) rfl rfl rfl ?_ | refine G.gox (fun q => Nat.beq q 144) rfl rfl rfl ?_ | refine G.getx (fun q => Nat.beq q 144) rfl rfl rfl rfl ?_)
      show V 144 _ [.int ((upI g 0 0 0).1 0 5 + 1), .ref 0] _
      rw [e1, nI_1]
      refine G.put rfl rfl rfl ?_
      repeat (first | refine G.sx (fun _ => false) rfl rfl rfl ?_ | refine G.gox (fun _ => false) rfl rfl rfl ?_ | refine G.getx (fun _ => false) rfl rfl rfl rfl ?_)
      refine G.putz rfl rfl rfl (Or.inl rfl) ?_
      repeat (first | refine G.sx (fun _ => false) rfl rfl rfl ?_ | refine G.gox (fun _ => false) rfl rfl rfl ?_ | refine G.getx (fun _ => false) rfl rfl rfl rfl ?_)
      exact E.ri rfl (Or.inr ⟨rfl, Or.inr rfl⟩) (Or.inl ⟨hb, Or.inr ⟨hlt, rfl, rfl⟩⟩)
    · have hge : ns = 4 := (nI_eq (b := 4) (by omega) (by omega)).mp c3
      repeat (first | refine G.sx (fun _ => false) rfl rfl rfl ?_ | refine G.gox (fun _ => false) rfl rfl rfl ?_ | refine G.getx (fun _ => false) rfl rfl rfl rfl ?_)
      exact E.ri rfl (Or.inr ⟨rfl, Or.inl rfl⟩) (Or.inl ⟨hb, Or.inl ⟨hge, rfl, rfl⟩⟩)
  repeat (first | refine G.sx (fun _ => false) rfl rfl rfl ?_ | refine G.gox (fun _ => false) rfl rfl rfl ?_ | refine G.getx (fun _ => false) rfl rfl rfl rfl ?_)
  refine C.cs [.long x, .long (-1000), .long 1000] [] rfl cw_Mo_69 (d1 := 1) (by omega) (by omega) rfl (c_Mo_isIn hSt g x _ _) (by decide) (fun r h2 hq => ?_)
  obtain ⟨rfl, rfl⟩ := hq
  refine G.br rfl rfl (fun c2 => J0 (fun q => i01.mp c2 q.1.1)) (fun c2 => ?_)
  repeat (first | refine G.sx (fun _ => false) rfl rfl rfl ?_ | refine G.gox (fun _ => false) rfl rfl rfl ?_ | refine G.getx (fun _ => false) rfl rfl rfl rfl ?_)
  refine C.cs [.long y, .long (-1000), .long 1000] [] rfl cw_Mo_69 (d1 := 1) (by omega) (by omega) rfl (c_Mo_isIn hSt h2 y _ _) (by decide) (fun r h3 hq => ?_)
  obtain ⟨rfl, rfl⟩ := hq
  refine G.br rfl rfl (fun c3 => J0 (fun q => i01.mp c3 q.1.2.1)) (fun c3 => ?_)
  repeat (first | refine G.sx (fun _ => false) rfl rfl rfl ?_ | refine G.gox (fun _ => false) rfl rfl rfl ?_ | refine G.getx (fun _ => false) rfl rfl rfl rfl ?_)
  refine C.cs [.long z, .long (-1000), .long 1000] [] rfl cw_Mo_69 (d1 := 1) (by omega) (by omega) rfl (c_Mo_isIn hSt h3 z _ _) (by decide) (fun r h4 hq => ?_)
  obtain ⟨rfl, rfl⟩ := hq
  refine G.br rfl rfl (fun c4 => J0 (fun q => i01.mp c4 q.1.2.2)) (fun c4 => ?_)
  have hs : slt x ∧ slt y ∧ slt z := ⟨Decidable.not_not.mp (fun q => c2 (i01.mpr q)), Decidable.not_not.mp (fun q => c3 (i01.mpr q)), Decidable.not_not.mp (fun q => c4 (i01.mpr q))⟩
  repeat (first | refine G.sx (fun _ => false) rfl rfl rfl ?_ | refine G.gox (fun _ => false) rfl rfl rfl ?_ | refine G.getx (fun _ => false) rfl rfl rfl rfl ?_)
  refine G.br rfl rfl (fun c5 => J1 ⟨hs, fun q => c5 (cmp_eq.mpr q.1)⟩) (fun c5 => ?_)
  repeat (first | refine G.sx (fun _ => false) rfl rfl rfl ?_ | refine G.gox (fun _ => false) rfl rfl rfl ?_ | refine G.getx (fun _ => false) rfl rfl rfl rfl ?_)
  refine G.br rfl rfl (fun c6 => J1 ⟨hs, fun q => c6 (cmp_eq.mpr q.2.1)⟩) (fun c6 => ?_)
  repeat (first | refine G.sx (fun _ => false) rfl rfl rfl ?_ | refine G.gox (fun _ => false) rfl rfl rfl ?_ | refine G.getx (fun _ => false) rfl rfl rfl rfl ?_)
  refine G.br rfl rfl (fun c7 => J0 (fun q => q.2 ⟨cmp_eq.mp c5, cmp_eq.mp c6, cmp_eq.mp c7⟩)) (fun c7 => J1 ⟨hs, fun q => c7 (cmp_eq.mpr q.2.2)⟩)
theorem c_Mo_glue (hSt : StOk St) {g : Hp} {ng : Nat} (hn : g.1 0 8 = nI ng) (h16 : ng ≤ 16) (a b t : Int32) : Ct l y_Mo_glue prog_11_method_40_code 4 (some .boolean) (rmD 1) D cls cA slM St ad [.ref 0, .int a, .int b, .int t] g (fun r g' => ((pOM g a ∧ pOM g b) ∧ a ≠ b ∧ 0 ≤ t ∧ t ≤ 1000) ∧ (ng = 16 ∧ r = some (.int 0) ∧ g' = upI g 0 0 0 ∨ ng < 16 ∧ r = some (.int 1) ∧ g' = upI (upI (upI (upI (upI g 0 0 0) 5 ng a) 6 ng b) 7 ng t) 0 8 (nI (ng + 1))) ∨ r = some (.int 0) ∧ (¬ (pOM g a ∧ pOM g b) ∧ g' = upI g 0 0 1 ∨ (pOM g a ∧ pOM g b) ∧ ¬ (a ≠ b ∧ 0 ≤ t ∧ t ≤ 1000) ∧ g' = upI g 0 0 2)) := by
  refine Ct.of (tl := T_Mo_glue) (by decide) tk_Mo_glue cls_ok hSt (Nat.le_of_ble_eq_true rfl) (fun V G E C => ?_)
  have K1 : ∀ (c : Int32) lv, lk lv 0 = some (.ref 0) → 0 < c → (¬ (pOM g a ∧ pOM g b) ∧ c = 1 ∨ (pOM g a ∧ pOM g b) ∧ ¬ (a ≠ b ∧ 0 ≤ t ∧ t ≤ 1000) ∧ c = 2) → V 50 lv [.int c, .ref 0] g := by
    intro c lv hl hc hx
    refine G.le _ (le1 hl) ?_
    refine G.put rfl rfl rfl ?_
    repeat (first | refine G.sx (fun _ => false) rfl rfl rfl ?_ | refine G.gox (fun _ => false) rfl rfl rfl ?_ | refine G.getx (fun _ => false) rfl rfl rfl rfl ?_)
    refine G.br rfl rfl (fun c2 => ?_) (fun c2 => absurd (by rw [up_eq]; exact hc) c2)
    repeat (first | refine G.sx (fun _ => false) rfl rfl rfl ?_ | refine G.gox (fun _ => false) rfl rfl rfl ?_ | refine G.getx (fun _ => false) rfl rfl rfl rfl ?_)
    refine E.ri rfl (Or.inr ⟨rfl, Or.inl rfl⟩) (Or.inr ⟨rfl, ?_⟩)
    rcases hx with ⟨a1, rfl⟩ | ⟨a1, a2, rfl⟩
    · exact Or.inl ⟨a1, rfl⟩
    · exact Or.inr ⟨a1, a2, rfl⟩
  have K2 : ∀ lv, lk lv 0 = some (.ref 0) → ¬ (pOM g a ∧ pOM g b) → V 25 lv [.ref 0] g := by
    intro lv hl hx
    refine G.le _ (le1 hl) ?_
    repeat (first | refine G.sx (fun _ => false) rfl rfl rfl ?_ | refine G.gox (fun _ => false) rfl rfl rfl ?_ | refine G.getx (fun _ => false) rfl rfl rfl rfl ?_)
    exact K1 1 _ rfl (by decide) (Or.inl ⟨hx, rfl⟩)
  repeat (first | refine G.sx (fun _ => false) rfl rfl rfl ?_ | refine G.gox (fun _ => false) rfl rfl rfl ?_ | refine G.getx (fun _ => false) rfl rfl rfl rfl ?_)
  refine G.br rfl rfl (fun c1 => K2 _ rfl (fun q => absurd q.1.1 (Int32.not_le.mpr c1))) (fun c1 => ?_)
  repeat (first | refine G.sx (fun _ => false) rfl rfl rfl ?_ | refine G.gox (fun _ => false) rfl rfl rfl ?_ | refine G.getx (fun _ => false) rfl rfl rfl rfl ?_)
  refine G.br rfl rfl (fun c2 => K2 _ rfl (fun q => absurd q.1.2 (Int32.not_lt.mpr c2))) (fun c2 => ?_)
  repeat (first | refine G.sx (fun _ => false) rfl rfl rfl ?_ | refine G.gox (fun _ => false) rfl rfl rfl ?_ | refine G.getx (fun _ => false) rfl rfl rfl rfl ?_)
  refine G.br rfl rfl (fun c3 => K2 _ rfl (fun q => absurd q.2.1 (Int32.not_le.mpr c3))) (fun c3 => ?_)
  repeat (first | refine G.sx (fun _ => false) rfl rfl rfl ?_ | refine G.gox (fun _ => false) rfl rfl rfl ?_ | refine G.getx (fun _ => false) rfl rfl rfl rfl ?_)
  refine G.br rfl rfl (fun c4 => ?_) (fun c4 => K2 _ rfl (fun q => c4 q.2.2))
  have pk : pOM g a ∧ pOM g b := ⟨⟨Int32.not_lt.mp c1, Int32.not_le.mp c2⟩, Int32.not_lt.mp c3, c4⟩
  have K3 : ∀ lv, lk lv 0 = some (.ref 0) → ¬ (a ≠ b ∧ 0 ≤ t ∧ t ≤ 1000) → V 45 lv [.ref 0] g := by
    intro lv hl hx
    refine G.le _ (le1 hl) ?_
    repeat (first | refine G.sx (fun _ => false) rfl rfl rfl ?_ | refine G.gox (fun _ => false) rfl rfl rfl ?_ | refine G.getx (fun _ => false) rfl rfl rfl rfl ?_)
    exact K1 2 _ rfl (by decide) (Or.inr ⟨pk, hx, rfl⟩)
  repeat (first | refine G.sx (fun _ => false) rfl rfl rfl ?_ | refine G.gox (fun _ => false) rfl rfl rfl ?_ | refine G.getx (fun _ => false) rfl rfl rfl rfl ?_)
  refine G.br rfl rfl (fun c5 => K3 _ rfl (fun q => q.1 c5)) (fun c5 => ?_)
  repeat (first | refine G.sx (fun _ => false) rfl rfl rfl ?_ | refine G.gox (fun _ => false) rfl rfl rfl ?_ | refine G.getx (fun _ => false) rfl rfl rfl rfl ?_)
  refine G.br rfl rfl (fun c6 => K3 _ rfl (fun q => absurd q.2.1 (Int32.not_le.mpr c6))) (fun c6 => ?_)
  repeat (first | refine G.sx (fun _ => false) rfl rfl rfl ?_ | refine G.gox (fun _ => false) rfl rfl rfl ?_ | refine G.getx (fun _ => false) rfl rfl rfl rfl ?_)
  refine G.br rfl rfl (fun c7 => ?_) (fun c7 => K3 _ rfl (fun q => c7 q.2.2))
  have pt : a ≠ b ∧ 0 ≤ t ∧ t ≤ 1000 := ⟨c5, Int32.not_lt.mp c6, c7⟩
  repeat (first | refine G.sx (fun _ => false) rfl rfl rfl ?_ | refine G.gox (fun _ => false) rfl rfl rfl ?_ | refine G.getx (fun _ => false) rfl rfl rfl rfl ?_)
  refine G.put rfl rfl rfl ?_
  repeat (first | refine G.sx (fun _ => false) rfl rfl rfl ?_ | refine G.gox (fun _ => false) rfl rfl rfl ?_ | refine G.getx (fun _ => false) rfl rfl rfl rfl ?_)
  refine G.br rfl rfl (fun c2 => absurd c2 (by rw [up_eq]; decide)) (fun c2 => ?_)
  have e1 : (upI g 0 0 0).1 0 8 = nI ng := by rw [up_ne _ _ _ _ (by decide)]; exact hn
  repeat (first | refine G.sx (fun q => Nat.beq q 66) rfl rfl rfl ?_ | refine G.gox (fun q => Nat.beq q 66) rfl rfl rfl ?_ | refine G.getx (fun q => Nat.beq q 66) rfl rfl rfl rfl ?_)
  show V 66 _ [.int 16, .int ((upI g 0 0 0).1 0 8)] _
  rw [e1]
  refine G.br rfl rfl (fun c3 => ?_) (fun c3 => ?_)
  · have hlt : ng < 16 := by
      have : ng ≠ 16 := fun z => c3 (by rw [z]; rfl)
      omega
    repeat (first | refine G.sx (fun q => Nat.beq q 80) rfl rfl rfl ?_ | refine G.gox (fun q => Nat.beq q 80) rfl rfl rfl ?_ | refine G.getx (fun q => Nat.beq q 80) rfl rfl rfl rfl ?_)
    show V 80 _ [.int a, .int ((upI g 0 0 0).1 0 8), .ref 5] _
    rw [e1]
    refine G.iasn rfl rfl hlt (by decide) ?_
    have e2 : (upI (upI g 0 0 0) 5 ng a).1 0 8 = nI ng := by rw [up_off _ _ _ _ (by decide)]; exact e1
    repeat (first | refine G.sx (fun q => Nat.beq q 90) rfl rfl rfl ?_ | refine G.gox (fun q => Nat.beq q 90) rfl rfl rfl ?_ | refine G.getx (fun q => Nat.beq q 90) rfl rfl rfl rfl ?_)
    show V 90 _ [.int b, .int ((upI (upI g 0 0 0) 5 ng a).1 0 8), .ref 6] _
    rw [e2]
    refine G.iasn rfl rfl hlt (by decide) ?_
    have e3 : (upI (upI (upI g 0 0 0) 5 ng a) 6 ng b).1 0 8 = nI ng := by rw [up_off _ _ _ _ (by decide)]; exact e2
    repeat (first | refine G.sx (fun q => Nat.beq q 100) rfl rfl rfl ?_ | refine G.gox (fun q => Nat.beq q 100) rfl rfl rfl ?_ | refine G.getx (fun q => Nat.beq q 100) rfl rfl rfl rfl ?_)
    show V 100 _ [.int t, .int ((upI (upI (upI g 0 0 0) 5 ng a) 6 ng b).1 0 8), .ref 7] _
    rw [e3]
    refine G.iasn rfl rfl hlt (by decide) ?_
    have e4 : (upI (upI (upI (upI g 0 0 0) 5 ng a) 6 ng b) 7 ng t).1 0 8 = nI ng := by rw [up_off _ _ _ _ (by decide)]; exact e3
    repeat (first | refine G.sx (fun q => Nat.beq q 108) rfl rfl rfl ?_ | refine G.gox (fun q => Nat.beq q 108) rfl rfl rfl ?_ | refine G.getx (fun q => Nat.beq q 108) rfl rfl rfl rfl ?_)
    show V 108 _ [.int ((upI (upI (upI (upI g 0 0 0) 5 ng a) 6 ng b) 7 ng t).1 0 8 + 1), .ref 0] _
    rw [e4, nI_1]
    refine G.put rfl rfl rfl ?_
    repeat (first | refine G.sx (fun _ => false) rfl rfl rfl ?_ | refine G.gox (fun _ => false) rfl rfl rfl ?_ | refine G.getx (fun _ => false) rfl rfl rfl rfl ?_)
    exact E.ri rfl (Or.inr ⟨rfl, Or.inr rfl⟩) (Or.inl ⟨⟨pk, pt⟩, Or.inr ⟨hlt, rfl, rfl⟩⟩)
  · have hge : ng = 16 := (nI_eq (b := 16) (by omega) (by omega)).mp c3
    repeat (first | refine G.sx (fun _ => false) rfl rfl rfl ?_ | refine G.gox (fun _ => false) rfl rfl rfl ?_ | refine G.getx (fun _ => false) rfl rfl rfl rfl ?_)
    exact E.ri rfl (Or.inr ⟨rfl, Or.inl rfl⟩) (Or.inl ⟨⟨pk, pt⟩, Or.inl ⟨hge, rfl, rfl⟩⟩)
end MoB
