/-! The reference: locked, stage, stepOf, keeps, group, clamp -/
section MoG
variable {l : Launch} {D : va_G} {cA : Nat → ClassId} {ad : Nat → Nat} {St : (Nat → Prop) → State → Heap → Prop}
/-- the k-th part of the items left, from part p on -/
def lcM (B : Nat) (it : Nat → Nat) : Nat → Nat → Int32 → Int32
  | 0, _, _ => -1
  | m + 1, p, k => if B.testBit (it p) then (if k = 0 then nI p else lcM B it m (p + 1) (k + -1)) else lcM B it m (p + 1) k
theorem c_Mo_locked (hSt : StOk St) {g : Hp} {n : Nat} {it : Nat → Nat} (hI : GrI g n it) {B : Nat} (hl : g.1 0 18 = nI B) (hB : B < 4096) (k : Int32) : Ct l y_Mo_locked prog_11_method_28_code 4 (some .int) (rmD 2) D cls cA slM St ad [.ref 0, .int k] g (fun r g' => g.1 0 14 = 0 ∧ r = some (.int 0) ∧ g' = upI g 0 0 1 ∨ ¬ g.1 0 14 = 0 ∧ (¬ 0 ≤ k ∧ r = some (.int 0) ∧ g' = upI g 0 0 2 ∨ 0 ≤ k ∧ r = some (.int (lcM B it n 0 k)) ∧ g' = upI g 0 0 0)) := by
  obtain ⟨hn, n12, hit⟩ := id hI
  refine Ct.of (tl := T_Mo_locked) (by decide) tk_Mo_locked cls_ok hSt (Nat.le_of_ble_eq_true rfl) (fun V G E C => ?_)
  repeat (first | refine G.sx (fun _ => false) rfl rfl rfl ?_ | refine G.gox (fun _ => false) rfl rfl rfl ?_ | refine G.getx (fun _ => false) rfl rfl rfl rfl ?_)
  refine C.cv [] [] rfl cw_Mo_136 (d1 := 1) (by omega) (by omega) rfl rfl rfl (c_Mo_notRun hSt g) (by decide) (fun r h1 hq => ?_)
  rcases hq with ⟨r0, rfl, rfl⟩ | ⟨r0, rfl, rfl⟩
  · refine G.br rfl rfl (fun c1 => absurd c1 (by decide)) (fun _ => ?_)
    repeat (first | refine G.sx (fun _ => false) rfl rfl rfl ?_ | refine G.gox (fun _ => false) rfl rfl rfl ?_ | refine G.getx (fun _ => false) rfl rfl rfl rfl ?_)
    exact E.ri rfl (Or.inl rfl) (Or.inl ⟨r0, rfl, rfl⟩)
  · refine G.br rfl rfl (fun _ => ?_) (fun c1 => absurd rfl c1)
    repeat (first | refine G.sx (fun _ => false) rfl rfl rfl ?_ | refine G.gox (fun _ => false) rfl rfl rfl ?_ | refine G.getx (fun _ => false) rfl rfl rfl rfl ?_)
    refine G.br rfl rfl (fun c1 => ?_) (fun c1 => ?_)
    · have L : ∀ m p x, m + p = n → lcM B it m p x = lcM B it n 0 k → V 26 [some (.ref 0), some (.int k), some (.int x), some (.int (nI p))] [] (upI g 0 0 0) := by
        intro m
        induction m with
        | zero =>
          intro p x hp e
          repeat (first | refine G.sx (fun _ => false) rfl rfl rfl ?_ | refine G.gox (fun _ => false) rfl rfl rfl ?_ | refine G.getx (fun _ => false) rfl rfl rfl rfl ?_)
          refine G.br rfl rfl (fun c2 => ?_) (fun c2 => absurd (by rw [up_ne _ _ _ _ (by decide), hn]; exact nI_le (by omega) (by omega)) c2)
          repeat (first | refine G.sx (fun _ => false) rfl rfl rfl ?_ | refine G.gox (fun _ => false) rfl rfl rfl ?_ | refine G.getx (fun _ => false) rfl rfl rfl rfl ?_)
          refine G.br rfl rfl (fun c3 => ?_) (fun c3 => absurd (by rw [up_eq]; decide) c3)
          repeat (first | refine G.sx (fun _ => false) rfl rfl rfl ?_ | refine G.gox (fun _ => false) rfl rfl rfl ?_ | refine G.getx (fun _ => false) rfl rfl rfl rfl ?_)
          exact E.ri rfl (Or.inl rfl) (Or.inr ⟨r0, Or.inr ⟨c1, by rw [← e]; rfl, rfl⟩⟩)
        | succ m ih =>
          intro p x hp e
          obtain ⟨q1, q2⟩ := hit p (by omega)
          repeat (first | refine G.sx (fun _ => false) rfl rfl rfl ?_ | refine G.gox (fun _ => false) rfl rfl rfl ?_ | refine G.getx (fun _ => false) rfl rfl rfl rfl ?_)
          refine G.br rfl rfl (fun c2 => absurd c2 (by rw [up_ne _ _ _ _ (by decide), hn]; exact nI_ge (by omega) (by omega))) (fun c2 => ?_)
          repeat (first | refine G.sx (fun _ => false) rfl rfl rfl ?_ | refine G.gox (fun _ => false) rfl rfl rfl ?_ | refine G.getx (fun _ => false) rfl rfl rfl rfl ?_)
          refine G.br rfl rfl (fun c3 => absurd (up_eq _ _ _ _) c3) (fun c3 => ?_)
          repeat (first | refine G.sx (fun _ => false) rfl rfl rfl ?_ | refine G.gox (fun _ => false) rfl rfl rfl ?_ | refine G.getx (fun _ => false) rfl rfl rfl rfl ?_)
          refine G.ialn rfl rfl (by omega) (by decide) ?_
          have e4 : (upI g 0 0 0).1 4 p = nI (it p) := by rw [up_off _ _ _ _ (by decide)]; exact q1
          have e18 : (upI g 0 0 0).1 0 18 = nI B := by rw [up_ne _ _ _ _ (by decide)]; exact hl
          show V 51 _ [.int ((upI g 0 0 0).1 4 p), .int ((upI g 0 0 0).1 0 18)] _
          rw [e4, e18]
          refine C.cs [.int (nI B), .int (nI (it p))] [] rfl cw_Mo_122 (d1 := 1) (by omega) (by omega) rfl (c_Mo_has hSt (upI g 0 0 0) B (it p) (by omega) (by omega)) (by decide) (fun r h1 hq => ?_)
          obtain ⟨rfl, rfl⟩ := hq
          refine G.br rfl rfl (fun c4 => ?_) (fun c4 => ?_)
          · have c4 : ¬ B.testBit (it p) = true := i01.mp c4
            have i1 := ih (p + 1) x (by omega) (by rw [← e]; simp only [lcM]; rw [if_neg c4])
            rw [← nI_1] at i1
            repeat (first | refine G.sx (fun _ => false) rfl rfl rfl ?_ | refine G.gox (fun _ => false) rfl rfl rfl ?_ | refine G.getx (fun _ => false) rfl rfl rfl rfl ?_)
            refine G.go rfl ?_
            exact i1
          · have c4 : B.testBit (it p) = true := Decidable.not_not.mp (fun q => c4 (i01.mpr q))
            repeat (first | refine G.sx (fun _ => false) rfl rfl rfl ?_ | refine G.gox (fun _ => false) rfl rfl rfl ?_ | refine G.getx (fun _ => false) rfl rfl rfl rfl ?_)
            refine G.br rfl rfl (fun c5 => ?_) (fun c5 => ?_)
            · have i1 := ih (p + 1) (x + -1) (by omega) (by rw [← e]; simp only [lcM]; rw [if_pos c4, if_neg c5])
              rw [← nI_1] at i1
              repeat (first | refine G.sx (fun _ => false) rfl rfl rfl ?_ | refine G.gox (fun _ => false) rfl rfl rfl ?_ | refine G.getx (fun _ => false) rfl rfl rfl rfl ?_)
              refine G.go rfl ?_
              exact i1
            · repeat (first | refine G.sx (fun _ => false) rfl rfl rfl ?_ | refine G.gox (fun _ => false) rfl rfl rfl ?_ | refine G.getx (fun _ => false) rfl rfl rfl rfl ?_)
              refine E.ri rfl (Or.inl rfl) (Or.inr ⟨r0, Or.inr ⟨c1, ?_, rfl⟩⟩)
              rw [← e]
              simp only [lcM]
              rw [if_pos c4, if_pos c5]
      repeat (first | refine G.sx (fun _ => false) rfl rfl rfl ?_ | refine G.gox (fun _ => false) rfl rfl rfl ?_ | refine G.getx (fun _ => false) rfl rfl rfl rfl ?_)
      refine G.put rfl rfl rfl ?_
      rw [upI_2]
      repeat (first | refine G.sx (fun q => Nat.beq q 26) rfl rfl rfl ?_ | refine G.gox (fun q => Nat.beq q 26) rfl rfl rfl ?_ | refine G.getx (fun q => Nat.beq q 26) rfl rfl rfl rfl ?_)
      exact L n 0 k rfl rfl
    · have F : ∀ lv, lk lv 0 = some (.ref 0) → V 72 lv [] (upI g 0 0 2) := by
        intro lv hl
        refine G.le _ (le1 hl) ?_
        repeat (first | refine G.sx (fun _ => false) rfl rfl rfl ?_ | refine G.gox (fun _ => false) rfl rfl rfl ?_ | refine G.getx (fun _ => false) rfl rfl rfl rfl ?_)
        refine G.br rfl rfl (fun c3 => absurd c3 (by rw [up_eq]; decide)) (fun c3 => ?_)
        repeat (first | refine G.sx (fun _ => false) rfl rfl rfl ?_ | refine G.gox (fun _ => false) rfl rfl rfl ?_ | refine G.getx (fun _ => false) rfl rfl rfl rfl ?_)
        exact E.ri rfl (Or.inl rfl) (Or.inr ⟨r0, Or.inl ⟨c1, rfl, rfl⟩⟩)
      repeat (first | refine G.sx (fun _ => false) rfl rfl rfl ?_ | refine G.gox (fun _ => false) rfl rfl rfl ?_ | refine G.getx (fun _ => false) rfl rfl rfl rfl ?_)
      refine G.put rfl rfl rfl ?_
      rw [upI_2]
      repeat (first | refine G.sx (fun _ => false) rfl rfl rfl ?_ | refine G.gox (fun _ => false) rfl rfl rfl ?_ | refine G.getx (fun _ => false) rfl rfl rfl rfl ?_)
      refine G.br rfl rfl (fun c2 => F _ rfl) (fun c2 => ?_)
      repeat (first | refine G.sx (fun _ => false) rfl rfl rfl ?_ | refine G.gox (fun _ => false) rfl rfl rfl ?_ | refine G.getx (fun _ => false) rfl rfl rfl rfl ?_)
      refine G.br rfl rfl (fun c3 => F _ rfl) (fun c3 => absurd c3 (by rw [up_eq]; decide))
/-- the k-th beginning of a stage, from step i on -/
def sgM (w : Nat → Int32) (M : Nat) : Nat → Nat → Int32 → Int32
  | 0, _, _ => -1
  | m + 1, i, k => if i = 0 ∨ w (M - 1 - i) ≠ w (M - i) then (if k = 0 then nI i else sgM w M m (i + 1) (k - 1)) else sgM w M m (i + 1) k
theorem c_Mo_stage (hSt : StOk St) {g : Hp} {M : Nat} (hm : g.1 0 15 = nI M) (m12 : M ≤ 12) (k : Int32) : Ct l y_Mo_stage prog_11_method_29_code 5 (some .int) (rmD 2) D cls cA slM St ad [.ref 0, .int k] g (fun r g' => ¬ (¬ g.1 0 14 = 0 ∧ g.1 0 18 = 0) ∧ r = some (.int 0) ∧ g' = upI g 0 0 1 ∨ (¬ g.1 0 14 = 0 ∧ g.1 0 18 = 0) ∧ (¬ 0 ≤ k ∧ r = some (.int 0) ∧ g' = upI g 0 0 2 ∨ 0 ≤ k ∧ r = some (.int (sgM (g.1 11) M M 0 k)) ∧ g' = upI g 0 0 0)) := by
  refine Ct.of (tl := T_Mo_stage) (by decide) tk_Mo_stage cls_ok hSt (Nat.le_of_ble_eq_true rfl) (fun V G E C => ?_)
  repeat (first | refine G.sx (fun _ => false) rfl rfl rfl ?_ | refine G.gox (fun _ => false) rfl rfl rfl ?_ | refine G.getx (fun _ => false) rfl rfl rfl rfl ?_)
  refine C.cv [] [] rfl cw_Mo_129 (d1 := 1) (by omega) (by omega) rfl rfl rfl (c_Mo_noSteps hSt g) (by decide) (fun r h1 hq => ?_)
  rcases hq with ⟨r0, rfl, rfl⟩ | ⟨r0, rfl, rfl⟩
  · refine G.br rfl rfl (fun c1 => absurd c1 (by decide)) (fun _ => ?_)
    repeat (first | refine G.sx (fun _ => false) rfl rfl rfl ?_ | refine G.gox (fun _ => false) rfl rfl rfl ?_ | refine G.getx (fun _ => false) rfl rfl rfl rfl ?_)
    exact E.ri rfl (Or.inl rfl) (Or.inl ⟨r0, rfl, rfl⟩)
  · refine G.br rfl rfl (fun _ => ?_) (fun c1 => absurd rfl c1)
    have e15 : (upI g 0 0 0).1 0 15 = nI M := by rw [up_ne _ _ _ _ (by decide)]; exact hm
    have e11 : (upI g 0 0 0).1 11 = g.1 11 := up_off _ _ _ _ (by decide)
    repeat (first | refine G.sx (fun _ => false) rfl rfl rfl ?_ | refine G.gox (fun _ => false) rfl rfl rfl ?_ | refine G.getx (fun _ => false) rfl rfl rfl rfl ?_)
    refine G.br rfl rfl (fun c1 => ?_) (fun c1 => ?_)
    · have L : ∀ m i x, m + i = M → sgM (g.1 11) M m i x = sgM (g.1 11) M M 0 k → V 26 [some (.ref 0), some (.int k), some (.int x), some (.int (nI i)), none] [] (upI g 0 0 0) := by
        intro m
        induction m with
        | zero =>
          intro i x hi e
          repeat (first | refine G.sx (fun _ => false) rfl rfl rfl ?_ | refine G.gox (fun _ => false) rfl rfl rfl ?_ | refine G.getx (fun _ => false) rfl rfl rfl rfl ?_)
          refine G.br rfl rfl (fun c2 => ?_) (fun c2 => absurd (by rw [e15]; exact nI_le (by omega) (by omega)) c2)
          repeat (first | refine G.sx (fun _ => false) rfl rfl rfl ?_ | refine G.gox (fun _ => false) rfl rfl rfl ?_ | refine G.getx (fun _ => false) rfl rfl rfl rfl ?_)
          refine G.br rfl rfl (fun c3 => ?_) (fun c3 => absurd (by rw [up_eq]; decide) c3)
          repeat (first | refine G.sx (fun _ => false) rfl rfl rfl ?_ | refine G.gox (fun _ => false) rfl rfl rfl ?_ | refine G.getx (fun _ => false) rfl rfl rfl rfl ?_)
          exact E.ri rfl (Or.inl rfl) (Or.inr ⟨r0, Or.inr ⟨c1, by rw [← e]; rfl, rfl⟩⟩)
        | succ m ih =>
          intro i x hi e
          have A1 : ∀ o, (i = 0 ∨ g.1 11 (M - 1 - i) ≠ g.1 11 (M - i)) → V 72 [some (.ref 0), some (.int k), some (.int x), some (.int (nI i)), o] [] (upI g 0 0 0) := by
            intro o hb
            repeat (first | refine G.sx (fun _ => false) rfl rfl rfl ?_ | refine G.gox (fun _ => false) rfl rfl rfl ?_ | refine G.getx (fun _ => false) rfl rfl rfl rfl ?_)
            refine G.br rfl rfl (fun c4 => absurd c4 (by decide)) (fun _ => ?_)
            repeat (first | refine G.sx (fun _ => false) rfl rfl rfl ?_ | refine G.gox (fun _ => false) rfl rfl rfl ?_ | refine G.getx (fun _ => false) rfl rfl rfl rfl ?_)
            refine G.br rfl rfl (fun c5 => ?_) (fun c5 => ?_)
            · repeat (first | refine G.sx (fun _ => false) rfl rfl rfl ?_ | refine G.gox (fun _ => false) rfl rfl rfl ?_ | refine G.getx (fun _ => false) rfl rfl rfl rfl ?_)
              refine G.br rfl rfl (fun c4 => absurd c4 (by decide)) (fun _ => ?_)
              have i1 := ih (i + 1) (x - 1) (by omega) (by rw [← e]; simp only [sgM]; rw [if_pos hb, if_neg c5])
              rw [← nI_1] at i1
              repeat (first | refine G.sx (fun _ => false) rfl rfl rfl ?_ | refine G.gox (fun _ => false) rfl rfl rfl ?_ | refine G.getx (fun _ => false) rfl rfl rfl rfl ?_)
              refine G.go rfl ?_
              refine G.le _ ?_ i1
              repeat (first | exact leL_0 | refine leL_c rfl ?_ | refine leL_n ?_)
            · repeat (first | refine G.sx (fun _ => false) rfl rfl rfl ?_ | refine G.gox (fun _ => false) rfl rfl rfl ?_ | refine G.getx (fun _ => false) rfl rfl rfl rfl ?_)
              refine E.ri rfl (Or.inl rfl) (Or.inr ⟨r0, Or.inr ⟨c1, ?_, rfl⟩⟩)
              rw [← e]
              simp only [sgM]
              rw [if_pos hb, if_pos c5]
          repeat (first | refine G.sx (fun _ => false) rfl rfl rfl ?_ | refine G.gox (fun _ => false) rfl rfl rfl ?_ | refine G.getx (fun _ => false) rfl rfl rfl rfl ?_)
          refine G.br rfl rfl (fun c2 => absurd c2 (by rw [e15]; exact nI_ge (by omega) (by omega))) (fun c2 => ?_)
          repeat (first | refine G.sx (fun _ => false) rfl rfl rfl ?_ | refine G.gox (fun _ => false) rfl rfl rfl ?_ | refine G.getx (fun _ => false) rfl rfl rfl rfl ?_)
          refine G.br rfl rfl (fun c3 => absurd (up_eq _ _ _ _) c3) (fun c3 => ?_)
          repeat (first | refine G.sx (fun _ => false) rfl rfl rfl ?_ | refine G.gox (fun _ => false) rfl rfl rfl ?_ | refine G.getx (fun _ => false) rfl rfl rfl rfl ?_)
          refine G.br rfl rfl (fun c4 => A1 _ (Or.inl ((nI_eq (b := 0) (by omega) (by omega)).mp c4))) (fun c4 => ?_)
          have hi0 : i ≠ 0 := fun q => c4 (by rw [q]; rfl)
          repeat (first | refine G.sx (fun q => Nat.beq q 57) rfl rfl rfl ?_ | refine G.gox (fun q => Nat.beq q 57) rfl rfl rfl ?_ | refine G.getx (fun q => Nat.beq q 57) rfl rfl rfl rfl ?_)
          show V 57 _ [.int ((upI g 0 0 0).1 0 15 - nI 1 - nI i), .ref 11] _
          have e2 : nI M - nI 1 - nI i = nI (M - 1 - i) := by
            rw [show M = (M - 1 - i) + i + 1 by omega, show nI ((M - 1 - i) + i + 1) = nI (M - 1 - i) + nI i + nI 1 by rw [nI_add, nI_add], Int32.add_sub_cancel, Int32.add_sub_cancel]
            congr 1
            omega
          have e3 : nI M - nI i = nI (M - i) := by
            rw [show M = (M - i) + i by omega, show nI ((M - i) + i) = nI (M - i) + nI i by rw [nI_add], Int32.add_sub_cancel]
            congr 1
            omega
          rw [e15, e2]
          refine G.ialn rfl rfl (by omega) (by decide) ?_
          repeat (first | refine G.sx (fun q => Nat.beq q 68) rfl rfl rfl ?_ | refine G.gox (fun q => Nat.beq q 68) rfl rfl rfl ?_ | refine G.getx (fun q => Nat.beq q 68) rfl rfl rfl rfl ?_)
          show V 68 _ [.int ((upI g 0 0 0).1 0 15 - nI i), .ref 11, .int ((upI g 0 0 0).1 11 (M - 1 - i))] _
          rw [e15, e3, e11]
          refine G.ialn rfl rfl (by omega) (by decide) ?_
          rw [e11]
          refine G.br rfl rfl (fun c5 => ?_) (fun c5 => A1 _ (Or.inr c5))
          have hb : ¬ (i = 0 ∨ g.1 11 (M - 1 - i) ≠ g.1 11 (M - i)) := fun q => by
            rcases q with q | q
            · exact hi0 q
            · exact q c5
          repeat (first | refine G.sx (fun _ => false) rfl rfl rfl ?_ | refine G.gox (fun _ => false) rfl rfl rfl ?_ | refine G.getx (fun _ => false) rfl rfl rfl rfl ?_)
          refine G.br rfl rfl (fun _ => ?_) (fun c6 => absurd rfl c6)
          repeat (first | refine G.sx (fun _ => false) rfl rfl rfl ?_ | refine G.gox (fun _ => false) rfl rfl rfl ?_ | refine G.getx (fun _ => false) rfl rfl rfl rfl ?_)
          refine G.br rfl rfl (fun _ => ?_) (fun c6 => absurd rfl c6)
          have i1 := ih (i + 1) x (by omega) (by rw [← e]; simp only [sgM]; rw [if_neg hb])
          rw [← nI_1] at i1
          repeat (first | refine G.sx (fun _ => false) rfl rfl rfl ?_ | refine G.gox (fun _ => false) rfl rfl rfl ?_ | refine G.getx (fun _ => false) rfl rfl rfl rfl ?_)
          refine G.go rfl ?_
          refine G.le _ ?_ i1
          repeat (first | exact leL_0 | refine leL_c rfl ?_ | refine leL_n ?_)
      repeat (first | refine G.sx (fun _ => false) rfl rfl rfl ?_ | refine G.gox (fun _ => false) rfl rfl rfl ?_ | refine G.getx (fun _ => false) rfl rfl rfl rfl ?_)
      refine G.put rfl rfl rfl ?_
      rw [upI_2]
      repeat (first | refine G.sx (fun q => Nat.beq q 26) rfl rfl rfl ?_ | refine G.gox (fun q => Nat.beq q 26) rfl rfl rfl ?_ | refine G.getx (fun q => Nat.beq q 26) rfl rfl rfl rfl ?_)
      exact L M 0 k rfl rfl
    · have F : ∀ lv, lk lv 0 = some (.ref 0) → V 109 lv [] (upI g 0 0 2) := by
        intro lv hl
        refine G.le _ (le1 hl) ?_
        repeat (first | refine G.sx (fun _ => false) rfl rfl rfl ?_ | refine G.gox (fun _ => false) rfl rfl rfl ?_ | refine G.getx (fun _ => false) rfl rfl rfl rfl ?_)
        refine G.br rfl rfl (fun c3 => absurd c3 (by rw [up_eq]; decide)) (fun c3 => ?_)
        repeat (first | refine G.sx (fun _ => false) rfl rfl rfl ?_ | refine G.gox (fun _ => false) rfl rfl rfl ?_ | refine G.getx (fun _ => false) rfl rfl rfl rfl ?_)
        exact E.ri rfl (Or.inl rfl) (Or.inr ⟨r0, Or.inl ⟨c1, rfl, rfl⟩⟩)
      repeat (first | refine G.sx (fun _ => false) rfl rfl rfl ?_ | refine G.gox (fun _ => false) rfl rfl rfl ?_ | refine G.getx (fun _ => false) rfl rfl rfl rfl ?_)
      refine G.put rfl rfl rfl ?_
      rw [upI_2]
      repeat (first | refine G.sx (fun _ => false) rfl rfl rfl ?_ | refine G.gox (fun _ => false) rfl rfl rfl ?_ | refine G.getx (fun _ => false) rfl rfl rfl rfl ?_)
      refine G.br rfl rfl (fun c2 => F _ rfl) (fun c2 => ?_)
      repeat (first | refine G.sx (fun _ => false) rfl rfl rfl ?_ | refine G.gox (fun _ => false) rfl rfl rfl ?_ | refine G.getx (fun _ => false) rfl rfl rfl rfl ?_)
      refine G.br rfl rfl (fun c3 => F _ rfl) (fun c3 => absurd c3 (by rw [up_eq]; decide))
/-- the step at which an item went -/
def soM (tk : Nat → Nat) (i : Nat) : Nat → Nat
  | 0 => 0
  | k + 1 => if tk k = i then k else soM tk i k
theorem c_Mo_stepOf (hSt : StOk St) {g : Hp} {n : Nat} {it : Nat → Nat} (hI : GrI g n it) {m : Nat} (hm : g.1 0 15 = nI m) (m12 : m ≤ 12) {tk : Nat → Nat} (htk : ∀ j, j < m → g.1 10 j = nI (tk j) ∧ tk j < 12) (p : Nat) (hp : p < n) : Ct l y_Mo_stepOf prog_11_method_41_code 4 (some .int) (rmD 1) D cls cA slM St ad [.ref 0, .int (nI p)] g (fun r g' => r = some (.int (nI (soM tk (it p) m))) ∧ g' = g) := by
  obtain ⟨hn, n12, hit⟩ := hI
  obtain ⟨q1, q2⟩ := hit p hp
  refine Ct.of (tl := T_Mo_stepOf) (by decide) tk_Mo_stepOf cls_ok hSt (Nat.le_of_ble_eq_true rfl) (fun V G E C => ?_)
  have L : ∀ k, k ≤ m → V 4 [some (.ref 0), some (.int (nI p)), some (.int (nI (soM tk (it p) k))), some (.int (nI k))] [] g := by
    refine loopUp m (fun k hk ih => ?_) ?_
    · rw [← nI_1] at ih
      obtain ⟨t1, t2⟩ := htk k hk
      repeat (first | refine G.sx (fun _ => false) rfl rfl rfl ?_ | refine G.gox (fun _ => false) rfl rfl rfl ?_ | refine G.getx (fun _ => false) rfl rfl rfl rfl ?_)
      refine G.br rfl rfl (fun c1 => absurd c1 (by rw [hm]; exact nI_ge hk (by omega))) (fun c1 => ?_)
      repeat (first | refine G.sx (fun _ => false) rfl rfl rfl ?_ | refine G.gox (fun _ => false) rfl rfl rfl ?_ | refine G.getx (fun _ => false) rfl rfl rfl rfl ?_)
      refine G.ialn rfl rfl (by omega) (by decide) ?_
      rw [t1]
      repeat (first | refine G.sx (fun _ => false) rfl rfl rfl ?_ | refine G.gox (fun _ => false) rfl rfl rfl ?_ | refine G.getx (fun _ => false) rfl rfl rfl rfl ?_)
      refine G.ialn rfl rfl (by omega) (by decide) ?_
      rw [q1]
      refine G.br rfl rfl (fun c2 => ?_) (fun c2 => ?_)
      · have c2 : tk k ≠ it p := fun q => c2 (by rw [q])
        rw [show soM tk (it p) (k + 1) = soM tk (it p) k by simp [soM, c2]] at ih
        repeat (first | refine G.sx (fun _ => false) rfl rfl rfl ?_ | refine G.gox (fun _ => false) rfl rfl rfl ?_ | refine G.getx (fun _ => false) rfl rfl rfl rfl ?_)
        refine G.go rfl ?_
        exact ih
      · have c2 : tk k = it p := (nI_eq (by omega) (by omega)).mp c2
        rw [show soM tk (it p) (k + 1) = k by simp [soM, c2]] at ih
        repeat (first | refine G.sx (fun _ => false) rfl rfl rfl ?_ | refine G.gox (fun _ => false) rfl rfl rfl ?_ | refine G.getx (fun _ => false) rfl rfl rfl rfl ?_)
        refine G.go rfl ?_
        exact ih
    · repeat (first | refine G.sx (fun _ => false) rfl rfl rfl ?_ | refine G.gox (fun _ => false) rfl rfl rfl ?_ | refine G.getx (fun _ => false) rfl rfl rfl rfl ?_)
      refine G.br rfl rfl (fun c1 => ?_) (fun c1 => absurd (by rw [hm]; exact nI_le (Nat.le_refl m) (by omega)) c1)
      repeat (first | refine G.sx (fun _ => false) rfl rfl rfl ?_ | refine G.gox (fun _ => false) rfl rfl rfl ?_ | refine G.getx (fun _ => false) rfl rfl rfl rfl ?_)
      exact E.ri rfl (Or.inl rfl) ⟨rfl, rfl⟩
  repeat (first | refine G.sx (fun q => Nat.beq q 4) rfl rfl rfl ?_ | refine G.gox (fun q => Nat.beq q 4) rfl rfl rfl ?_ | refine G.getx (fun q => Nat.beq q 4) rfl rfl rfl rfl ?_)
  exact L 0 (Nat.zero_le _)
def GmI (g : Hp) (n ng : Nat) (ga gb : Nat → Nat) : Prop := g.1 0 8 = nI ng ∧ ng ≤ 16 ∧ ∀ i, i < ng → g.1 5 i = nI (ga i) ∧ ga i < n ∧ g.1 6 i = nI (gb i) ∧ gb i < n
/-- glue k fails -/
def kfM (g : Hp) (it ga gb : Nat → Nat) (tk : Nat → Nat) (m k : Nat) : Bool := !decide (nI (soM tk (it (ga k)) m) - nI (soM tk (it (gb k)) m) ≤ g.1 7 k ∧ -(nI (soM tk (it (ga k)) m) - nI (soM tk (it (gb k)) m)) ≤ g.1 7 k)
theorem c_Mo_keeps (hSt : StOk St) {g : Hp} {n : Nat} {it : Nat → Nat} (hI : GrI g n it) {m : Nat} (hm : g.1 0 15 = nI m) (m12 : m ≤ 12) {tk : Nat → Nat} (htk : ∀ j, j < m → g.1 10 j = nI (tk j) ∧ tk j < 12) {ng : Nat} {ga gb : Nat → Nat} (hG : GmI g n ng ga gb) : Ct l y_Mo_keeps prog_11_method_42_code 4 (some .boolean) (rmD 2) D cls cA slM St ad [.ref 0] g (fun r g' => ¬ (¬ g.1 0 14 = 0 ∧ g.1 0 18 = 0) ∧ r = some (.int 0) ∧ g' = upI g 0 0 1 ∨ (¬ g.1 0 14 = 0 ∧ g.1 0 18 = 0) ∧ r = some (.int (if anyB (kfM g it ga gb tk m) ng then 0 else 1)) ∧ g' = upI g 0 0 0) := by
  obtain ⟨hg, g16, hgl⟩ := hG
  have n12 := hI.2.1
  refine Ct.of (tl := T_Mo_keeps) (by decide) tk_Mo_keeps cls_ok hSt (Nat.le_of_ble_eq_true rfl) (fun V G E C => ?_)
  repeat (first | refine G.sx (fun _ => false) rfl rfl rfl ?_ | refine G.gox (fun _ => false) rfl rfl rfl ?_ | refine G.getx (fun _ => false) rfl rfl rfl rfl ?_)
  refine C.cv [] [] rfl cw_Mo_129 (d1 := 1) (by omega) (by omega) rfl rfl rfl (c_Mo_noSteps hSt g) (by decide) (fun r h1 hq => ?_)
  rcases hq with ⟨r0, rfl, rfl⟩ | ⟨r0, rfl, rfl⟩
  · refine G.br rfl rfl (fun c1 => absurd c1 (by decide)) (fun _ => ?_)
    repeat (first | refine G.sx (fun _ => false) rfl rfl rfl ?_ | refine G.gox (fun _ => false) rfl rfl rfl ?_ | refine G.getx (fun _ => false) rfl rfl rfl rfl ?_)
    exact E.ri rfl (Or.inr ⟨rfl, Or.inl rfl⟩) (Or.inl ⟨r0, rfl, rfl⟩)
  · refine G.br rfl rfl (fun _ => ?_) (fun c1 => absurd rfl c1)
    have e8 : (upI g 0 0 0).1 0 8 = nI ng := by rw [up_ne _ _ _ _ (by decide)]; exact hg
    have e15 : (upI g 0 0 0).1 0 15 = nI m := by rw [up_ne _ _ _ _ (by decide)]; exact hm
    have e7 : (upI g 0 0 0).1 7 = g.1 7 := up_off _ _ _ _ (by decide)
    have htk' : ∀ j, j < m → (upI g 0 0 0).1 10 j = nI (tk j) ∧ tk j < 12 := fun j hj => by rw [up_off _ _ _ _ (by decide)]; exact htk j hj
    have L : ∀ k, k ≤ ng → V 13 [some (.ref 0), some (.int (if anyB (kfM g it ga gb tk m) k then 0 else 1)), some (.int (nI k)), none] [] (upI g 0 0 0) := by
      refine loopUp ng (fun k hk ih => ?_) ?_
      · rw [← nI_1] at ih
        obtain ⟨g1, g2, g3, g4⟩ := hgl k hk
        have Z0 : ∀ o o2, anyB (kfM g it ga gb tk m) (k + 1) = true → V 72 [some (.ref 0), o, some (.int (nI k)), o2] [] (upI g 0 0 0) := by
          intro o o2 e
          rw [e, if_pos rfl] at ih
          repeat (first | refine G.sx (fun _ => false) rfl rfl rfl ?_ | refine G.gox (fun _ => false) rfl rfl rfl ?_ | refine G.getx (fun _ => false) rfl rfl rfl rfl ?_)
          refine G.go rfl ?_
          refine G.le _ ?_ ih
          repeat (first | exact leL_0 | refine leL_c rfl ?_ | refine leL_n ?_)
        repeat (first | refine G.sx (fun _ => false) rfl rfl rfl ?_ | refine G.gox (fun _ => false) rfl rfl rfl ?_ | refine G.getx (fun _ => false) rfl rfl rfl rfl ?_)
        refine G.br rfl rfl (fun c1 => absurd c1 (by rw [e8]; exact nI_ge hk (by omega))) (fun c1 => ?_)
        repeat (first | refine G.sx (fun _ => false) rfl rfl rfl ?_ | refine G.gox (fun _ => false) rfl rfl rfl ?_ | refine G.getx (fun _ => false) rfl rfl rfl rfl ?_)
        refine G.ialn rfl rfl (by omega) (by decide) ?_
        rw [up_off _ _ _ _ (by decide), g1]
        refine C.cv [.int (nI (ga k))] [] rfl cw_Mo_161 (d1 := 1) (by omega) (by omega) rfl rfl rfl (c_Mo_stepOf hSt (hI.up0 (by decide)) e15 m12 htk' (ga k) g2) (by decide) (fun r h1 hq => ?_)
        obtain ⟨rfl, rfl⟩ := hq
        repeat (first | refine G.sx (fun _ => false) rfl rfl rfl ?_ | refine G.gox (fun _ => false) rfl rfl rfl ?_ | refine G.getx (fun _ => false) rfl rfl rfl rfl ?_)
        refine G.ialn rfl rfl (by omega) (by decide) ?_
        rw [up_off _ _ _ _ (by decide), g3]
        refine C.cv [.int (nI (gb k))] [.int (nI (soM tk (it (ga k)) m))] rfl cw_Mo_161 (d1 := 1) (by omega) (by omega) rfl rfl rfl (c_Mo_stepOf hSt (hI.up0 (by decide)) e15 m12 htk' (gb k) g4) (Nat.le_of_ble_eq_true rfl) (fun r h1 hq => ?_)
        obtain ⟨rfl, rfl⟩ := hq
        repeat (first | refine G.sx (fun _ => false) rfl rfl rfl ?_ | refine G.gox (fun _ => false) rfl rfl rfl ?_ | refine G.getx (fun _ => false) rfl rfl rfl rfl ?_)
        refine G.br rfl rfl (fun c2 => ?_) (fun c2 => ?_)
        · have c2 : anyB (kfM g it ga gb tk m) k = true := by
            cases e : anyB (kfM g it ga gb tk m) k with
            | true => rfl
            | false => rw [e] at c2; exact absurd c2 (by decide)
          exact Z0 _ _ (by simp [anyB, c2])
        · have c2 : anyB (kfM g it ga gb tk m) k = false := by
            cases e : anyB (kfM g it ga gb tk m) k with
            | false => rfl
            | true => rw [e] at c2; exact absurd rfl c2
          repeat (first | refine G.sx (fun _ => false) rfl rfl rfl ?_ | refine G.gox (fun _ => false) rfl rfl rfl ?_ | refine G.getx (fun _ => false) rfl rfl rfl rfl ?_)
          refine G.ialn rfl rfl (by omega) (by decide) ?_
          rw [e7]
          refine G.br rfl rfl (fun c3 => ?_) (fun c3 => ?_)
          · have c4 : kfM g it ga gb tk m k = true := by
              unfold kfM
              rw [decide_eq_false (fun q => absurd c3 (Int32.not_lt.mpr q.1))]
              rfl
            exact Z0 _ _ (by simp [anyB, c4])
          · repeat (first | refine G.sx (fun _ => false) rfl rfl rfl ?_ | refine G.gox (fun _ => false) rfl rfl rfl ?_ | refine G.getx (fun _ => false) rfl rfl rfl rfl ?_)
            refine G.ialn rfl rfl (by omega) (by decide) ?_
            rw [e7]
            refine G.br rfl rfl (fun c5 => ?_) (fun c5 => ?_)
            · have c4 : kfM g it ga gb tk m k = true := by
                unfold kfM
                rw [decide_eq_false (fun q => absurd c5 (Int32.not_lt.mpr q.2))]
                rfl
              exact Z0 _ _ (by simp [anyB, c4])
            · have c4 : kfM g it ga gb tk m k = false := by
                unfold kfM
                rw [decide_eq_true ⟨Int32.not_lt.mp c3, Int32.not_lt.mp c5⟩]
                rfl
              rw [show anyB (kfM g it ga gb tk m) (k + 1) = false by simp [anyB, c2, c4], if_neg (by decide)] at ih
              repeat (first | refine G.sx (fun _ => false) rfl rfl rfl ?_ | refine G.gox (fun _ => false) rfl rfl rfl ?_ | refine G.getx (fun _ => false) rfl rfl rfl rfl ?_)
              refine G.go rfl ?_
              refine G.le _ ?_ ih
              repeat (first | exact leL_0 | refine leL_c rfl ?_ | refine leL_n ?_)
      · repeat (first | refine G.sx (fun _ => false) rfl rfl rfl ?_ | refine G.gox (fun _ => false) rfl rfl rfl ?_ | refine G.getx (fun _ => false) rfl rfl rfl rfl ?_)
        refine G.br rfl rfl (fun c1 => ?_) (fun c1 => absurd (by rw [e8]; exact nI_le (Nat.le_refl ng) (by omega)) c1)
        repeat (first | refine G.sx (fun _ => false) rfl rfl rfl ?_ | refine G.gox (fun _ => false) rfl rfl rfl ?_ | refine G.getx (fun _ => false) rfl rfl rfl rfl ?_)
        cases e : anyB (kfM g it ga gb tk m) ng with
        | true => exact E.ri rfl (Or.inr ⟨rfl, Or.inl rfl⟩) (Or.inr ⟨r0, by rw [e], rfl⟩)
        | false => exact E.ri rfl (Or.inr ⟨rfl, Or.inr rfl⟩) (Or.inr ⟨r0, by rw [e], rfl⟩)
    repeat (first | refine G.sx (fun q => Nat.beq q 13) rfl rfl rfl ?_ | refine G.gox (fun q => Nat.beq q 13) rfl rfl rfl ?_ | refine G.getx (fun q => Nat.beq q 13) rfl rfl rfl rfl ?_)
    exact L 0 (Nat.zero_le _)
end MoG
