/-! The reference: group, clamp, run -/
section MoH
variable {l : Launch} {D : va_G} {cA : Nat → ClassId} {ad : Nat → Nat} {St : (Nat → Prop) → State → Heap → Prop}
theorem c_Mo_group (hSt : StOk St) {g : Hp} {n : Nat} {it : Nat → Nat} (hI : GrI g n it) (a b : Int32) : Ct l y_Mo_group prog_11_method_9_code 6 (some .boolean) (rmD 1) D cls cA slM St ad [.ref 0, .int a, .int b] g (fun r g' => ((pOM g a ∧ pOM g b) ∧ a ≠ b) ∧ (∃ i j, a = nI i ∧ b = nI j ∧ i < n ∧ j < n ∧ (it i = it j ∧ r = some (.int 0) ∧ g' = upI g 0 0 0 ∨ it i ≠ it j ∧ r = some (.int 1) ∧ g' = upI (setI (upI g 0 0 0) 4 (fun q => if q < n then nI (jnF it i j q) else g.1 4 q)) 0 14 0)) ∨ r = some (.int 0) ∧ (¬ (pOM g a ∧ pOM g b) ∧ g' = upI g 0 0 1 ∨ (pOM g a ∧ pOM g b) ∧ a = b ∧ g' = upI g 0 0 2)) := by
  obtain ⟨hn, n12, hit⟩ := hI
  refine Ct.of (tl := T_Mo_group) (by decide) tk_Mo_group cls_ok hSt (Nat.le_of_ble_eq_true rfl) (fun V G E C => ?_)
  have K1 : ∀ (c : Int32) lv, lk lv 0 = some (.ref 0) → 0 < c → (¬ (pOM g a ∧ pOM g b) ∧ c = 1 ∨ (pOM g a ∧ pOM g b) ∧ a = b ∧ c = 2) → V 39 lv [.int c, .ref 0] g := by
    intro c lv hl hc hx
    refine G.le _ (le1 hl) ?_
    refine G.put rfl rfl rfl ?_
    repeat (first | refine G.sx (fun _ => false) rfl rfl rfl ?_ | refine G.gox (fun _ => false) rfl rfl rfl ?_ | refine G.getx (fun _ => false) rfl rfl rfl rfl ?_)
    refine G.br rfl rfl (fun c2 => ?_) (fun c2 => absurd (by rw [up_eq]; exact hc) c2)
    repeat (first | refine G.sx (fun _ => false) rfl rfl rfl ?_ | refine G.gox (fun _ => false) rfl rfl rfl ?_ | refine G.getx (fun _ => false) rfl rfl rfl rfl ?_)
    refine E.ri rfl (Or.inr ⟨rfl, Or.inl rfl⟩) (Or.inr ⟨rfl, ?_⟩)
    rcases hx with ⟨a1, rfl⟩ | ⟨a1, a2, rfl⟩
    · exact Or.inl ⟨a1, rfl⟩
    · exact Or.inr ⟨a1, a2, rfl⟩
  have K2 : ∀ lv, lk lv 0 = some (.ref 0) → ¬ (pOM g a ∧ pOM g b) → V 25 lv [.ref 0] g := by
    intro lv hl hx
    refine G.le _ (le1 hl) ?_
    repeat (first | refine G.sx (fun _ => false) rfl rfl rfl ?_ | refine G.gox (fun _ => false) rfl rfl rfl ?_ | refine G.getx (fun _ => false) rfl rfl rfl rfl ?_)
    exact K1 1 _ rfl (by decide) (Or.inl ⟨hx, rfl⟩)
  repeat (first | refine G.sx (fun _ => false) rfl rfl rfl ?_ | refine G.gox (fun _ => false) rfl rfl rfl ?_ | refine G.getx (fun _ => false) rfl rfl rfl rfl ?_)
  refine G.br rfl rfl (fun c1 => K2 _ rfl (fun q => absurd q.1.1 (Int32.not_le.mpr c1))) (fun c1 => ?_)
  repeat (first | refine G.sx (fun _ => false) rfl rfl rfl ?_ | refine G.gox (fun _ => false) rfl rfl rfl ?_ | refine G.getx (fun _ => false) rfl rfl rfl rfl ?_)
  refine G.br rfl rfl (fun c2 => K2 _ rfl (fun q => absurd q.1.2 (Int32.not_lt.mpr c2))) (fun c2 => ?_)
  repeat (first | refine G.sx (fun _ => false) rfl rfl rfl ?_ | refine G.gox (fun _ => false) rfl rfl rfl ?_ | refine G.getx (fun _ => false) rfl rfl rfl rfl ?_)
  refine G.br rfl rfl (fun c3 => K2 _ rfl (fun q => absurd q.2.1 (Int32.not_le.mpr c3))) (fun c3 => ?_)
  repeat (first | refine G.sx (fun _ => false) rfl rfl rfl ?_ | refine G.gox (fun _ => false) rfl rfl rfl ?_ | refine G.getx (fun _ => false) rfl rfl rfl rfl ?_)
  refine G.br rfl rfl (fun c4 => ?_) (fun c4 => K2 _ rfl (fun q => c4 q.2.2))
  have pk : pOM g a ∧ pOM g b := ⟨⟨Int32.not_lt.mp c1, Int32.not_le.mp c2⟩, Int32.not_lt.mp c3, c4⟩
  repeat (first | refine G.sx (fun _ => false) rfl rfl rfl ?_ | refine G.gox (fun _ => false) rfl rfl rfl ?_ | refine G.getx (fun _ => false) rfl rfl rfl rfl ?_)
  refine G.br rfl rfl (fun c5 => ?_) (fun c5 => ?_)
  · obtain ⟨i, rfl, hi⟩ := Ok_ex hn (by omega) pk.1
    obtain ⟨j, rfl, hj⟩ := Ok_ex hn (by omega) pk.2
    obtain ⟨qi1, qi2⟩ := hit i hi
    obtain ⟨qj1, qj2⟩ := hit j hj
    have e4 : (upI g 0 0 0).1 4 = g.1 4 := up_off _ _ _ _ (by decide)
    have e1 : (upI g 0 0 0).1 0 1 = nI n := by rw [up_ne _ _ _ _ (by decide)]; exact hn
    repeat (first | refine G.sx (fun _ => false) rfl rfl rfl ?_ | refine G.gox (fun _ => false) rfl rfl rfl ?_ | refine G.getx (fun _ => false) rfl rfl rfl rfl ?_)
    refine G.put rfl rfl rfl ?_
    repeat (first | refine G.sx (fun _ => false) rfl rfl rfl ?_ | refine G.gox (fun _ => false) rfl rfl rfl ?_ | refine G.getx (fun _ => false) rfl rfl rfl rfl ?_)
    refine G.br rfl rfl (fun c2 => absurd c2 (by rw [up_eq]; decide)) (fun c2 => ?_)
    repeat (first | refine G.sx (fun _ => false) rfl rfl rfl ?_ | refine G.gox (fun _ => false) rfl rfl rfl ?_ | refine G.getx (fun _ => false) rfl rfl rfl rfl ?_)
    refine G.ialn rfl rfl (by omega) (by decide) ?_
    rw [e4, qi1]
    repeat (first | refine G.sx (fun _ => false) rfl rfl rfl ?_ | refine G.gox (fun _ => false) rfl rfl rfl ?_ | refine G.getx (fun _ => false) rfl rfl rfl rfl ?_)
    refine G.ialn rfl rfl (by omega) (by decide) ?_
    rw [e4, qj1]
    refine G.br rfl rfl (fun c6 => ?_) (fun c6 => ?_)
    · have c6 : it i ≠ it j := fun q => c6 (by rw [q])
      have L : ∀ p, p ≤ n → V 132 [some (.ref 0), some (.int (nI i)), some (.int (nI j)), some (.int (nI (max (it i) (it j)))), some (.int (nI (min (it i) (it j)))), some (.int (nI p))] [] (setI (upI g 0 0 0) 4 (fun q => if q < p then nI (jnF it i j q) else g.1 4 q)) := by
        refine loopUp n (fun p hp ih => ?_) ?_
        · rw [← nI_1] at ih
          obtain ⟨qp1, qp2⟩ := hit p hp
          have e3 : (setI (upI g 0 0 0) 4 (fun q => if q < p then nI (jnF it i j q) else g.1 4 q)).1 4 p = nI (it p) := by
            rw [setI_at, if_neg (by omega)]
            exact qp1
          have U : ∀ v : Nat, v = jnF it i j p → upI (setI (upI g 0 0 0) 4 (fun q => if q < p then nI (jnF it i j q) else g.1 4 q)) 4 p (nI v) = setI (upI g 0 0 0) 4 (fun q => if q < p + 1 then nI (jnF it i j q) else g.1 4 q) := by
            intro v hv
            rw [upI_setI]
            congr 1
            funext q
            unfold upd
            by_cases e : q = p
            · subst e; simp [hv]
            · by_cases e2 : q < p
              · simp [e, e2, show q < p + 1 by omega]
              · simp [e, e2, show ¬ q < p + 1 by omega]
          repeat (first | refine G.sx (fun _ => false) rfl rfl rfl ?_ | refine G.gox (fun _ => false) rfl rfl rfl ?_ | refine G.getx (fun _ => false) rfl rfl rfl rfl ?_)
          refine G.br rfl rfl (fun c7 => absurd c7 (by rw [setI_ne _ _ (by decide), e1]; exact nI_ge hp (by omega))) (fun c7 => ?_)
          repeat (first | refine G.sx (fun _ => false) rfl rfl rfl ?_ | refine G.gox (fun _ => false) rfl rfl rfl ?_ | refine G.getx (fun _ => false) rfl rfl rfl rfl ?_)
          refine G.ialn rfl rfl (by omega) (by decide) ?_
          rw [e3]
          repeat (first | refine G.sx (fun _ => false) rfl rfl rfl ?_ | refine G.gox (fun _ => false) rfl rfl rfl ?_ | refine G.getx (fun _ => false) rfl rfl rfl rfl ?_)
          refine G.br rfl rfl (fun c8 => ?_) (fun c8 => ?_)
          · have c8 : it p ≠ max (it i) (it j) := fun q => c8 (by rw [q])
            repeat (first | refine G.sx (fun _ => false) rfl rfl rfl ?_ | refine G.gox (fun _ => false) rfl rfl rfl ?_ | refine G.getx (fun _ => false) rfl rfl rfl rfl ?_)
            refine G.ialn rfl rfl (by omega) (by decide) ?_
            rw [e3]
            refine G.iasn rfl rfl (by omega) (by decide) ?_
            rw [U (it p) (by simp [jnF, c8])]
            repeat (first | refine G.sx (fun _ => false) rfl rfl rfl ?_ | refine G.gox (fun _ => false) rfl rfl rfl ?_ | refine G.getx (fun _ => false) rfl rfl rfl rfl ?_)
            refine G.go rfl ?_
            exact ih
          · have c8 : it p = max (it i) (it j) := (nI_eq (by omega) (by omega)).mp c8
            repeat (first | refine G.sx (fun _ => false) rfl rfl rfl ?_ | refine G.gox (fun _ => false) rfl rfl rfl ?_ | refine G.getx (fun _ => false) rfl rfl rfl rfl ?_)
            refine G.iasn rfl rfl (by omega) (by decide) ?_
            rw [U (min (it i) (it j)) (by simp [jnF, c8])]
            repeat (first | refine G.sx (fun _ => false) rfl rfl rfl ?_ | refine G.gox (fun _ => false) rfl rfl rfl ?_ | refine G.getx (fun _ => false) rfl rfl rfl rfl ?_)
            refine G.go rfl ?_
            exact ih
        · repeat (first | refine G.sx (fun _ => false) rfl rfl rfl ?_ | refine G.gox (fun _ => false) rfl rfl rfl ?_ | refine G.getx (fun _ => false) rfl rfl rfl rfl ?_)
          refine G.br rfl rfl (fun c7 => ?_) (fun c7 => absurd (by rw [setI_ne _ _ (by decide), e1]; exact nI_le (Nat.le_refl n) (by omega)) c7)
          repeat (first | refine G.sx (fun _ => false) rfl rfl rfl ?_ | refine G.gox (fun _ => false) rfl rfl rfl ?_ | refine G.getx (fun _ => false) rfl rfl rfl rfl ?_)
          refine G.putz rfl rfl rfl (Or.inl rfl) ?_
          repeat (first | refine G.sx (fun _ => false) rfl rfl rfl ?_ | refine G.gox (fun _ => false) rfl rfl rfl ?_ | refine G.getx (fun _ => false) rfl rfl rfl rfl ?_)
          exact E.ri rfl (Or.inr ⟨rfl, Or.inr rfl⟩) (Or.inl ⟨⟨pk, c5⟩, i, j, rfl, rfl, hi, hj, Or.inr ⟨c6, rfl, rfl⟩⟩)
      have L0 := L 0 (Nat.zero_le _)
      have e0 : setI (upI g 0 0 0) 4 (fun q => if q < 0 then nI (jnF it i j q) else g.1 4 q) = upI g 0 0 0 := by
        have e9 : (fun q => if q < 0 then nI (jnF it i j q) else g.1 4 q) = (upI g 0 0 0).1 4 := by
          rw [e4]
          funext q
          rw [if_neg (by omega)]
        rw [e9]
        exact setI_id _ _
      rw [e0] at L0
      repeat (first | refine G.sx (fun _ => false) rfl rfl rfl ?_ | refine G.gox (fun _ => false) rfl rfl rfl ?_ | refine G.getx (fun _ => false) rfl rfl rfl rfl ?_)
      refine G.ialn rfl rfl (by omega) (by decide) ?_
      rw [e4, qi1]
      repeat (first | refine G.sx (fun _ => false) rfl rfl rfl ?_ | refine G.gox (fun _ => false) rfl rfl rfl ?_ | refine G.getx (fun _ => false) rfl rfl rfl rfl ?_)
      refine G.ialn rfl rfl (by omega) (by decide) ?_
      rw [e4, qj1]
      by_cases hij : it i ≤ it j
      · rw [Nat.max_eq_right hij, Nat.min_eq_left hij] at L0
        refine G.br rfl rfl (fun _ => ?_) (fun c7 => absurd (nI_le hij (by omega)) c7)
        repeat (first | refine G.sx (fun _ => false) rfl rfl rfl ?_ | refine G.gox (fun _ => false) rfl rfl rfl ?_ | refine G.getx (fun _ => false) rfl rfl rfl rfl ?_)
        refine G.ialn rfl rfl (by omega) (by decide) ?_
        rw [e4, qj1]
        repeat (first | refine G.sx (fun _ => false) rfl rfl rfl ?_ | refine G.gox (fun _ => false) rfl rfl rfl ?_ | refine G.getx (fun _ => false) rfl rfl rfl rfl ?_)
        refine G.ialn rfl rfl (by omega) (by decide) ?_
        rw [e4, qi1]
        repeat (first | refine G.sx (fun _ => false) rfl rfl rfl ?_ | refine G.gox (fun _ => false) rfl rfl rfl ?_ | refine G.getx (fun _ => false) rfl rfl rfl rfl ?_)
        refine G.ialn rfl rfl (by omega) (by decide) ?_
        rw [e4, qj1]
        refine G.br rfl rfl (fun _ => ?_) (fun c7 => absurd (nI_le hij (by omega)) c7)
        repeat (first | refine G.sx (fun _ => false) rfl rfl rfl ?_ | refine G.gox (fun _ => false) rfl rfl rfl ?_ | refine G.getx (fun _ => false) rfl rfl rfl rfl ?_)
        refine G.ialn rfl rfl (by omega) (by decide) ?_
        rw [e4, qi1]
        repeat (first | refine G.sx (fun q => Nat.beq q 132) rfl rfl rfl ?_ | refine G.gox (fun q => Nat.beq q 132) rfl rfl rfl ?_ | refine G.getx (fun q => Nat.beq q 132) rfl rfl rfl rfl ?_)
        exact L0
      · rw [Nat.max_eq_left (by omega), Nat.min_eq_right (by omega)] at L0
        refine G.br rfl rfl (fun c7 => absurd c7 (nI_ge (by omega) (by omega))) (fun _ => ?_)
        repeat (first | refine G.sx (fun _ => false) rfl rfl rfl ?_ | refine G.gox (fun _ => false) rfl rfl rfl ?_ | refine G.getx (fun _ => false) rfl rfl rfl rfl ?_)
        refine G.ialn rfl rfl (by omega) (by decide) ?_
        rw [e4, qi1]
        repeat (first | refine G.sx (fun _ => false) rfl rfl rfl ?_ | refine G.gox (fun _ => false) rfl rfl rfl ?_ | refine G.getx (fun _ => false) rfl rfl rfl rfl ?_)
        refine G.ialn rfl rfl (by omega) (by decide) ?_
        rw [e4, qi1]
        repeat (first | refine G.sx (fun _ => false) rfl rfl rfl ?_ | refine G.gox (fun _ => false) rfl rfl rfl ?_ | refine G.getx (fun _ => false) rfl rfl rfl rfl ?_)
        refine G.ialn rfl rfl (by omega) (by decide) ?_
        rw [e4, qj1]
        refine G.br rfl rfl (fun c7 => absurd c7 (nI_ge (by omega) (by omega))) (fun _ => ?_)
        repeat (first | refine G.sx (fun _ => false) rfl rfl rfl ?_ | refine G.gox (fun _ => false) rfl rfl rfl ?_ | refine G.getx (fun _ => false) rfl rfl rfl rfl ?_)
        refine G.ialn rfl rfl (by omega) (by decide) ?_
        rw [e4, qj1]
        repeat (first | refine G.sx (fun q => Nat.beq q 132) rfl rfl rfl ?_ | refine G.gox (fun q => Nat.beq q 132) rfl rfl rfl ?_ | refine G.getx (fun q => Nat.beq q 132) rfl rfl rfl rfl ?_)
        exact L0
    · have c6 : it i = it j := (nI_eq (by omega) (by omega)).mp c6
      repeat (first | refine G.sx (fun _ => false) rfl rfl rfl ?_ | refine G.gox (fun _ => false) rfl rfl rfl ?_ | refine G.getx (fun _ => false) rfl rfl rfl rfl ?_)
      exact E.ri rfl (Or.inr ⟨rfl, Or.inl rfl⟩) (Or.inl ⟨⟨pk, c5⟩, i, j, rfl, rfl, hi, hj, Or.inl ⟨c6, rfl, rfl⟩⟩)
  · repeat (first | refine G.sx (fun _ => false) rfl rfl rfl ?_ | refine G.gox (fun _ => false) rfl rfl rfl ?_ | refine G.getx (fun _ => false) rfl rfl rfl rfl ?_)
    exact K1 2 _ rfl (by decide) (Or.inr ⟨pk, c5, rfl⟩)
/-- least beginning and greatest end, as the reference takes them -/
def mcF (sel : Nat → Bool) (b e : Nat → Int64) : Nat → Int64 × Int64
  | 0 => (4000000, -4000000)
  | i + 1 => if sel i then (if b i < (mcF sel b e i).1 then b i else (mcF sel b e i).1, if (mcF sel b e i).2 < e i then e i else (mcF sel b e i).2) else mcF sel b e i
def exM (g : Hp) (own : Nat → Nat) (nb p q x : Nat) : Int64 := (mcF (fun i => decide (own i = p ∨ own i = q)) (fun i => g.2 2 (6 * i + x)) (fun i => g.2 2 (6 * i + x + 3)) nb).2 - (mcF (fun i => decide (own i = p ∨ own i = q)) (fun i => g.2 2 (6 * i + x)) (fun i => g.2 2 (6 * i + x + 3)) nb).1
theorem c_Mo_clamp (hSt : StOk St) {g : Hp} {n : Nat} (hn : g.1 0 1 = nI n) (n12 : n ≤ 12) {nb : Nat} {own : Nat → Nat} (hO : OwI g nb own) (a b : Int32) (re : Int64) : Ct l y_Mo_clamp prog_11_method_44_code 12 (some .int) (rmD 2) D cls cA slM St ad [.ref 0, .int a, .int b, .long re] g (fun r g' => ((pOM g a ∧ pOM g b) ∧ 0 ≤ re) ∧ (∃ i j, a = nI i ∧ b = nI j ∧ i < n ∧ j < n ∧ r = some (.int (oI (if anyB (fun q => decide (own q = i)) nb && anyB (fun q => decide (own q = j)) nb then fstN (fun x => decide (exM g own nb i j x ≤ re)) 3 0 else none))) ∧ g' = upI g 0 0 0) ∨ r = some (.int 0) ∧ (¬ (pOM g a ∧ pOM g b) ∧ g' = upI g 0 0 1 ∨ (pOM g a ∧ pOM g b) ∧ ¬ 0 ≤ re ∧ g' = upI g 0 0 2)) := by
  obtain ⟨hnb, h40, ho⟩ := id hO
  refine Ct.of (tl := T_Mo_clamp) (by decide) tk_Mo_clamp cls_ok hSt (Nat.le_of_ble_eq_true rfl) (fun V G E C => ?_)
  have K1 : ∀ (c : Int32) lv, lk lv 0 = some (.ref 0) → 0 < c → (¬ (pOM g a ∧ pOM g b) ∧ c = 1 ∨ (pOM g a ∧ pOM g b) ∧ ¬ 0 ≤ re ∧ c = 2) → V 40 lv [.int c, .ref 0] g := by
    intro c lv hl hc hx
    refine G.le _ (le1 hl) ?_
    refine G.put rfl rfl rfl ?_
    repeat (first | refine G.sx (fun _ => false) rfl rfl rfl ?_ | refine G.gox (fun _ => false) rfl rfl rfl ?_ | refine G.getx (fun _ => false) rfl rfl rfl rfl ?_)
    refine G.br rfl rfl (fun c2 => absurd c2 (by rw [up_eq]; exact Int32.not_le.mpr hc)) (fun c2 => ?_)
    repeat (first | refine G.sx (fun _ => false) rfl rfl rfl ?_ | refine G.gox (fun _ => false) rfl rfl rfl ?_ | refine G.getx (fun _ => false) rfl rfl rfl rfl ?_)
    refine E.ri rfl (Or.inl rfl) (Or.inr ⟨rfl, ?_⟩)
    rcases hx with ⟨a1, rfl⟩ | ⟨a1, a2, rfl⟩
    · exact Or.inl ⟨a1, rfl⟩
    · exact Or.inr ⟨a1, a2, rfl⟩
  have K2 : ∀ lv, lk lv 0 = some (.ref 0) → ¬ (pOM g a ∧ pOM g b) → V 25 lv [.ref 0] g := by
    intro lv hl hx
    refine G.le _ (le1 hl) ?_
    repeat (first | refine G.sx (fun _ => false) rfl rfl rfl ?_ | refine G.gox (fun _ => false) rfl rfl rfl ?_ | refine G.getx (fun _ => false) rfl rfl rfl rfl ?_)
    exact K1 1 _ rfl (by decide) (Or.inl ⟨hx, rfl⟩)
  repeat (first | refine G.sx (fun _ => false) rfl rfl rfl ?_ | refine G.gox (fun _ => false) rfl rfl rfl ?_ | refine G.getx (fun _ => false) rfl rfl rfl rfl ?_)
  refine G.br rfl rfl (fun c1 => K2 _ rfl (fun q => absurd q.1.1 (Int32.not_le.mpr c1))) (fun c1 => ?_)
  repeat (first | refine G.sx (fun _ => false) rfl rfl rfl ?_ | refine G.gox (fun _ => false) rfl rfl rfl ?_ | refine G.getx (fun _ => false) rfl rfl rfl rfl ?_)
  refine G.br rfl rfl (fun c2 => K2 _ rfl (fun q => absurd q.1.2 (Int32.not_lt.mpr c2))) (fun c2 => ?_)
  repeat (first | refine G.sx (fun _ => false) rfl rfl rfl ?_ | refine G.gox (fun _ => false) rfl rfl rfl ?_ | refine G.getx (fun _ => false) rfl rfl rfl rfl ?_)
  refine G.br rfl rfl (fun c3 => K2 _ rfl (fun q => absurd q.2.1 (Int32.not_le.mpr c3))) (fun c3 => ?_)
  repeat (first | refine G.sx (fun _ => false) rfl rfl rfl ?_ | refine G.gox (fun _ => false) rfl rfl rfl ?_ | refine G.getx (fun _ => false) rfl rfl rfl rfl ?_)
  refine G.br rfl rfl (fun c4 => ?_) (fun c4 => K2 _ rfl (fun q => c4 q.2.2))
  have pk : pOM g a ∧ pOM g b := ⟨⟨Int32.not_lt.mp c1, Int32.not_le.mp c2⟩, Int32.not_lt.mp c3, c4⟩
  repeat (first | refine G.sx (fun _ => false) rfl rfl rfl ?_ | refine G.gox (fun _ => false) rfl rfl rfl ?_ | refine G.getx (fun _ => false) rfl rfl rfl rfl ?_)
  refine G.br rfl rfl (fun c5 => ?_) (fun c5 => ?_)
  · have c5 : 0 ≤ re := cmp_ge.mp c5
    obtain ⟨i, rfl, hi⟩ := Ok_ex hn (by omega) pk.1
    obtain ⟨j, rfl, hj⟩ := Ok_ex hn (by omega) pk.2
    have hO' : OwI (upI g 0 0 0) nb own := hO.up0 (by decide)
    have e2 : (upI g 0 0 0).1 0 2 = nI nb := hO'.1
    have e1 : (upI g 0 0 0).1 1 = g.1 1 := up_off _ _ _ _ (by decide)
    repeat (first | refine G.sx (fun _ => false) rfl rfl rfl ?_ | refine G.gox (fun _ => false) rfl rfl rfl ?_ | refine G.getx (fun _ => false) rfl rfl rfl rfl ?_)
    refine G.put rfl rfl rfl ?_
    repeat (first | refine G.sx (fun _ => false) rfl rfl rfl ?_ | refine G.gox (fun _ => false) rfl rfl rfl ?_ | refine G.getx (fun _ => false) rfl rfl rfl rfl ?_)
    refine G.br rfl rfl (fun _ => ?_) (fun c2 => absurd (by rw [up_eq]; decide) c2)
    have N : ∀ lv, (anyB (fun q => decide (own q = i)) nb && anyB (fun q => decide (own q = j)) nb) = false → V 68 lv [] (upI g 0 0 0) := by
      intro lv hf
      repeat (first | refine G.sx (fun _ => false) rfl rfl rfl ?_ | refine G.gox (fun _ => false) rfl rfl rfl ?_ | refine G.getx (fun _ => false) rfl rfl rfl rfl ?_)
      refine E.ri rfl (Or.inl rfl) (Or.inl ⟨⟨pk, c5⟩, i, j, rfl, rfl, hi, hj, ?_, rfl⟩)
      rw [hf]
      rfl
    repeat (first | refine G.sx (fun _ => false) rfl rfl rfl ?_ | refine G.gox (fun _ => false) rfl rfl rfl ?_ | refine G.getx (fun _ => false) rfl rfl rfl rfl ?_)
    refine C.cv [.int (nI i)] [] rfl cw_Mo_164 (d1 := 1) (by omega) (by omega) rfl rfl rfl (c_Mo_hasBox hSt hO' i (by omega)) (by decide) (fun r h3 hq => ?_)
    obtain ⟨rfl, rfl⟩ := hq
    refine G.br rfl rfl (fun c6 => N _ (by have := i01.mp c6; simp [this])) (fun c6 => ?_)
    have c6 := Decidable.not_not.mp (fun q => c6 (i01.mpr q))
    repeat (first | refine G.sx (fun _ => false) rfl rfl rfl ?_ | refine G.gox (fun _ => false) rfl rfl rfl ?_ | refine G.getx (fun _ => false) rfl rfl rfl rfl ?_)
    refine C.cv [.int (nI j)] [] rfl cw_Mo_164 (d1 := 1) (by omega) (by omega) rfl rfl rfl (c_Mo_hasBox hSt hO' j (by omega)) (by decide) (fun r h4 hq => ?_)
    obtain ⟨rfl, rfl⟩ := hq
    refine G.br rfl rfl (fun c7 => ?_) (fun c7 => N _ (by have := i01.mp c7; simp [this]))
    have c7 := Decidable.not_not.mp (fun q => c7 (i01.mpr q))
    generalize hf : (fun x => decide (exM g own nb i j x ≤ re)) = f
    have L : ∀ k, k ≤ 3 → ∀ x : Int32, x = nI k + -1 → V 76 [some (.ref 0), some (.int (nI i)), some (.int (nI j)), some (.long re), none, some (.int (oI (fstN f (3 - k) k))), some (.int x), none, none, none, none, none] [] (upI g 0 0 0) := by
      intro k
      induction k with
      | zero =>
        intro _ x hx
        repeat (first | refine G.sx (fun _ => false) rfl rfl rfl ?_ | refine G.gox (fun _ => false) rfl rfl rfl ?_ | refine G.getx (fun _ => false) rfl rfl rfl rfl ?_)
        refine G.br rfl rfl (fun _ => ?_) (fun c8 => absurd (by rw [hx]; decide) c8)
        repeat (first | refine G.sx (fun _ => false) rfl rfl rfl ?_ | refine G.gox (fun _ => false) rfl rfl rfl ?_ | refine G.getx (fun _ => false) rfl rfl rfl rfl ?_)
        refine E.ri rfl (Or.inl rfl) (Or.inl ⟨⟨pk, c5⟩, i, j, rfl, rfl, hi, hj, ?_, rfl⟩)
        rw [c6, c7, hf]
        rfl
      | succ k ih =>
        intro hk x hx
        rw [nI_m1] at hx
        subst hx
        have i1 := ih (by omega) _ rfl
        rw [show 3 - k = (3 - (k + 1)) + 1 by omega] at i1
        simp only [fstN] at i1
        generalize hM : mcF (fun i_1 => decide (own i_1 = i ∨ own i_1 = j)) (fun q => g.2 2 (6 * q + k)) (fun q => g.2 2 (6 * q + k + 3)) = M
        have hfk : f k = decide ((M nb).2 - (M nb).1 ≤ re) := by rw [← hf, ← hM]; rfl
        have L2 : ∀ q, q ≤ nb → V 94 [some (.ref 0), some (.int (nI i)), some (.int (nI j)), some (.long re), none, some (.int (oI (fstN f (3 - (k + 1)) (k + 1)))), some (.int (nI k)), some (.long (M q).1), none, some (.long (M q).2), none, some (.int (nI q))] [] (upI g 0 0 0) := by
          refine loopUp nb (fun q hq ihq => ?_) ?_
          · rw [← nI_1] at ihq
            obtain ⟨o1, o2⟩ := ho q hq
            have J : (own q = i ∨ own q = j) → V 125 [some (.ref 0), some (.int (nI i)), some (.int (nI j)), some (.long re), none, some (.int (oI (fstN f (3 - (k + 1)) (k + 1)))), some (.int (nI k)), some (.long (M q).1), none, some (.long (M q).2), none, some (.int (nI q))] [] (upI g 0 0 0) := by
              intro hs
              have eM : M (q + 1) = (if g.2 2 (6 * q + k) < (M q).1 then g.2 2 (6 * q + k) else (M q).1, if (M q).2 < g.2 2 (6 * q + k + 3) then g.2 2 (6 * q + k + 3) else (M q).2) := by
                rw [← hM]
                simp only [mcF, hs, decide_true, if_true]
              rw [eM] at ihq
              have B2 : ∀ x1 : Int64, x1 = (if g.2 2 (6 * q + k) < (M q).1 then g.2 2 (6 * q + k) else (M q).1) → V 162 [some (.ref 0), some (.int (nI i)), some (.int (nI j)), some (.long re), none, some (.int (oI (fstN f (3 - (k + 1)) (k + 1)))), some (.int (nI k)), some (.long (M q).1), none, some (.long (M q).2), none, some (.int (nI q))] [.long x1] (upI g 0 0 0) := by
                intro x1 hx1
                subst hx1
                repeat (first | refine G.sx (fun q => Nat.beq q 178) rfl rfl rfl ?_ | refine G.gox (fun q => Nat.beq q 178) rfl rfl rfl ?_ | refine G.getx (fun q => Nat.beq q 178) rfl rfl rfl rfl ?_)
                show V 178 _ [.int (6 * nI q + nI k + nI 3), .ref 2] _
                rw [ix6, nI_add, nI_add]
                refine G.laln rfl rfl (by omega) (by decide) ?_
                repeat (first | refine G.sx (fun _ => false) rfl rfl rfl ?_ | refine G.gox (fun _ => false) rfl rfl rfl ?_ | refine G.getx (fun _ => false) rfl rfl rfl rfl ?_)
                refine G.br rfl rfl (fun c9 => ?_) (fun c9 => ?_)
                · have c9 : ¬ (M q).2 < g.2 2 (6 * q + k + 3) := Int64.not_lt.mpr (cmp_le.mp c9)
                  rw [if_neg c9] at ihq
                  repeat (first | refine G.sx (fun _ => false) rfl rfl rfl ?_ | refine G.gox (fun _ => false) rfl rfl rfl ?_ | refine G.getx (fun _ => false) rfl rfl rfl rfl ?_)
                  refine G.go rfl ?_
                  exact ihq
                · have c9 : (M q).2 < g.2 2 (6 * q + k + 3) := Int64.not_le.mp (fun z => c9 (cmp_le.mpr z))
                  rw [if_pos c9] at ihq
                  repeat (first | refine G.sx (fun q => Nat.beq q 199) rfl rfl rfl ?_ | refine G.gox (fun q => Nat.beq q 199) rfl rfl rfl ?_ | refine G.getx (fun q => Nat.beq q 199) rfl rfl rfl rfl ?_)
                  show V 199 _ [.int (6 * nI q + nI k + nI 3), .ref 2] _
                  rw [ix6, nI_add, nI_add]
                  refine G.laln rfl rfl (by omega) (by decide) ?_
                  repeat (first | refine G.sx (fun _ => false) rfl rfl rfl ?_ | refine G.gox (fun _ => false) rfl rfl rfl ?_ | refine G.getx (fun _ => false) rfl rfl rfl rfl ?_)
                  refine G.go rfl ?_
                  exact ihq
              repeat (first | refine G.sx (fun q => Nat.beq q 137) rfl rfl rfl ?_ | refine G.gox (fun q => Nat.beq q 137) rfl rfl rfl ?_ | refine G.getx (fun q => Nat.beq q 137) rfl rfl rfl rfl ?_)
              show V 137 _ [.int (6 * nI q + nI k), .ref 2] _
              rw [ix6, nI_add]
              refine G.laln rfl rfl (by omega) (by decide) ?_
              repeat (first | refine G.sx (fun _ => false) rfl rfl rfl ?_ | refine G.gox (fun _ => false) rfl rfl rfl ?_ | refine G.getx (fun _ => false) rfl rfl rfl rfl ?_)
              refine G.br rfl rfl (fun c9 => ?_) (fun c9 => ?_)
              · have c9 : ¬ g.2 2 (6 * q + k) < (M q).1 := Int64.not_lt.mpr (cmp_ge.mp c9)
                repeat (first | refine G.sx (fun q => Nat.beq q 162) rfl rfl rfl ?_ | refine G.gox (fun q => Nat.beq q 162) rfl rfl rfl ?_ | refine G.getx (fun q => Nat.beq q 162) rfl rfl rfl rfl ?_)
                exact B2 _ (by rw [if_neg c9])
              · have c9 : g.2 2 (6 * q + k) < (M q).1 := Int64.not_le.mp (fun z => c9 (cmp_ge.mpr z))
                repeat (first | refine G.sx (fun q => Nat.beq q 156) rfl rfl rfl ?_ | refine G.gox (fun q => Nat.beq q 156) rfl rfl rfl ?_ | refine G.getx (fun q => Nat.beq q 156) rfl rfl rfl rfl ?_)
                show V 156 _ [.int (6 * nI q + nI k), .ref 2] _
                rw [ix6, nI_add]
                refine G.laln rfl rfl (by omega) (by decide) ?_
                repeat (first | refine G.sx (fun q => Nat.beq q 162) rfl rfl rfl ?_ | refine G.gox (fun q => Nat.beq q 162) rfl rfl rfl ?_ | refine G.getx (fun q => Nat.beq q 162) rfl rfl rfl rfl ?_)
                exact B2 _ (by rw [if_pos c9]; rfl)
            repeat (first | refine G.sx (fun _ => false) rfl rfl rfl ?_ | refine G.gox (fun _ => false) rfl rfl rfl ?_ | refine G.getx (fun _ => false) rfl rfl rfl rfl ?_)
            refine G.br rfl rfl (fun c8 => absurd c8 (by rw [e2]; exact nI_ge hq (by omega))) (fun c8 => ?_)
            repeat (first | refine G.sx (fun _ => false) rfl rfl rfl ?_ | refine G.gox (fun _ => false) rfl rfl rfl ?_ | refine G.getx (fun _ => false) rfl rfl rfl rfl ?_)
            refine G.ialn rfl rfl (by omega) (by decide) ?_
            rw [e1, o1]
            repeat (first | refine G.sx (fun _ => false) rfl rfl rfl ?_ | refine G.gox (fun _ => false) rfl rfl rfl ?_ | refine G.getx (fun _ => false) rfl rfl rfl rfl ?_)
            refine G.br rfl rfl (fun c9 => J (Or.inl ((nI_eq (by omega) (by omega)).mp c9))) (fun c9 => ?_)
            repeat (first | refine G.sx (fun _ => false) rfl rfl rfl ?_ | refine G.gox (fun _ => false) rfl rfl rfl ?_ | refine G.getx (fun _ => false) rfl rfl rfl rfl ?_)
            refine G.ialn rfl rfl (by omega) (by decide) ?_
            rw [e1, o1]
            repeat (first | refine G.sx (fun _ => false) rfl rfl rfl ?_ | refine G.gox (fun _ => false) rfl rfl rfl ?_ | refine G.getx (fun _ => false) rfl rfl rfl rfl ?_)
            refine G.br rfl rfl (fun c10 => ?_) (fun c10 => J (Or.inr ((nI_eq (by omega) (by omega)).mp c10)))
            have hs : ¬ (own q = i ∨ own q = j) := fun z => by
              rcases z with z | z
              · exact c9 (by rw [z])
              · exact c10 (by rw [z])
            have eM : M (q + 1) = M q := by
              rw [← hM]
              simp only [mcF, hs, decide_false]
              simp
            rw [eM] at ihq
            repeat (first | refine G.sx (fun _ => false) rfl rfl rfl ?_ | refine G.gox (fun _ => false) rfl rfl rfl ?_ | refine G.getx (fun _ => false) rfl rfl rfl rfl ?_)
            refine G.go rfl ?_
            exact ihq
          · repeat (first | refine G.sx (fun _ => false) rfl rfl rfl ?_ | refine G.gox (fun _ => false) rfl rfl rfl ?_ | refine G.getx (fun _ => false) rfl rfl rfl rfl ?_)
            refine G.br rfl rfl (fun _ => ?_) (fun c8 => absurd (by rw [e2]; exact nI_le (Nat.le_refl nb) (by omega)) c8)
            repeat (first | refine G.sx (fun _ => false) rfl rfl rfl ?_ | refine G.gox (fun _ => false) rfl rfl rfl ?_ | refine G.getx (fun _ => false) rfl rfl rfl rfl ?_)
            refine G.br rfl rfl (fun c9 => ?_) (fun c9 => ?_)
            · have c9 : ¬ f k = true := by
                rw [hfk]
                simpa using Int64.not_le.mpr (cmp_gt.mp c9)
              rw [if_neg c9] at i1
              repeat (first | refine G.sx (fun _ => false) rfl rfl rfl ?_ | refine G.gox (fun _ => false) rfl rfl rfl ?_ | refine G.getx (fun _ => false) rfl rfl rfl rfl ?_)
              refine G.go rfl ?_
              refine G.le _ ?_ i1
              repeat (first | exact leL_0 | refine leL_c rfl ?_ | refine leL_n ?_)
            · have c9 : f k = true := by
                rw [hfk]
                simpa using Int64.not_lt.mp (fun z => c9 (cmp_gt.mpr z))
              rw [if_pos c9] at i1
              repeat (first | refine G.sx (fun _ => false) rfl rfl rfl ?_ | refine G.gox (fun _ => false) rfl rfl rfl ?_ | refine G.getx (fun _ => false) rfl rfl rfl rfl ?_)
              refine G.go rfl ?_
              refine G.le _ ?_ i1
              repeat (first | exact leL_0 | refine leL_c rfl ?_ | refine leL_n ?_)
        have L20 := L2 0 (Nat.zero_le _)
        have eM0 : M 0 = (4000000, -4000000) := by rw [← hM]; rfl
        rw [eM0] at L20
        repeat (first | refine G.sx (fun _ => false) rfl rfl rfl ?_ | refine G.gox (fun _ => false) rfl rfl rfl ?_ | refine G.getx (fun _ => false) rfl rfl rfl rfl ?_)
        refine G.br rfl rfl (fun c8 => absurd c8 (nI_pos (by omega))) (fun _ => ?_)
        repeat (first | refine G.sx (fun q => Nat.beq q 94) rfl rfl rfl ?_ | refine G.gox (fun q => Nat.beq q 94) rfl rfl rfl ?_ | refine G.getx (fun q => Nat.beq q 94) rfl rfl rfl rfl ?_)
        exact L20
    repeat (first | refine G.sx (fun q => Nat.beq q 76) rfl rfl rfl ?_ | refine G.gox (fun q => Nat.beq q 76) rfl rfl rfl ?_ | refine G.getx (fun q => Nat.beq q 76) rfl rfl rfl rfl ?_)
    exact L 3 (Nat.le_refl _) 2 rfl
  · repeat (first | refine G.sx (fun _ => false) rfl rfl rfl ?_ | refine G.gox (fun _ => false) rfl rfl rfl ?_ | refine G.getx (fun _ => false) rfl rfl rfl rfl ?_)
    exact K1 2 _ rfl (by decide) (Or.inr ⟨pk, fun q => c5 (cmp_ge.mpr q), rfl⟩)
end MoH
