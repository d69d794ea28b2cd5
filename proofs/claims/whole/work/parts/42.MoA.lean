/-! The reference: anyFree, hands, size -/
section MoJ
variable {l : Launch} {D : va_G} {cA : Nat → ClassId} {ad : Nat → Nat} {St : (Nat → Prop) → State → Heap → Prop}
/-- what the reference's methods that reckon know: parts, groups, boxes, ways -/
def MdI (g : Hp) (n : Nat) (it : Nat → Nat) (nb : Nat) (own : Nat → Nat) (ns : Nat) : Prop := GrI g n it ∧ OwI g nb own ∧ g.1 0 5 = nI ns ∧ ns ≤ 4
theorem MdI.st9 {g : Hp} {n : Nat} {it : Nat → Nat} {nb : Nat} {own : Nat → Nat} {ns : Nat} {f9 : Nat → Int32} (h : MdI g n it nb own ns) : MdI (setI g 9 f9) n it nb own ns := by
  obtain ⟨⟨a1, a2, a3⟩, b, c, d⟩ := h
  exact ⟨⟨by rw [setI_ne _ _ (by decide)]; exact a1, a2, fun i hi => by rw [setI_ne _ _ (by decide)]; exact a3 i hi⟩, b.st, by rw [setI_ne _ _ (by decide)]; exact c, d⟩
theorem MdI.stL {g : Hp} {n : Nat} {it : Nat → Nat} {nb : Nat} {own : Nat → Nat} {ns k : Nat} {f : Nat → Int64} (h : MdI g n it nb own ns) : MdI (setL g k f) n it nb own ns := h
theorem MdI.up0 {g : Hp} {n : Nat} {it : Nat → Nat} {nb : Nat} {own : Nat → Nat} {ns j : Nat} {v : Int32} (h : MdI g n it nb own ns) (h1 : j ≠ 1) (h2 : j ≠ 2) (h5 : j ≠ 5) : MdI (upI g 0 j v) n it nb own ns :=
  ⟨h.1.up0 h1, h.2.1.up0 h2, by rw [up_ne _ _ _ _ (by omega)]; exact h.2.2.1, h.2.2.2⟩
/-- the way out by the table reckoned of this heap -/
def woG (g : Hp) (n : Nat) (it : Nat → Nat) (nb : Nat) (own : Nat → Nat) (ns : Nat) : Nat → Nat → Option Nat := woM (fun p w => bfM own nb (fun a b => swM g own a b w) p) it n (6 + ns)
theorem woG_lt {g : Hp} {n : Nat} {it : Nat → Nat} {nb : Nat} {own : Nat → Nat} {ns k B w : Nat} (h4 : ns ≤ 4) (e : woG g n it nb own ns k B = some w) : w < 2 ^ 31 := by
  have := woM_lt e
  omega
theorem c_Mo_reckon (hSt : StOk St) {g : Hp} {n : Nat} {it : Nat → Nat} {nb : Nat} {own : Nat → Nat} {ns : Nat} (hM : MdI g n it nb own ns) : Ct l y_Mo_reckonBars prog_11_method_13_code 3 none (rmD 4) D cls cA slM St ad [.ref 0] g (fun r g' => r = none ∧ ∃ f9, g' = setI g 9 f9 ∧ BrF f9 n (6 + ns) (fun p w => bfM own nb (fun a b => swM g own a b w) p)) := c_Mo_reckonBars hSt hM.1.1 hM.1.2.1 hM.2.1 hM.2.2.1 hM.2.2.2
theorem c_Mo_wayO (hSt : StOk St) {g g0 : Hp} {n : Nat} {it : Nat → Nat} {nb : Nat} {own : Nat → Nat} {ns : Nat} (hM : MdI g n it nb own ns) (hB : BrF (g.1 9) n (6 + ns) (fun p w => bfM own nb (fun a b => swM g0 own a b w) p)) (i B : Nat) (hi : i < 12) (hBB : B < 4096) : Ct l y_Mo_wayOut prog_11_method_21_code 5 (some .int) (rmD 3) D cls cA slM St ad [.ref 0, .int (nI i), .int (nI B)] g (fun r g' => r = some (.int (oI (woG g0 n it nb own ns i B))) ∧ g' = g) := c_Mo_wayOut hSt hM.1 hM.2.2.1 hM.2.2.2 hB (fun p w => bfM_lt _ _ _ _) i B hi hBB
theorem aiM_lt {it : Nat → Nat} : ∀ n, n ≤ 12 → aiM it n < 4096
  | 0, _ => Nat.lt_of_sub_eq_succ rfl
  | n + 1, hn => by
    unfold aiM
    split
    · exact or_lt (aiM_lt n (by omega)) (pw_lt (by omega))
    · exact aiM_lt n (by omega)
/-- some item has a way out -/
def afM (f : Nat → Nat → Option Nat) (A n : Nat) : Bool := anyB (fun k => A.testBit k && (f k A).isSome) n
theorem c_Mo_anyFree (hSt : StOk St) {g : Hp} {n : Nat} {it : Nat → Nat} {nb : Nat} {own : Nat → Nat} {ns : Nat} (hM : MdI g n it nb own ns) : Ct l y_Mo_anyFree prog_11_method_31_code 4 (some .boolean) (rmD 5) D cls cA slM St ad [.ref 0] g (fun r g' => (∃ f9, g' = setI g 9 f9) ∧ r = some (.int (if afM (woG g n it nb own ns) (aiM it n) n then 1 else 0))) := by
  have n12 := hM.1.2.1
  have hA := aiM_lt (it := it) n n12
  generalize hAA : aiM it n = A at hA
  generalize hff : woG g n it nb own ns = f
  have hfl : ∀ k B w, f k B = some w → w < 2 ^ 31 := fun k B w e => by rw [← hff] at e; exact woG_lt hM.2.2.2 e
  refine Ct.of (tl := T_Mo_anyFree) (by decide) tk_Mo_anyFree cls_ok hSt (Nat.le_of_ble_eq_true rfl) (fun V G E C => ?_)
  repeat (first | refine G.sx (fun _ => false) rfl rfl rfl ?_ | refine G.gox (fun _ => false) rfl rfl rfl ?_ | refine G.getx (fun _ => false) rfl rfl rfl rfl ?_)
  refine C.cv [] [] rfl cw_Mo_109 (d1 := 4) (by omega) (by omega) rfl rfl rfl (c_Mo_reckon hSt hM) (by decide) (fun r h1 hq => ?_)
  obtain ⟨rfl, f9, rfl, hB9⟩ := hq
  have hM1 : MdI (setI g 9 f9) n it nb own ns := hM.st9
  have hB1 : BrF ((setI g 9 f9).1 9) n (6 + ns) (fun p w => bfM own nb (fun a b => swM g own a b w) p) := by rw [setI_at]; exact hB9
  repeat (first | refine G.sx (fun _ => false) rfl rfl rfl ?_ | refine G.gox (fun _ => false) rfl rfl rfl ?_ | refine G.getx (fun _ => false) rfl rfl rfl rfl ?_)
  refine C.cv [] [] rfl cw_Mo_115 (d1 := 2) (by omega) (by omega) rfl rfl rfl (c_Mo_allItems hSt hM1.1) (by decide) (fun r h1 hq => ?_)
  obtain ⟨rfl, rfl⟩ := hq
  rw [hAA]
  generalize hph : (fun k => A.testBit k && (f k A).isSome) = ph
  have L : ∀ k, k ≤ n → V 13 [some (.ref 0), some (.int (nI A)), some (.int (if anyB ph k then 1 else 0)), some (.int (nI k))] [] (setI g 9 f9) := by
    refine loopUp n (fun k hk ih => ?_) ?_
    · rw [← nI_1] at ih
      have hphk : ph k = (A.testBit k && (f k A).isSome) := by rw [← hph]
      have Z1 : ∀ o, anyB ph (k + 1) = true → V 42 [some (.ref 0), some (.int (nI A)), o, some (.int (nI k))] [] (setI g 9 f9) := by
        intro o e
        rw [e, if_pos rfl] at ih
        repeat (first | refine G.sx (fun _ => false) rfl rfl rfl ?_ | refine G.gox (fun _ => false) rfl rfl rfl ?_ | refine G.getx (fun _ => false) rfl rfl rfl rfl ?_)
        refine G.go rfl ?_
        exact ih
      have Z0 : ∀ o, anyB ph (k + 1) = false → V 46 [some (.ref 0), some (.int (nI A)), o, some (.int (nI k))] [] (setI g 9 f9) := by
        intro o e
        rw [e, if_neg (by decide)] at ih
        repeat (first | refine G.sx (fun _ => false) rfl rfl rfl ?_ | refine G.gox (fun _ => false) rfl rfl rfl ?_ | refine G.getx (fun _ => false) rfl rfl rfl rfl ?_)
        refine G.go rfl ?_
        exact ih
      repeat (first | refine G.sx (fun _ => false) rfl rfl rfl ?_ | refine G.gox (fun _ => false) rfl rfl rfl ?_ | refine G.getx (fun _ => false) rfl rfl rfl rfl ?_)
      refine G.br rfl rfl (fun c1 => absurd c1 (by rw [hM1.1.1]; exact nI_ge hk (by omega))) (fun c1 => ?_)
      repeat (first | refine G.sx (fun _ => false) rfl rfl rfl ?_ | refine G.gox (fun _ => false) rfl rfl rfl ?_ | refine G.getx (fun _ => false) rfl rfl rfl rfl ?_)
      refine G.br rfl rfl (fun c2 => ?_) (fun c2 => ?_)
      · have c2 : anyB ph k = true := Decidable.not_not.mp (fun q => c2 (i01.mpr q))
        exact Z1 _ (by simp [anyB, c2])
      · have c2 : anyB ph k = false := by simpa using i01.mp c2
        repeat (first | refine G.sx (fun _ => false) rfl rfl rfl ?_ | refine G.gox (fun _ => false) rfl rfl rfl ?_ | refine G.getx (fun _ => false) rfl rfl rfl rfl ?_)
        refine C.cs [.int (nI A), .int (nI k)] [] rfl cw_Mo_122 (d1 := 1) (by omega) (by omega) rfl (c_Mo_has hSt _ A k (by omega) (by omega)) (by decide) (fun r h2 hq => ?_)
        obtain ⟨rfl, rfl⟩ := hq
        refine G.br rfl rfl (fun c3 => Z0 _ (by have := i01.mp c3; simp [anyB, c2, hphk, this])) (fun c3 => ?_)
        have c3 : A.testBit k = true := Decidable.not_not.mp (fun q => c3 (i01.mpr q))
        repeat (first | refine G.sx (fun _ => false) rfl rfl rfl ?_ | refine G.gox (fun _ => false) rfl rfl rfl ?_ | refine G.getx (fun _ => false) rfl rfl rfl rfl ?_)
        refine C.cv [.int (nI k), .int (nI A)] [] rfl cw_Mo_126 (d1 := 3) (by omega) (by omega) rfl rfl rfl (c_Mo_wayO hSt hM1 hB1 k A (by omega) hA) (by decide) (fun r h3 hq => ?_)
        obtain ⟨rfl, rfl⟩ := hq
        rw [hff]
        refine G.br rfl rfl (fun c4 => ?_) (fun c4 => ?_)
        · have c4 : f k A = none := (oI_ge (fun w e => hfl k A w e)).mp c4
          exact Z0 _ (by simp [anyB, c2, hphk, c4])
        · have c4 : (f k A).isSome = true := by
            cases e : f k A with
            | none => exact absurd ((oI_ge (fun w e => hfl k A w e)).mpr e) c4
            | some w => rfl
          exact Z1 _ (by simp [anyB, hphk, c3, c4])
    · repeat (first | refine G.sx (fun _ => false) rfl rfl rfl ?_ | refine G.gox (fun _ => false) rfl rfl rfl ?_ | refine G.getx (fun _ => false) rfl rfl rfl rfl ?_)
      refine G.br rfl rfl (fun c1 => ?_) (fun c1 => absurd (by rw [hM1.1.1]; exact nI_le (Nat.le_refl n) (by omega)) c1)
      have e0 : afM f A n = anyB ph n := by unfold afM; rw [hph]
      repeat (first | refine G.sx (fun _ => false) rfl rfl rfl ?_ | refine G.gox (fun _ => false) rfl rfl rfl ?_ | refine G.getx (fun _ => false) rfl rfl rfl rfl ?_)
      cases e : anyB ph n with
      | true => exact E.ri rfl (Or.inr ⟨rfl, Or.inr rfl⟩) ⟨⟨f9, rfl⟩, by rw [e0, e]⟩
      | false => exact E.ri rfl (Or.inr ⟨rfl, Or.inl rfl⟩) ⟨⟨f9, rfl⟩, by rw [e0, e]⟩
  repeat (first | refine G.sx (fun q => Nat.beq q 13) rfl rfl rfl ?_ | refine G.gox (fun q => Nat.beq q 13) rfl rfl rfl ?_ | refine G.getx (fun q => Nat.beq q 13) rfl rfl rfl rfl ?_)
  exact L 0 (Nat.zero_le _)
theorem c_Mo_size (hSt : StOk St) (g : Hp) (B : Nat) (hB : B < 4096) : Ct l y_Mo_size prog_11_method_38_code 3 (some .int) (rmD 2) D cls cA slM St ad [.int (nI B)] g (fun r g' => r = some (.int (nI (pcN B 12))) ∧ g' = g) := by
  refine Ct.of (tl := T_Mo_size) (by decide) tk_Mo_size cls_ok hSt (Nat.le_of_ble_eq_true rfl) (fun V G E C => ?_)
  have L : ∀ k, k ≤ 12 → V 4 [some (.int (nI B)), some (.int (nI (pcN B k))), some (.int (nI k))] [] g := by
    refine loopUp 12 (fun k hk ih => ?_) ?_
    · rw [← nI_1] at ih
      repeat (first | refine G.sx (fun _ => false) rfl rfl rfl ?_ | refine G.gox (fun _ => false) rfl rfl rfl ?_ | refine G.getx (fun _ => false) rfl rfl rfl rfl ?_)
      refine G.br rfl rfl (fun c1 => absurd c1 (nI_ge (b := 12) hk (by omega))) (fun c1 => ?_)
      repeat (first | refine G.sx (fun _ => false) rfl rfl rfl ?_ | refine G.gox (fun _ => false) rfl rfl rfl ?_ | refine G.getx (fun _ => false) rfl rfl rfl rfl ?_)
      refine C.cs [.int (nI B), .int (nI k)] [] rfl cw_Mo_122 (d1 := 1) (by omega) (by omega) rfl (c_Mo_has hSt g B k (by omega) (by omega)) (by decide) (fun r h2 hq => ?_)
      obtain ⟨rfl, rfl⟩ := hq
      refine G.br rfl rfl (fun c3 => ?_) (fun c3 => ?_)
      · have c3 := i01.mp c3
        rw [show pcN B (k + 1) = pcN B k by simp [pcN, c3]] at ih
        repeat (first | refine G.sx (fun _ => false) rfl rfl rfl ?_ | refine G.gox (fun _ => false) rfl rfl rfl ?_ | refine G.getx (fun _ => false) rfl rfl rfl rfl ?_)
        refine G.go rfl ?_
        exact ih
      · have c3 : B.testBit k = true := Decidable.not_not.mp (fun q => c3 (i01.mpr q))
        rw [show pcN B (k + 1) = pcN B k + 1 by simp [pcN, c3], ← nI_1] at ih
        repeat (first | refine G.sx (fun _ => false) rfl rfl rfl ?_ | refine G.gox (fun _ => false) rfl rfl rfl ?_ | refine G.getx (fun _ => false) rfl rfl rfl rfl ?_)
        refine G.go rfl ?_
        exact ih
    · repeat (first | refine G.sx (fun _ => false) rfl rfl rfl ?_ | refine G.gox (fun _ => false) rfl rfl rfl ?_ | refine G.getx (fun _ => false) rfl rfl rfl rfl ?_)
      refine G.br rfl rfl (fun c1 => ?_) (fun c1 => absurd (nI_le (a := 12) (Nat.le_refl 12) (by omega)) c1)
      repeat (first | refine G.sx (fun _ => false) rfl rfl rfl ?_ | refine G.gox (fun _ => false) rfl rfl rfl ?_ | refine G.getx (fun _ => false) rfl rfl rfl rfl ?_)
      exact E.ri rfl (Or.inl rfl) ⟨rfl, rfl⟩
  repeat (first | refine G.sx (fun q => Nat.beq q 4) rfl rfl rfl ?_ | refine G.gox (fun q => Nat.beq q 4) rfl rfl rfl ?_ | refine G.getx (fun q => Nat.beq q 4) rfl rfl rfl rfl ?_)
  exact L 0 (Nat.zero_le _)
/-- who goes in a round, and how many, of the items before p -/
def hgM (f : Nat → Nat → Option Nat) (q B : Nat) : Nat → Nat × Nat
  | 0 => (0, 0)
  | p + 1 => if (hgM f q B p).2 < q ∧ B.testBit p = true ∧ (f p B).isSome = true then ((hgM f q B p).1 ||| 2 ^ p, (hgM f q B p).2 + 1) else hgM f q B p
/-- round by round -/
def hdM (f : Nat → Nat → Option Nat) (n q : Nat) (k : Int32) : Nat → Nat → Nat → Nat → Int32
  | 0, _, _, _ => 0
  | m + 1, r, B, c => if nI r ≤ k then (if (hgM f q B n).2 = 0 then 0 else hdM f n q k m (r + 1) (clrS B (hgM f q B n).1) (hgM f q B n).2) else nI c
theorem hgM_in {f : Nat → Nat → Option Nat} {q B : Nat} : ∀ {p : Nat}, p ≤ 12 → (hgM f q B p).1 < 4096 ∧ (hgM f q B p).2 ≤ p ∧ (∀ j, (hgM f q B p).1.testBit j = true → B.testBit j = true ∧ j < p) ∧ ((hgM f q B p).2 ≠ 0 → ∃ j, j < p ∧ (hgM f q B p).1.testBit j = true)
  | 0, _ => ⟨Nat.lt_of_sub_eq_succ rfl, Nat.le_refl _, fun j h => by simp [hgM] at h, fun h => absurd rfl h⟩
  | p + 1, hp => by
    obtain ⟨h1, h2, h3, h4⟩ := hgM_in (f := f) (q := q) (B := B) (p := p) (by omega)
    by_cases e : (hgM f q B p).2 < q ∧ B.testBit p = true ∧ (f p B).isSome = true
    · rw [show hgM f q B (p + 1) = ((hgM f q B p).1 ||| 2 ^ p, (hgM f q B p).2 + 1) by simp only [hgM]; rw [if_pos e]]
      refine ⟨or_lt h1 (pw_lt (by omega)), by show (hgM f q B p).2 + 1 ≤ p + 1; omega, fun j hj => ?_, fun _ => ⟨p, by omega, ?_⟩⟩
      · rw [Nat.testBit_or, Nat.testBit_two_pow, Bool.or_eq_true, decide_eq_true_eq] at hj
        rcases hj with hj | rfl
        · exact ⟨(h3 j hj).1, by have := (h3 j hj).2; omega⟩
        · exact ⟨e.2.1, by omega⟩
      · show ((hgM f q B p).1 ||| 2 ^ p).testBit p = true
        rw [Nat.testBit_or, Nat.testBit_two_pow]
        simp
    · rw [show hgM f q B (p + 1) = hgM f q B p by simp only [hgM]; rw [if_neg e]]
      exact ⟨h1, by omega, fun j hj => ⟨(h3 j hj).1, by have := (h3 j hj).2; omega⟩, fun h => by
        obtain ⟨j, a, b⟩ := h4 h
        exact ⟨j, by omega, b⟩⟩
theorem pcN_sub {C B i : Nat} (h : ∀ j, C.testBit j = true → B.testBit j = true) (hi : B.testBit i = true ∧ C.testBit i = false) : ∀ k, pcN C k + (if i < k then 1 else 0) ≤ pcN B k
  | 0 => by simp [pcN]
  | k + 1 => by
    have ih := pcN_sub h hi k
    unfold pcN
    by_cases e : k = i
    · subst e
      rw [if_neg (show ¬ k < k by omega)] at ih
      rw [hi.1, hi.2, if_pos (show k < k + 1 by omega), if_pos rfl, if_neg (by decide)]
      omega
    · have hik : (if i < k + 1 then 1 else 0) = (if i < k then 1 else 0) := by
        by_cases e2 : i < k
        · rw [if_pos e2, if_pos (by omega)]
        · rw [if_neg e2, if_neg (by omega)]
      rw [hik]
      by_cases e3 : C.testBit k = true
      · rw [if_pos e3, if_pos (h k e3)]
        omega
      · rw [if_neg e3]
        by_cases e4 : B.testBit k = true
        · rw [if_pos e4]
          omega
        · rw [if_neg e4]
          exact ih
set_option maxHeartbeats 1000000 in
theorem c_Mo_hands (hSt : StOk St) {g : Hp} {n : Nat} {it : Nat → Nat} {nb : Nat} {own : Nat → Nat} {ns : Nat} (hM : MdI g n it nb own ns) (p k : Int32) : Ct l y_Mo_hands prog_11_method_37_code 8 (some .int) (rmD 5) D cls cA slM St ad [.ref 0, .int p, .int k] g (fun r g' => g.1 0 14 = 0 ∧ r = some (.int 0) ∧ g' = upI g 0 0 1 ∨ ¬ g.1 0 14 = 0 ∧ (¬ 0 ≤ k ∧ r = some (.int 0) ∧ g' = upI g 0 0 2 ∨ 0 ≤ k ∧ ¬ (1 ≤ p ∧ p ≤ 12) ∧ r = some (.int 0) ∧ g' = upI g 0 0 3 ∨ (0 ≤ k ∧ 1 ≤ p ∧ p ≤ 12) ∧ ∃ q f9, p = nI q ∧ 1 ≤ q ∧ q ≤ 12 ∧ g' = setI (std (upI g 0 0 0)) 9 f9 ∧ r = some (.int (hdM (woG (std g) n it nb own ns) n q k 14 0 (aiM it n) 0)))) := by
  have n12 := hM.1.2.1
  have hA := aiM_lt (it := it) n n12
  generalize hAA : aiM it n = A at hA
  generalize hff : woG (std g) n it nb own ns = f
  have hfl : ∀ k B w, f k B = some w → w < 2 ^ 31 := fun k B w e => by rw [← hff] at e; exact woG_lt hM.2.2.2 e
  refine Ct.of (tl := T_Mo_hands) (by decide) tk_Mo_hands cls_ok hSt (Nat.le_of_ble_eq_true rfl) (fun V G E C => ?_)
  repeat (first | refine G.sx (fun _ => false) rfl rfl rfl ?_ | refine G.gox (fun _ => false) rfl rfl rfl ?_ | refine G.getx (fun _ => false) rfl rfl rfl rfl ?_)
  refine C.cv [] [] rfl cw_Mo_136 (d1 := 1) (by omega) (by omega) rfl rfl rfl (c_Mo_notRun hSt g) (by decide) (fun r h1 hq => ?_)
  rcases hq with ⟨r0, rfl, rfl⟩ | ⟨r0, rfl, rfl⟩
  · refine G.br rfl rfl (fun c1 => absurd c1 (by decide)) (fun _ => ?_)
    repeat (first | refine G.sx (fun _ => false) rfl rfl rfl ?_ | refine G.gox (fun _ => false) rfl rfl rfl ?_ | refine G.getx (fun _ => false) rfl rfl rfl rfl ?_)
    exact E.ri rfl (Or.inl rfl) (Or.inl ⟨r0, rfl, rfl⟩)
  refine G.br rfl rfl (fun _ => ?_) (fun c1 => absurd rfl c1)
  have K1 : ∀ (c : Int32) lv, lk lv 0 = some (.ref 0) → 0 < c → (¬ 0 ≤ k ∧ c = 2 ∨ 0 ≤ k ∧ ¬ (1 ≤ p ∧ p ≤ 12) ∧ c = 3) → V 34 lv [.int c, .ref 0] (upI g 0 0 0) := by
    intro c lv hl hc hx
    refine G.le _ (le1 hl) ?_
    refine G.put rfl rfl rfl ?_
    rw [upI_2]
    repeat (first | refine G.sx (fun _ => false) rfl rfl rfl ?_ | refine G.gox (fun _ => false) rfl rfl rfl ?_ | refine G.getx (fun _ => false) rfl rfl rfl rfl ?_)
    refine G.br rfl rfl (fun c2 => absurd c2 (by rw [up_eq]; exact Int32.not_le.mpr hc)) (fun c2 => ?_)
    repeat (first | refine G.sx (fun _ => false) rfl rfl rfl ?_ | refine G.gox (fun _ => false) rfl rfl rfl ?_ | refine G.getx (fun _ => false) rfl rfl rfl rfl ?_)
    refine E.ri rfl (Or.inl rfl) (Or.inr ⟨r0, ?_⟩)
    rcases hx with ⟨a1, rfl⟩ | ⟨a1, a2, rfl⟩
    · exact Or.inl ⟨a1, rfl, rfl⟩
    · exact Or.inr (Or.inl ⟨a1, a2, rfl, rfl⟩)
  repeat (first | refine G.sx (fun _ => false) rfl rfl rfl ?_ | refine G.gox (fun _ => false) rfl rfl rfl ?_ | refine G.getx (fun _ => false) rfl rfl rfl rfl ?_)
  refine G.br rfl rfl (fun c1 => ?_) (fun c1 => ?_)
  · have K3 : ∀ lv, lk lv 0 = some (.ref 0) → ¬ (1 ≤ p ∧ p ≤ 12) → V 29 lv [.ref 0] (upI g 0 0 0) := by
      intro lv hl hx
      refine G.le _ (le1 hl) ?_
      repeat (first | refine G.sx (fun _ => false) rfl rfl rfl ?_ | refine G.gox (fun _ => false) rfl rfl rfl ?_ | refine G.getx (fun _ => false) rfl rfl rfl rfl ?_)
      exact K1 3 _ rfl (by decide) (Or.inr ⟨c1, hx, rfl⟩)
    repeat (first | refine G.sx (fun _ => false) rfl rfl rfl ?_ | refine G.gox (fun _ => false) rfl rfl rfl ?_ | refine G.getx (fun _ => false) rfl rfl rfl rfl ?_)
    refine G.br rfl rfl (fun c2 => K3 _ rfl (fun q => absurd q.1 (Int32.not_le.mpr c2))) (fun c2 => ?_)
    repeat (first | refine G.sx (fun _ => false) rfl rfl rfl ?_ | refine G.gox (fun _ => false) rfl rfl rfl ?_ | refine G.getx (fun _ => false) rfl rfl rfl rfl ?_)
    refine G.br rfl rfl (fun c3 => ?_) (fun c3 => K3 _ rfl (fun q => c3 q.2))
    have c2 : 1 ≤ p := Int32.not_lt.mp c2
    obtain ⟨q, hq2, rfl⟩ := nI_of2 (M := 12) (n := 12) (by decide) (Int32.not_lt.mpr (Int32.le_trans (by decide) c2)) c3
    have hq1 : 1 ≤ q := (nI_leI (a := 1) (by omega) (by omega)).mp c2
    repeat (first | refine G.sx (fun _ => false) rfl rfl rfl ?_ | refine G.gox (fun _ => false) rfl rfl rfl ?_ | refine G.getx (fun _ => false) rfl rfl rfl rfl ?_)
    refine G.put rfl rfl rfl ?_
    rw [upI_2]
    repeat (first | refine G.sx (fun _ => false) rfl rfl rfl ?_ | refine G.gox (fun _ => false) rfl rfl rfl ?_ | refine G.getx (fun _ => false) rfl rfl rfl rfl ?_)
    refine G.br rfl rfl (fun _ => ?_) (fun c4 => absurd (by rw [up_eq]; decide) c4)
    repeat (first | refine G.sx (fun _ => false) rfl rfl rfl ?_ | refine G.gox (fun _ => false) rfl rfl rfl ?_ | refine G.getx (fun _ => false) rfl rfl rfl rfl ?_)
    refine C.cv [] [] rfl cw_Mo_95 (d1 := 1) (by omega) (by omega) rfl rfl rfl (c_Mo_stand hSt (upI g 0 0 0)) (by decide) (fun r h1 hq => ?_)
    obtain ⟨rfl, rfl⟩ := hq
    have hMs : MdI (std (upI g 0 0 0)) n it nb own ns := (hM.up0 (by decide) (by decide) (by decide)).stL
    repeat (first | refine G.sx (fun _ => false) rfl rfl rfl ?_ | refine G.gox (fun _ => false) rfl rfl rfl ?_ | refine G.getx (fun _ => false) rfl rfl rfl rfl ?_)
    refine C.cv [] [] rfl cw_Mo_109 (d1 := 4) (by omega) (by omega) rfl rfl rfl (c_Mo_reckon hSt hMs) (by decide) (fun r h1 hq => ?_)
    obtain ⟨rfl, f9, rfl, hB9⟩ := hq
    have hM1 : MdI (setI (std (upI g 0 0 0)) 9 f9) n it nb own ns := hMs.st9
    have hB1 : BrF ((setI (std (upI g 0 0 0)) 9 f9).1 9) n (6 + ns) (fun p w => bfM own nb (fun a b => swM (std g) own a b w) p) := by rw [setI_at]; exact hB9
    show V 54 _ [] (setI (std (upI g 0 0 0)) 9 f9)
    generalize hH : setI (std (upI g 0 0 0)) 9 f9 = H at hM1 hB1 ⊢
    repeat (first | refine G.sx (fun _ => false) rfl rfl rfl ?_ | refine G.gox (fun _ => false) rfl rfl rfl ?_ | refine G.getx (fun _ => false) rfl rfl rfl rfl ?_)
    refine C.cv [] [] rfl cw_Mo_115 (d1 := 2) (by omega) (by omega) rfl rfl rfl (c_Mo_allItems hSt hM1.1) (by decide) (fun r h1 hq => ?_)
    obtain ⟨rfl, rfl⟩ := hq
    rw [hAA]
    have Ret : ∀ v : Int32, v = hdM f n q k 14 0 A 0 → ∀ pc lv, (pc = 145 ∨ pc = 154) → V pc lv [.int v] h1 := by
      intro v hv pc lv hpc
      have hx : (0 ≤ k ∧ 1 ≤ nI q ∧ nI q ≤ 12) ∧ ∃ q' f9, nI q = nI q' ∧ 1 ≤ q' ∧ q' ≤ 12 ∧ h1 = setI (std (upI g 0 0 0)) 9 f9 ∧ some (Value.int v) = some (.int (hdM f n q' k 14 0 A 0)) := ⟨⟨c1, c2, c3⟩, q, f9, rfl, hq1, hq2, hH.symm, by rw [hv]⟩
      rcases hpc with rfl | rfl
      · exact E.ri rfl (Or.inl rfl) (Or.inr ⟨r0, Or.inr (Or.inr hx)⟩)
      · exact E.ri rfl (Or.inl rfl) (Or.inr ⟨r0, Or.inr (Or.inr hx)⟩)
    have L : ∀ m r B c, m + r = 14 → r + pcN B 12 ≤ 12 → B < 4096 → hdM f n q k m r B c = hdM f n q k 14 0 A 0 → ∀ o6 o7, V 65 [some (.ref 0), some (.int (nI q)), some (.int k), some (.int (nI B)), some (.int (nI c)), some (.int (nI r)), o6, o7] [] h1 := by
      intro m
      induction m with
      | zero => intro r B c h1 h2; omega
      | succ m ih =>
        intro r B c hr hpc hB e o6 o7
        repeat (first | refine G.sx (fun _ => false) rfl rfl rfl ?_ | refine G.gox (fun _ => false) rfl rfl rfl ?_ | refine G.getx (fun _ => false) rfl rfl rfl rfl ?_)
        refine G.br rfl rfl (fun c4 => ?_) (fun c4 => ?_)
        · repeat (first | refine G.sx (fun _ => false) rfl rfl rfl ?_ | refine G.gox (fun _ => false) rfl rfl rfl ?_ | refine G.getx (fun _ => false) rfl rfl rfl rfl ?_)
          refine Ret _ ?_ _ _ (Or.inr rfl)
          rw [← e]
          simp only [hdM]
          rw [if_neg (Int32.not_le.mpr c4)]
        · have c4 : nI r ≤ k := Int32.not_lt.mp c4
          have LI : ∀ i, i ≤ n → V 80 [some (.ref 0), some (.int (nI q)), some (.int k), some (.int (nI B)), some (.int (nI (hgM f q B i).2)), some (.int (nI r)), some (.int (nI (hgM f q B i).1)), some (.int (nI i))] [] h1 := by
            refine loopUp n (fun i hi ihi => ?_) ?_
            · rw [← nI_1] at ihi
              obtain ⟨b1, b2, -, -⟩ := hgM_in (f := f) (q := q) (B := B) (p := i) (by omega)
              have Z0 : ¬ ((hgM f q B i).2 < q ∧ B.testBit i = true ∧ (f i B).isSome = true) → V 126 [some (.ref 0), some (.int (nI q)), some (.int k), some (.int (nI B)), some (.int (nI (hgM f q B i).2)), some (.int (nI r)), some (.int (nI (hgM f q B i).1)), some (.int (nI i))] [] h1 := by
                intro hx
                rw [show hgM f q B (i + 1) = hgM f q B i by simp only [hgM]; rw [if_neg hx]] at ihi
                repeat (first | refine G.sx (fun _ => false) rfl rfl rfl ?_ | refine G.gox (fun _ => false) rfl rfl rfl ?_ | refine G.getx (fun _ => false) rfl rfl rfl rfl ?_)
                refine G.go rfl ?_
                exact ihi
              repeat (first | refine G.sx (fun _ => false) rfl rfl rfl ?_ | refine G.gox (fun _ => false) rfl rfl rfl ?_ | refine G.getx (fun _ => false) rfl rfl rfl rfl ?_)
              refine G.br rfl rfl (fun c5 => absurd c5 (by rw [hM1.1.1]; exact nI_ge hi (by omega))) (fun _ => ?_)
              repeat (first | refine G.sx (fun _ => false) rfl rfl rfl ?_ | refine G.gox (fun _ => false) rfl rfl rfl ?_ | refine G.getx (fun _ => false) rfl rfl rfl rfl ?_)
              refine G.br rfl rfl (fun c5 => Z0 (fun z => absurd ((nI_leI (by omega) (by omega)).mp c5) (by omega))) (fun c5 => ?_)
              have c5 : (hgM f q B i).2 < q := Nat.lt_of_not_le (fun z => c5 (nI_le z (by omega)))
              repeat (first | refine G.sx (fun _ => false) rfl rfl rfl ?_ | refine G.gox (fun _ => false) rfl rfl rfl ?_ | refine G.getx (fun _ => false) rfl rfl rfl rfl ?_)
              refine C.cs [.int (nI B), .int (nI i)] [] rfl cw_Mo_122 (d1 := 1) (by omega) (by omega) rfl (c_Mo_has hSt _ B i (by omega) (by omega)) (by decide) (fun r2 h2 hq => ?_)
              obtain ⟨rfl, rfl⟩ := hq
              refine G.br rfl rfl (fun c6 => Z0 (fun z => i01.mp c6 z.2.1)) (fun c6 => ?_)
              have c6 : B.testBit i = true := Decidable.not_not.mp (fun z => c6 (i01.mpr z))
              repeat (first | refine G.sx (fun _ => false) rfl rfl rfl ?_ | refine G.gox (fun _ => false) rfl rfl rfl ?_ | refine G.getx (fun _ => false) rfl rfl rfl rfl ?_)
              refine C.cv [.int (nI i), .int (nI B)] [] rfl cw_Mo_126 (d1 := 3) (by omega) (by omega) rfl rfl rfl (c_Mo_wayO hSt hM1 hB1 i B (by omega) hB) (by decide) (fun r3 h3 hq => ?_)
              obtain ⟨rfl, rfl⟩ := hq
              rw [hff]
              refine G.br rfl rfl (fun c7 => Z0 (fun z => by rw [(oI_ge (fun w e => hfl i B w e)).mp c7] at z; exact absurd z.2.2 (by decide))) (fun c7 => ?_)
              have c7 : (f i B).isSome = true := by
                cases e : f i B with
                | none => exact absurd ((oI_ge (fun w e => hfl i B w e)).mpr e) c7
                | some w => rfl
              rw [show hgM f q B (i + 1) = ((hgM f q B i).1 ||| 2 ^ i, (hgM f q B i).2 + 1) by simp only [hgM]; rw [if_pos ⟨c5, c6, c7⟩]] at ihi
              have e1 : nI (hgM f q B i).1 ||| (1 : Int32) <<< (nI i &&& 31) = nI ((hgM f q B i).1 ||| 2 ^ i) := by rw [one_shl (by omega), nI_or]
              rw [← e1, ← nI_1] at ihi
              repeat (first | refine G.sx (fun _ => false) rfl rfl rfl ?_ | refine G.gox (fun _ => false) rfl rfl rfl ?_ | refine G.getx (fun _ => false) rfl rfl rfl rfl ?_)
              refine G.go rfl ?_
              exact ihi
            · obtain ⟨b1, b2, b3, b4⟩ := hgM_in (f := f) (q := q) (B := B) (p := n) n12
              repeat (first | refine G.sx (fun _ => false) rfl rfl rfl ?_ | refine G.gox (fun _ => false) rfl rfl rfl ?_ | refine G.getx (fun _ => false) rfl rfl rfl rfl ?_)
              refine G.br rfl rfl (fun _ => ?_) (fun c5 => absurd (by rw [hM1.1.1]; exact nI_le (Nat.le_refl n) (by omega)) c5)
              repeat (first | refine G.sx (fun q => Nat.beq q 138) rfl rfl rfl ?_ | refine G.gox (fun q => Nat.beq q 138) rfl rfl rfl ?_ | refine G.getx (fun q => Nat.beq q 138) rfl rfl rfl rfl ?_)
              show V 138 _ [.int (nI B &&& (nI (hgM f q B n).1 ^^^ (-1)))] _
              rw [not_g hB]
              repeat (first | refine G.sx (fun _ => false) rfl rfl rfl ?_ | refine G.gox (fun _ => false) rfl rfl rfl ?_ | refine G.getx (fun _ => false) rfl rfl rfl rfl ?_)
              refine G.br rfl rfl (fun c5 => ?_) (fun c5 => ?_)
              · have c5 : (hgM f q B n).2 ≠ 0 := fun z => c5 (by rw [z]; rfl)
                obtain ⟨j, j1, j2⟩ := b4 c5
                have hlt := pcN_sub (C := clrS B (hgM f q B n).1) (B := B) (i := j) (fun z hz => by rw [clrS_bit hB, Bool.and_eq_true] at hz; exact hz.1) ⟨(b3 j j2).1, by rw [clrS_bit hB, j2]; simp⟩ 12
                rw [if_pos (show j < 12 by omega)] at hlt
                have i1 := ih (r + 1) (clrS B (hgM f q B n).1) (hgM f q B n).2 (by omega) (by omega) (clrS_lt hB) (by rw [← e]; simp only [hdM]; rw [if_pos c4, if_neg c5])
                rw [← nI_1] at i1
                repeat (first | refine G.sx (fun _ => false) rfl rfl rfl ?_ | refine G.gox (fun _ => false) rfl rfl rfl ?_ | refine G.getx (fun _ => false) rfl rfl rfl rfl ?_)
                refine G.go rfl ?_
                exact i1 _ _
              · have c5 : (hgM f q B n).2 = 0 := (nI_eq (b := 0) (by omega) (by omega)).mp c5
                repeat (first | refine G.sx (fun _ => false) rfl rfl rfl ?_ | refine G.gox (fun _ => false) rfl rfl rfl ?_ | refine G.getx (fun _ => false) rfl rfl rfl rfl ?_)
                refine Ret _ ?_ _ _ (Or.inl rfl)
                rw [← e]
                simp only [hdM]
                rw [if_pos c4, if_pos c5]
          repeat (first | refine G.sx (fun q => Nat.beq q 80) rfl rfl rfl ?_ | refine G.gox (fun q => Nat.beq q 80) rfl rfl rfl ?_ | refine G.getx (fun q => Nat.beq q 80) rfl rfl rfl rfl ?_)
          exact LI 0 (Nat.zero_le _)
    repeat (first | refine G.sx (fun q => Nat.beq q 65) rfl rfl rfl ?_ | refine G.gox (fun q => Nat.beq q 65) rfl rfl rfl ?_ | refine G.getx (fun q => Nat.beq q 65) rfl rfl rfl rfl ?_)
    exact L 14 0 A 0 rfl (by have := pcN_le A 12; omega) hA rfl _ _
  · repeat (first | refine G.sx (fun _ => false) rfl rfl rfl ?_ | refine G.gox (fun _ => false) rfl rfl rfl ?_ | refine G.getx (fun _ => false) rfl rfl rfl rfl ?_)
    exact K1 2 _ rfl (by decide) (Or.inl ⟨c1, rfl⟩)
end MoJ
