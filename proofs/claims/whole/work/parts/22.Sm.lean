/-! SmallMoves: contracts -/
section SmC
variable {l : Launch} {D : va_G} {cA : Nat → ClassId} {ad : Nat → Nat} {St : (Nat → Prop) → State → Heap → Prop}
/-- how many small moves a cell of the cube is off its middle -/
def lenQ (q : Nat) : Nat := (max (q / 25) 2 - min (q / 25) 2) + (max (q / 5 % 5) 2 - min (q / 5 % 5) 2) + (max (q % 5) 2 - min (q % 5) 2)
/-- the number of a cell's shift -/
def scF (q : Nat) : Nat := if lenQ q ≤ 2 then ((List.range 125).filter (fun p => decide (lenQ p < lenQ q ∨ lenQ p = lenQ q ∧ p < q))).length else 0
def sx (x : Int32) : Nat := scF (62 + x).toNatClampNeg
/-- what at most k small moves can come to -/
def dl : Nat → List Int32
  | 0 => [0]
  | k + 1 => dl k ++ (dl k).flatMap (fun x => (List.range 6).map (fun j => x + mvC j))
def okx (x : Int32) : Bool := decide (0 ≤ 62 + x) && decide (62 + x < 125)
set_option maxRecDepth 100000 in
theorem dl_ok2 : (dl 2).all (fun x => okx x && decide (sx x < 25)) = true := by decide +kernel
set_option maxRecDepth 100000 in
theorem dl_ok1 : (dl 1).all (fun x => okx x && decide (sx x < 7)) = true := by decide +kernel
set_option maxRecDepth 100000 in
theorem dl_ok0 : (dl 0).all (fun x => okx x && decide (sx x < 1)) = true := by decide +kernel
theorem dl_sh {k : Nat} (hk : k ≤ 2) {x : Int32} (h : x ∈ dl k) : okx x = true ∧ sx x < shN k := by
  rcases (show k = 0 ∨ k = 1 ∨ k = 2 by omega) with rfl | rfl | rfl
  · have := List.all_eq_true.mp dl_ok0 x h
    simp only [Bool.and_eq_true, decide_eq_true_eq] at this
    exact this
  · have := List.all_eq_true.mp dl_ok1 x h
    simp only [Bool.and_eq_true, decide_eq_true_eq] at this
    exact this
  · have := List.all_eq_true.mp dl_ok2 x h
    simp only [Bool.and_eq_true, decide_eq_true_eq] at this
    exact this
theorem dl_up {k : Nat} {x : Int32} (h : x ∈ dl k) : x ∈ dl (k + 1) := List.mem_append_left _ h
theorem dl_add {k j : Nat} {x : Int32} (h : x ∈ dl k) (hj : j < 6) : x + mvC j ∈ dl (k + 1) := List.mem_append_right _ (List.mem_flatMap.mpr ⟨x, h, List.mem_map.mpr ⟨j, List.mem_range.mpr hj, rfl⟩⟩)
def opp (j : Nat) : Nat := if j % 2 = 0 then j + 1 else j - 1
theorem opp_ok : ∀ j, j < 6 → opp j < 6 ∧ mvC (opp j) = -mvC j := by decide +kernel
theorem dl_sub {k j : Nat} {x : Int32} (h : x ∈ dl k) (hj : j < 6) : x - mvC j ∈ dl (k + 1) := by
  obtain ⟨h1, h2⟩ := opp_ok j hj
  have h3 := dl_add h h1
  rw [h2] at h3
  rw [Int32.sub_eq_add_neg]
  exact h3
theorem okx_n {x : Int32} (h : okx x = true) : ∃ q, q < 125 ∧ 62 + x = nI q ∧ sx x = scF q := by
  unfold okx at h
  simp only [Bool.and_eq_true, decide_eq_true_eq] at h
  obtain ⟨q, h1, h2⟩ := (in_n (62 + x) (n := 125) (by omega)).mp ⟨h.1, h.2⟩
  refine ⟨q, h1, h2, ?_⟩
  unfold sx
  rw [h2, nI_clamp (by omega)]
/-- the constructor's table of shifts -/
def ShI (h : Hp) : Prop := ∀ q, q < 125 → h.1 17 q = nI (scF q)
/-- those that have not moved -/
def umB (mv : Nat → Int32) : Nat → Nat
  | 0 => 0
  | p + 1 => if mv p = 0 then umB mv p ||| 2 ^ p else umB mv p
theorem umB_lt (mv : Nat → Int32) : ∀ p, p ≤ 12 → umB mv p < 4096
  | 0, _ => by simp [umB]
  | p + 1, h => by
    unfold umB
    split
    · exact or_lt (umB_lt mv p (by omega)) (pw_lt (by omega))
    · exact umB_lt mv p (by omega)
theorem c_Sm_unmoved (hSt : StOk St) {h : Hp} {n : Nat} (hn : h.1 1 0 = nI n) (h12 : n ≤ 12) : Ct l y_Sm_unmoved prog_8_method_6_code 3 (some .int) (rmD 1) D cls cA slC St ad [.ref 8] h (fun r h' => r = some (.int (nI (umB (h.1 25) n))) ∧ h' = h) := by
  refine Ct.of (tl := T_Sm_unmoved) (by decide) tk_Sm_unmoved cls_ok hSt (Nat.le_of_ble_eq_true rfl) (fun V G E C => ?_)
  have L : ∀ p, p ≤ n → V 4 [some (.ref 8), some (.int (nI (umB (h.1 25) p))), some (.int (nI p))] [] h := by
    refine loopUp n (fun p hp ih => ?_) ?_
    · repeat (first | refine G.sx (fun _ => false) rfl rfl rfl ?_ | refine G.gox (fun _ => false) rfl rfl rfl ?_ | refine G.getx (fun _ => false) rfl rfl rfl rfl ?_)
      refine G.br rfl rfl (fun c1 => absurd c1 (by rw [hn]; exact nI_ge hp (by omega))) (fun _ => ?_)
      repeat (first | refine G.sx (fun _ => false) rfl rfl rfl ?_ | refine G.gox (fun _ => false) rfl rfl rfl ?_ | refine G.getx (fun _ => false) rfl rfl rfl rfl ?_)
      refine G.ialn rfl rfl (by omega) (by decide) ?_
      refine G.br rfl rfl (fun c1 => ?_) (fun c1 => ?_)
      · repeat (first | refine G.sx (fun _ => false) rfl rfl rfl ?_ | refine G.gox (fun _ => false) rfl rfl rfl ?_ | refine G.getx (fun _ => false) rfl rfl rfl rfl ?_)
        refine G.go rfl ?_
        have e1 : umB (h.1 25) (p + 1) = umB (h.1 25) p := by simp only [umB]; rw [if_neg c1]
        rw [e1, ← nI_1 p] at ih
        exact ih
      · repeat (first | refine G.sx (fun _ => false) rfl rfl rfl ?_ | refine G.gox (fun _ => false) rfl rfl rfl ?_ | refine G.getx (fun _ => false) rfl rfl rfl rfl ?_)
        refine G.go rfl ?_
        have e1 : nI (umB (h.1 25) p) ||| (1 : Int32) <<< (nI p &&& 31) = nI (umB (h.1 25) (p + 1)) := by
          rw [one_shl (by omega), nI_or]
          simp only [umB]
          rw [if_pos c1]
        rw [← e1, ← nI_1 p] at ih
        exact ih
    · repeat (first | refine G.sx (fun _ => false) rfl rfl rfl ?_ | refine G.gox (fun _ => false) rfl rfl rfl ?_ | refine G.getx (fun _ => false) rfl rfl rfl rfl ?_)
      refine G.br rfl rfl (fun _ => ?_) (fun c1 => absurd (by rw [hn]; exact nI_le (Nat.le_refl n) (by omega)) c1)
      repeat (first | refine G.sx (fun _ => false) rfl rfl rfl ?_ | refine G.gox (fun _ => false) rfl rfl rfl ?_ | refine G.getx (fun _ => false) rfl rfl rfl rfl ?_)
      exact E.ri rfl (Or.inl rfl) ⟨rfl, rfl⟩
  repeat (first | refine G.sx (fun q => Nat.beq q 4) rfl rfl rfl ?_ | refine G.gox (fun q => Nat.beq q 4) rfl rfl rfl ?_ | refine G.getx (fun q => Nat.beq q 4) rfl rfl rfl rfl ?_)
  exact L 0 (Nat.zero_le _)
/-- item i, where it has been moved to, is barred along way w: by those still there (B), or by a moved one -/
def ibB (T : Nat → Nat → Nat → Nat) (mv : Nat → Int32) (n i w B : Nat) : Bool := !(T (sx (mv i)) w i &&& B == 0) || anyB (fun o => decide (o ≠ i) && (decide (mv o ≠ 0) && (T (sx (mv i - mv o)) w i).testBit o)) n
/-- the moves made are at most k: where each item is, and how far apart -/
def MvI (mv : Nat → Int32) (n k : Nat) : Prop := (∀ i, i < n → mv i ∈ dl k) ∧ ∀ i o, i < n → o < n → mv i - mv o ∈ dl k
theorem c_Sm_isBarred (hSt : StOk St) {h : Hp} {T : Nat → Nat → Nat → Nat} {n fl k : Nat} (hn : h.1 1 0 = nI n) (h12 : n ≤ 12) (hSh : ShI h) (hk : k ≤ 2) (hfl : shN k ≤ fl) (hT : ∀ s, s < fl → TbI h s (T s)) (hM : MvI (h.1 25) n k) (i w B : Nat) (hi : i < n) (hw : w < 11) (hB : B < 4096) : Ct l y_Sm_isBarred prog_8_method_7_code 6 (some .boolean) (rmD 2) D cls cA slC St ad [.ref 8, .int (nI i), .int (nI w), .int (nI B)] h (fun r h' => r = some (.int (if ibB T (h.1 25) n i w B then 1 else 0)) ∧ h' = h) := by
  have hk25 := (shN_le k).2
  refine Ct.of (tl := T_Sm_isBarred) (by decide) tk_Sm_isBarred cls_ok hSt (Nat.le_of_ble_eq_true rfl) (fun V G E C => ?_)
  obtain ⟨hM1, hM2⟩ := hM
  obtain ⟨o1, s1⟩ := dl_sh hk (hM1 i hi)
  obtain ⟨q1, l1, e1, f1⟩ := okx_n o1
  repeat (first | refine G.sx (fun _ => false) rfl rfl rfl ?_ | refine G.gox (fun _ => false) rfl rfl rfl ?_ | refine G.getx (fun _ => false) rfl rfl rfl rfl ?_)
  refine G.ialn rfl rfl (by omega) (by decide) ?_
  refine C.cv [.int (h.1 25 i)] [.ref 5] rfl cw_Sm_72 (d1 := 1) (by omega) (by omega) rfl rfl rfl (c_Ba_shiftAt hSt h q1 l1 (h.1 25 i) e1) (Nat.le_of_ble_eq_true rfl) (fun r h' hq => ?_)
  obtain ⟨rfl, rfl⟩ := hq
  rw [hSh q1 l1, ← f1]
  have t1 := hT (sx (h'.1 25 i)) (by omega)
  repeat (first | refine G.sx (fun _ => false) rfl rfl rfl ?_ | refine G.gox (fun _ => false) rfl rfl rfl ?_ | refine G.getx (fun _ => false) rfl rfl rfl rfl ?_)
  refine C.cv [.int (nI (sx (h'.1 25 i))), .int (nI w), .int (nI i)] [] rfl cw_Sm_76 (d1 := 1) (by omega) (by omega) rfl rfl rfl (c_Ba_barsOf hSt _ w i (by omega) hw (by omega) t1) (by decide) (fun r h2 hq => ?_)
  obtain ⟨rfl, rfl⟩ := hq
  have tb := (t1 w i hw (by omega)).2
  repeat (first | refine G.sx (fun _ => false) rfl rfl rfl ?_ | refine G.gox (fun _ => false) rfl rfl rfl ?_ | refine G.getx (fun _ => false) rfl rfl rfl rfl ?_)
  refine G.br rfl rfl (fun c1 => ?_) (fun c1 => ?_)
  · have c1 := (and0 tb).mp c1
    have L : ∀ o, o ≤ n → anyB (fun o => decide (o ≠ i) && (decide (h2.1 25 o ≠ 0) && (T (sx (h2.1 25 i - h2.1 25 o)) w i).testBit o)) o = false → V 32 [some (.ref 8), some (.int (nI i)), some (.int (nI w)), some (.int (nI B)), some (.int (nI o)), none] [] h2 := by
      refine loopUp n (fun o ho ih => ?_) ?_
      · intro hf
        have no : (decide (o ≠ i) && (decide (h2.1 25 o ≠ 0) && (T (sx (h2.1 25 i - h2.1 25 o)) w i).testBit o)) = false → ∀ v5 : Option Value, V 105 [some (.ref 8), some (.int (nI i)), some (.int (nI w)), some (.int (nI B)), some (.int (nI o)), v5] [] h2 := by
          intro q v5
          have e2 := ih (by simp only [anyB, hf, q]; rfl)
          rw [← nI_1 o] at e2
          repeat (first | refine G.sx (fun _ => false) rfl rfl rfl ?_ | refine G.gox (fun _ => false) rfl rfl rfl ?_ | refine G.getx (fun _ => false) rfl rfl rfl rfl ?_)
          refine G.go rfl ?_
          refine G.le _ ?_ e2
          repeat (first | exact leL_0 | refine leL_n ?_ | refine leL_c rfl ?_)
        repeat (first | refine G.sx (fun _ => false) rfl rfl rfl ?_ | refine G.gox (fun _ => false) rfl rfl rfl ?_ | refine G.getx (fun _ => false) rfl rfl rfl rfl ?_)
        refine G.br rfl rfl (fun c2 => absurd c2 (by rw [hn]; exact nI_ge ho (by omega))) (fun _ => ?_)
        repeat (first | refine G.sx (fun _ => false) rfl rfl rfl ?_ | refine G.gox (fun _ => false) rfl rfl rfl ?_ | refine G.getx (fun _ => false) rfl rfl rfl rfl ?_)
        refine G.br rfl rfl (fun c2 => ?_) (fun c2 => ?_)
        · have c2 : o = i := (nI_eq (by omega) (by omega)).mp c2
          exact no (by simp [c2]) _
        · have c2 : o ≠ i := fun q => c2 (by rw [q])
          repeat (first | refine G.sx (fun _ => false) rfl rfl rfl ?_ | refine G.gox (fun _ => false) rfl rfl rfl ?_ | refine G.getx (fun _ => false) rfl rfl rfl rfl ?_)
          refine G.ialn rfl rfl (by omega) (by decide) ?_
          refine G.br rfl rfl (fun c3 => ?_) (fun c3 => ?_)
          · exact no (by simp [c3]) _
          · obtain ⟨o2, s2⟩ := dl_sh hk (hM2 i o hi ho)
            obtain ⟨q2, l2, e2, f2⟩ := okx_n o2
            have t2 := hT (sx (h2.1 25 i - h2.1 25 o)) (by omega)
            have tb2 := (t2 w i hw (by omega)).2
            repeat (first | refine G.sx (fun _ => false) rfl rfl rfl ?_ | refine G.gox (fun _ => false) rfl rfl rfl ?_ | refine G.getx (fun _ => false) rfl rfl rfl rfl ?_)
            refine G.ialn rfl rfl (by omega) (by decide) ?_
            repeat (first | refine G.sx (fun _ => false) rfl rfl rfl ?_ | refine G.gox (fun _ => false) rfl rfl rfl ?_ | refine G.getx (fun _ => false) rfl rfl rfl rfl ?_)
            refine G.ialn rfl rfl (by omega) (by decide) ?_
            repeat (first | refine G.sx (fun _ => false) rfl rfl rfl ?_ | refine G.gox (fun _ => false) rfl rfl rfl ?_ | refine G.getx (fun _ => false) rfl rfl rfl rfl ?_)
            refine C.cv [.int (h2.1 25 i - h2.1 25 o)] [] rfl cw_Sm_72 (d1 := 1) (by omega) (by omega) rfl rfl rfl (c_Ba_shiftAt hSt h2 q2 l2 _ e2) (by decide) (fun r h3 hq => ?_)
            obtain ⟨rfl, rfl⟩ := hq
            rw [hSh q2 l2, ← f2]
            repeat (first | refine G.sx (fun _ => false) rfl rfl rfl ?_ | refine G.gox (fun _ => false) rfl rfl rfl ?_ | refine G.getx (fun _ => false) rfl rfl rfl rfl ?_)
            refine C.cv [.int (nI (sx (h3.1 25 i - h3.1 25 o))), .int (nI w), .int (nI i)] [] rfl cw_Sm_76 (d1 := 1) (by omega) (by omega) rfl rfl rfl (c_Ba_barsOf hSt _ w i (by omega) hw (by omega) t2) (by decide) (fun r h4 hq => ?_)
            obtain ⟨rfl, rfl⟩ := hq
            repeat (first | refine G.sx (fun _ => false) rfl rfl rfl ?_ | refine G.gox (fun _ => false) rfl rfl rfl ?_ | refine G.getx (fun _ => false) rfl rfl rfl rfl ?_)
            refine G.br rfl rfl (fun c4 => ?_) (fun c4 => ?_)
            · rw [bit_at (by omega) (by omega)] at c4
              exact no (by simp [c4]) _
            · have c4 := (bit_at (by omega) (by omega)).mp c4
              repeat (first | refine G.sx (fun _ => false) rfl rfl rfl ?_ | refine G.gox (fun _ => false) rfl rfl rfl ?_ | refine G.getx (fun _ => false) rfl rfl rfl rfl ?_)
              refine E.ri rfl (Or.inr ⟨rfl, Or.inr rfl⟩) ⟨?_, rfl⟩
              rw [if_pos]
              unfold ibB
              rw [Bool.or_eq_true]
              refine Or.inr ((anyB_iff _ n).mpr ⟨o, ho, ?_⟩)
              simp [c2, c3, c4]
      · intro hf
        repeat (first | refine G.sx (fun _ => false) rfl rfl rfl ?_ | refine G.gox (fun _ => false) rfl rfl rfl ?_ | refine G.getx (fun _ => false) rfl rfl rfl rfl ?_)
        refine G.br rfl rfl (fun _ => ?_) (fun c2 => absurd (by rw [hn]; exact nI_le (Nat.le_refl n) (by omega)) c2)
        repeat (first | refine G.sx (fun _ => false) rfl rfl rfl ?_ | refine G.gox (fun _ => false) rfl rfl rfl ?_ | refine G.getx (fun _ => false) rfl rfl rfl rfl ?_)
        refine E.ri rfl (Or.inr ⟨rfl, Or.inl rfl⟩) ⟨?_, rfl⟩
        rw [if_neg]
        unfold ibB
        rw [hf, c1]
        decide
    repeat (first | refine G.sx (fun q => Nat.beq q 32) rfl rfl rfl ?_ | refine G.gox (fun q => Nat.beq q 32) rfl rfl rfl ?_ | refine G.getx (fun q => Nat.beq q 32) rfl rfl rfl rfl ?_)
    exact L 0 (Nat.zero_le _) rfl
  · have c1 : (T (sx (h2.1 25 i)) w i &&& B == 0) = false := by
      cases q : (T (sx (h2.1 25 i)) w i &&& B == 0) with
      | false => rfl
      | true => exact absurd ((and0 tb).mpr q) c1
    repeat (first | refine G.sx (fun _ => false) rfl rfl rfl ?_ | refine G.gox (fun _ => false) rfl rfl rfl ?_ | refine G.getx (fun _ => false) rfl rfl rfl rfl ?_)
    refine E.ri rfl (Or.inr ⟨rfl, Or.inr rfl⟩) ⟨?_, rfl⟩
    rw [if_pos]
    unfold ibB
    rw [c1]
    rfl
/-- some item is free in some direction, where all have been moved to -/
def sfB (T : Nat → Nat → Nat → Nat) (it : Nat → Nat) (nw n : Nat) (mv : Nat → Int32) : Bool := anyB (fun i => decide (it i = i) && anyB (fun w => !ibB T mv n i w (umB mv n)) nw) n
theorem c_Sm_isSomeFree (hSt : StOk St) {h : Hp} {T : Nat → Nat → Nat → Nat} {n fl k nw : Nat} {it : Nat → Nat} (hI : ItI h n it) (hnw : h.1 3 0 = nI nw) (h10 : nw ≤ 10) (hSh : ShI h) (hk : k ≤ 2) (hfl : shN k ≤ fl) (hT : ∀ s, s < fl → TbI h s (T s)) (hM : MvI (h.1 25) n k) : Ct l y_Sm_isSomeFree prog_8_method_5_code 4 (some .boolean) (rmD 3) D cls cA slC St ad [.ref 8] h (fun r h' => r = some (.int (if sfB T it nw n (h.1 25) then 1 else 0)) ∧ h' = h) := by
  obtain ⟨hn, h12, hit⟩ := id hI
  have hB := umB_lt (h.1 25) n h12
  generalize hf : (fun i => decide (it i = i) && anyB (fun w => !ibB T (h.1 25) n i w (umB (h.1 25) n)) nw) = f
  have hsf : sfB T it nw n (h.1 25) = anyB f n := by unfold sfB; rw [hf]
  rw [hsf]
  refine Ct.of (tl := T_Sm_isSomeFree) (by decide) tk_Sm_isSomeFree cls_ok hSt (Nat.le_of_ble_eq_true rfl) (fun V G E C => ?_)
  have La : ∀ i, i ≤ n → anyB f i = false → ∀ v3 : Option Value, V 7 [some (.ref 8), some (.int (nI (umB (h.1 25) n))), some (.int (nI i)), v3] [] h := by
    refine loopUp n (fun i hi ih => ?_) ?_
    · intro hfa v3
      have nx : f i = false → ∀ v3 : Option Value, V 60 [some (.ref 8), some (.int (nI (umB (h.1 25) n))), some (.int (nI i)), v3] [] h := by
        intro q v3
        have e2 := ih (by simp only [anyB, hfa, q]; rfl) v3
        rw [← nI_1 i] at e2
        repeat (first | refine G.sx (fun _ => false) rfl rfl rfl ?_ | refine G.gox (fun _ => false) rfl rfl rfl ?_ | refine G.getx (fun _ => false) rfl rfl rfl rfl ?_)
        refine G.go rfl ?_
        exact e2
      have Lw : ∀ w, w ≤ nw → (it i = i → anyB (fun w => !ibB T (h.1 25) n i w (umB (h.1 25) n)) w = false) → V 20 [some (.ref 8), some (.int (nI (umB (h.1 25) n))), some (.int (nI i)), some (.int (nI w))] [] h := by
        refine loopUp nw (fun w hw ihw => ?_) ?_
        · intro hfw
          repeat (first | refine G.sx (fun _ => false) rfl rfl rfl ?_ | refine G.gox (fun _ => false) rfl rfl rfl ?_ | refine G.getx (fun _ => false) rfl rfl rfl rfl ?_)
          refine G.br rfl rfl (fun c1 => absurd c1 (by rw [hnw]; exact nI_ge hw (by omega))) (fun _ => ?_)
          repeat (first | refine G.sx (fun _ => false) rfl rfl rfl ?_ | refine G.gox (fun _ => false) rfl rfl rfl ?_ | refine G.getx (fun _ => false) rfl rfl rfl rfl ?_)
          refine C.cv [.int (nI i)] [] rfl cw_Sm_53 (d1 := 2) (by omega) (by omega) rfl rfl rfl (c_It_isItem hSt hI i hi) (by decide) (fun r h' hq => ?_)
          obtain ⟨rfl, rfl⟩ := hq
          by_cases hii : it i = i
          · rw [if_pos hii]
            refine G.br rfl rfl (fun c1 => absurd c1 (by decide)) (fun _ => ?_)
            repeat (first | refine G.sx (fun _ => false) rfl rfl rfl ?_ | refine G.gox (fun _ => false) rfl rfl rfl ?_ | refine G.getx (fun _ => false) rfl rfl rfl rfl ?_)
            refine C.cv [.int (nI i), .int (nI w), .int (nI (umB (h'.1 25) n))] [] rfl cw_Sm_63 (d1 := 2) (by omega) (by omega) rfl rfl rfl (c_Sm_isBarred hSt hn h12 hSh hk hfl hT hM i w _ hi (by omega) hB) (by decide) (fun r h2 hq => ?_)
            obtain ⟨rfl, rfl⟩ := hq
            by_cases hib : ibB T (h2.1 25) n i w (umB (h2.1 25) n) = true
            · rw [if_pos hib]
              refine G.br rfl rfl (fun _ => ?_) (fun c1 => absurd c1 (by decide))
              have e2 := ihw (fun q => by simp only [anyB, hfw q, hib]; rfl)
              rw [← nI_1 w] at e2
              repeat (first | refine G.sx (fun _ => false) rfl rfl rfl ?_ | refine G.gox (fun _ => false) rfl rfl rfl ?_ | refine G.getx (fun _ => false) rfl rfl rfl rfl ?_)
              refine G.go rfl ?_
              exact e2
            · rw [if_neg hib]
              refine G.br rfl rfl (fun c1 => absurd rfl c1) (fun _ => ?_)
              repeat (first | refine G.sx (fun _ => false) rfl rfl rfl ?_ | refine G.gox (fun _ => false) rfl rfl rfl ?_ | refine G.getx (fun _ => false) rfl rfl rfl rfl ?_)
              refine E.ri rfl (Or.inr ⟨rfl, Or.inr rfl⟩) ⟨?_, rfl⟩
              rw [if_pos]
              refine (anyB_iff f n).mpr ⟨i, hi, ?_⟩
              rw [← hf]
              simp only [hii, decide_true, Bool.true_and]
              exact (anyB_iff _ nw).mpr ⟨w, hw, by simp [hib]⟩
          · rw [if_neg hii]
            refine G.br rfl rfl (fun _ => ?_) (fun c1 => absurd rfl c1)
            exact nx (by rw [← hf]; simp [hii]) _
        · intro hfw
          repeat (first | refine G.sx (fun _ => false) rfl rfl rfl ?_ | refine G.gox (fun _ => false) rfl rfl rfl ?_ | refine G.getx (fun _ => false) rfl rfl rfl rfl ?_)
          refine G.br rfl rfl (fun _ => ?_) (fun c1 => absurd (by rw [hnw]; exact nI_le (Nat.le_refl nw) (by omega)) c1)
          refine nx ?_ _
          rw [← hf]
          by_cases q : it i = i
          · show (decide (it i = i) && anyB (fun w => !ibB T (h.1 25) n i w (umB (h.1 25) n)) nw) = false
            rw [hfw q, Bool.and_false]
          · simp [q]
      repeat (first | refine G.sx (fun _ => false) rfl rfl rfl ?_ | refine G.gox (fun _ => false) rfl rfl rfl ?_ | refine G.getx (fun _ => false) rfl rfl rfl rfl ?_)
      refine G.br rfl rfl (fun c1 => absurd c1 (by rw [hn]; exact nI_ge hi (by omega))) (fun _ => ?_)
      repeat (first | refine G.sx (fun q => Nat.beq q 20) rfl rfl rfl ?_ | refine G.gox (fun q => Nat.beq q 20) rfl rfl rfl ?_ | refine G.getx (fun q => Nat.beq q 20) rfl rfl rfl rfl ?_)
      exact Lw 0 (Nat.zero_le _) (fun _ => rfl)
    · intro hfa v3
      repeat (first | refine G.sx (fun _ => false) rfl rfl rfl ?_ | refine G.gox (fun _ => false) rfl rfl rfl ?_ | refine G.getx (fun _ => false) rfl rfl rfl rfl ?_)
      refine G.br rfl rfl (fun _ => ?_) (fun c1 => absurd (by rw [hn]; exact nI_le (Nat.le_refl n) (by omega)) c1)
      repeat (first | refine G.sx (fun _ => false) rfl rfl rfl ?_ | refine G.gox (fun _ => false) rfl rfl rfl ?_ | refine G.getx (fun _ => false) rfl rfl rfl rfl ?_)
      refine E.ri rfl (Or.inr ⟨rfl, Or.inl rfl⟩) ⟨?_, rfl⟩
      rw [if_neg (by rw [hfa]; decide)]
  repeat (first | refine G.sx (fun _ => false) rfl rfl rfl ?_ | refine G.gox (fun _ => false) rfl rfl rfl ?_ | refine G.getx (fun _ => false) rfl rfl rfl rfl ?_)
  refine C.cv [] [] rfl cw_Sm_59 (d1 := 1) (by omega) (by omega) rfl rfl rfl (c_Sm_unmoved hSt hn h12) (by decide) (fun r h' hq => ?_)
  obtain ⟨rfl, rfl⟩ := hq
  repeat (first | refine G.sx (fun q => Nat.beq q 7) rfl rfl rfl ?_ | refine G.gox (fun q => Nat.beq q 7) rfl rfl rfl ?_ | refine G.getx (fun q => Nat.beq q 7) rfl rfl rfl rfl ?_)
  exact La 0 (Nat.zero_le _) rfl none
end SmC
