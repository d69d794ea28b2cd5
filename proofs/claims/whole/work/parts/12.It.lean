/-! Items: contracts -/
section ItC
variable {l : Launch} {D : va_G} {cA : Nat → ClassId} {ad : Nat → Nat} {St : (Nat → Prop) → State → Heap → Prop}
/-- the items' cells hold n parts with the items it -/
def ItI (h : Hp) (n : Nat) (it : Nat → Nat) : Prop := h.1 1 0 = nI n ∧ n ≤ 12 ∧ ∀ i, i < n → h.1 9 i = nI (it i) ∧ it i ≤ i
def allB (it : Nat → Nat) : Nat → Nat
  | 0 => 0
  | p + 1 => allB it p ||| 2 ^ it p
def pOf (it : Nat → Nat) (B : Nat) : Nat → Nat
  | 0 => 0
  | p + 1 => if B.testBit (it p) then pOf it B p ||| 2 ^ p else pOf it B p
/-- the k-th bit of a set, from place i on, with b bits seen -/
def bAt (B : Nat) (k : Int32) : Nat → Nat → Int32 → Int32
  | 0, _, _ => -1
  | m + 1, i, b => if B.testBit i then (if b = k then nI i else bAt B k m (i + 1) (b + 1)) else bAt B k m (i + 1) b
theorem c_It_has (hSt : StOk St) (h : Hp) (x : Int32) : Ct l y_It_has prog_5_method_2_code 2 (some .boolean) (rmD 1) D cls cA slC St ad [.ref 1, .int x] h (fun r h' => r = some (.int (if 0 ≤ x ∧ x < h.1 1 0 then 1 else 0)) ∧ h' = h) := by
  refine Ct.of (tl := T_It_has) (by decide) tk_It_has cls_ok hSt (Nat.le_of_ble_eq_true rfl) (fun V G E C => ?_)
  repeat (first | refine G.sx (fun _ => false) rfl rfl rfl ?_ | refine G.gox (fun _ => false) rfl rfl rfl ?_ | refine G.getx (fun _ => false) rfl rfl rfl rfl ?_)
  refine G.br rfl rfl (fun c1 => ?_) (fun c1 => ?_)
  · repeat (first | refine G.sx (fun _ => false) rfl rfl rfl ?_ | refine G.gox (fun _ => false) rfl rfl rfl ?_ | refine G.getx (fun _ => false) rfl rfl rfl rfl ?_)
    refine E.ri rfl (Or.inr ⟨rfl, Or.inl rfl⟩) ⟨?_, rfl⟩
    rw [if_neg (fun q => absurd q.1 (Int32.not_le.mpr c1))]
  · repeat (first | refine G.sx (fun _ => false) rfl rfl rfl ?_ | refine G.gox (fun _ => false) rfl rfl rfl ?_ | refine G.getx (fun _ => false) rfl rfl rfl rfl ?_)
    refine G.br rfl rfl (fun c2 => ?_) (fun c2 => ?_)
    · repeat (first | refine G.sx (fun _ => false) rfl rfl rfl ?_ | refine G.gox (fun _ => false) rfl rfl rfl ?_ | refine G.getx (fun _ => false) rfl rfl rfl rfl ?_)
      refine E.ri rfl (Or.inr ⟨rfl, Or.inl rfl⟩) ⟨?_, rfl⟩
      rw [if_neg (fun q => absurd q.2 (Int32.not_lt.mpr c2))]
    · repeat (first | refine G.sx (fun _ => false) rfl rfl rfl ?_ | refine G.gox (fun _ => false) rfl rfl rfl ?_ | refine G.getx (fun _ => false) rfl rfl rfl rfl ?_)
      refine E.ri rfl (Or.inr ⟨rfl, Or.inr rfl⟩) ⟨?_, rfl⟩
      rw [if_pos ⟨Int32.not_lt.mp c1, Int32.not_le.mp c2⟩]
theorem c_It_bitAt (hSt : StOk St) (h : Hp) (B : Nat) (hB : B < 2 ^ 31) (k : Int32) : Ct l y_It_bitAt prog_5_method_3_code 4 (some .int) (rmD 1) D cls cA slC St ad [.int (nI B), .int k] h (fun r h' => r = some (.int (bAt B k 12 0 0)) ∧ h' = h) := by
  refine Ct.of (tl := T_It_bitAt) (by decide) tk_It_bitAt cls_ok hSt (Nat.le_of_ble_eq_true rfl) (fun V G E C => ?_)
  have L : ∀ (m i : Nat) (b : Int32), m + i = 12 → bAt B k m i b = bAt B k 12 0 0 → V 4 [some (.int (nI B)), some (.int k), some (.int b), some (.int (nI i))] [] h := by
    intro m
    induction m with
    | zero =>
      intro i b hi e
      repeat (first | refine G.sx (fun _ => false) rfl rfl rfl ?_ | refine G.gox (fun _ => false) rfl rfl rfl ?_ | refine G.getx (fun _ => false) rfl rfl rfl rfl ?_)
      refine G.br rfl rfl (fun c1 => ?_) (fun c1 => ?_)
      · repeat (first | refine G.sx (fun _ => false) rfl rfl rfl ?_ | refine G.gox (fun _ => false) rfl rfl rfl ?_ | refine G.getx (fun _ => false) rfl rfl rfl rfl ?_)
        exact E.ri rfl (Or.inl rfl) ⟨by rw [← e]; rfl, rfl⟩
      · exact absurd (by rw [show i = 12 by omega]; decide) c1
    | succ m ih =>
      intro i b hi e
      repeat (first | refine G.sx (fun _ => false) rfl rfl rfl ?_ | refine G.gox (fun _ => false) rfl rfl rfl ?_ | refine G.getx (fun _ => false) rfl rfl rfl rfl ?_)
      refine G.br rfl rfl (fun c1 => ?_) (fun c1 => ?_)
      · exact absurd c1 (nI_ge (b := 12) (by omega) (by omega))
      · repeat (first | refine G.sx (fun _ => false) rfl rfl rfl ?_ | refine G.gox (fun _ => false) rfl rfl rfl ?_ | refine G.getx (fun _ => false) rfl rfl rfl rfl ?_)
        refine G.br rfl rfl (fun c2 => ?_) (fun c2 => ?_)
        · rw [bit_at hB (by omega)] at c2
          repeat (first | refine G.sx (fun _ => false) rfl rfl rfl ?_ | refine G.gox (fun _ => false) rfl rfl rfl ?_ | refine G.getx (fun _ => false) rfl rfl rfl rfl ?_)
          refine G.go rfl ?_
          have e2 := ih (i + 1) b (by omega) (by rw [← e]; simp [bAt, c2])
          rw [← nI_1] at e2
          exact e2
        · have c3 := (bit_at hB (by omega)).mp c2
          repeat (first | refine G.sx (fun _ => false) rfl rfl rfl ?_ | refine G.gox (fun _ => false) rfl rfl rfl ?_ | refine G.getx (fun _ => false) rfl rfl rfl rfl ?_)
          refine G.br rfl rfl (fun c4 => ?_) (fun c4 => ?_)
          · repeat (first | refine G.sx (fun _ => false) rfl rfl rfl ?_ | refine G.gox (fun _ => false) rfl rfl rfl ?_ | refine G.getx (fun _ => false) rfl rfl rfl rfl ?_)
            refine G.go rfl ?_
            have e2 := ih (i + 1) (b + 1) (by omega) (by rw [← e]; simp [bAt, c3, c4])
            rw [← nI_1] at e2
            exact e2
          · repeat (first | refine G.sx (fun _ => false) rfl rfl rfl ?_ | refine G.gox (fun _ => false) rfl rfl rfl ?_ | refine G.getx (fun _ => false) rfl rfl rfl rfl ?_)
            exact E.ri rfl (Or.inl rfl) ⟨by rw [← e]; simp [bAt, c3, c4], rfl⟩
  repeat (first | refine G.sx (fun q => Nat.beq q 4) rfl rfl rfl ?_ | refine G.gox (fun q => Nat.beq q 4) rfl rfl rfl ?_ | refine G.getx (fun q => Nat.beq q 4) rfl rfl rfl rfl ?_)
  exact L 12 0 0 rfl rfl
theorem c_It_all (hSt : StOk St) {h : Hp} {n : Nat} {it : Nat → Nat} (hI : ItI h n it) : Ct l y_It_all prog_5_method_7_code 3 (some .int) (rmD 1) D cls cA slC St ad [.ref 1] h (fun r h' => r = some (.int (nI (allB it n))) ∧ h' = h) := by
  obtain ⟨hn, hn12, hit⟩ := hI
  refine Ct.of (tl := T_It_all) (by decide) tk_It_all cls_ok hSt (Nat.le_of_ble_eq_true rfl) (fun V G E C => ?_)
  have L : ∀ p, p ≤ n → V 4 [some (.ref 1), some (.int (nI (allB it p))), some (.int (nI p))] [] h := by
    refine loopUp n (fun p hp ih => ?_) ?_
    · repeat (first | refine G.sx (fun _ => false) rfl rfl rfl ?_ | refine G.gox (fun _ => false) rfl rfl rfl ?_ | refine G.getx (fun _ => false) rfl rfl rfl rfl ?_)
      refine G.br rfl rfl (fun c1 => ?_) (fun c1 => ?_)
      · exact absurd c1 (by rw [hn]; exact nI_ge hp (by omega))
      · repeat (first | refine G.sx (fun _ => false) rfl rfl rfl ?_ | refine G.gox (fun _ => false) rfl rfl rfl ?_ | refine G.getx (fun _ => false) rfl rfl rfl rfl ?_)
        refine G.ialn rfl rfl (by omega) (by decide) ?_
        rw [(hit p hp).1]
        repeat (first | refine G.sx (fun _ => false) rfl rfl rfl ?_ | refine G.gox (fun _ => false) rfl rfl rfl ?_ | refine G.getx (fun _ => false) rfl rfl rfl rfl ?_)
        refine G.go rfl ?_
        have e1 : nI (allB it p) ||| (1 : Int32) <<< (nI (it p) &&& 31) = nI (allB it (p + 1)) := by
          rw [one_shl (by have := (hit p hp).2; omega), nI_or]
          rfl
        rw [← e1, ← nI_1] at ih
        exact ih
    · repeat (first | refine G.sx (fun _ => false) rfl rfl rfl ?_ | refine G.gox (fun _ => false) rfl rfl rfl ?_ | refine G.getx (fun _ => false) rfl rfl rfl rfl ?_)
      refine G.br rfl rfl (fun c1 => ?_) (fun c1 => ?_)
      · repeat (first | refine G.sx (fun _ => false) rfl rfl rfl ?_ | refine G.gox (fun _ => false) rfl rfl rfl ?_ | refine G.getx (fun _ => false) rfl rfl rfl rfl ?_)
        exact E.ri rfl (Or.inl rfl) ⟨rfl, rfl⟩
      · exact absurd (by rw [hn]; exact nI_le (Nat.le_refl n) (by omega)) c1
  repeat (first | refine G.sx (fun q => Nat.beq q 4) rfl rfl rfl ?_ | refine G.gox (fun q => Nat.beq q 4) rfl rfl rfl ?_ | refine G.getx (fun q => Nat.beq q 4) rfl rfl rfl rfl ?_)
  exact L 0 (Nat.zero_le _)
theorem c_It_partsOf (hSt : StOk St) {h : Hp} {n : Nat} {it : Nat → Nat} (hI : ItI h n it) (B : Nat) (hB : B < 4096) : Ct l y_It_partsOf prog_5_method_8_code 4 (some .int) (rmD 1) D cls cA slC St ad [.ref 1, .int (nI B)] h (fun r h' => r = some (.int (nI (pOf it B n))) ∧ h' = h) := by
  obtain ⟨hn, hn12, hit⟩ := hI
  refine Ct.of (tl := T_It_partsOf) (by decide) tk_It_partsOf cls_ok hSt (Nat.le_of_ble_eq_true rfl) (fun V G E C => ?_)
  have L : ∀ p, p ≤ n → V 4 [some (.ref 1), some (.int (nI B)), some (.int (nI (pOf it B p))), some (.int (nI p))] [] h := by
    refine loopUp n (fun p hp ih => ?_) ?_
    · repeat (first | refine G.sx (fun _ => false) rfl rfl rfl ?_ | refine G.gox (fun _ => false) rfl rfl rfl ?_ | refine G.getx (fun _ => false) rfl rfl rfl rfl ?_)
      refine G.br rfl rfl (fun c1 => ?_) (fun c1 => ?_)
      · exact absurd c1 (by rw [hn]; exact nI_ge hp (by omega))
      · repeat (first | refine G.sx (fun _ => false) rfl rfl rfl ?_ | refine G.gox (fun _ => false) rfl rfl rfl ?_ | refine G.getx (fun _ => false) rfl rfl rfl rfl ?_)
        refine G.ialn rfl rfl (by omega) (by decide) ?_
        rw [(hit p hp).1]
        have hi := (hit p hp).2
        repeat (first | refine G.sx (fun _ => false) rfl rfl rfl ?_ | refine G.gox (fun _ => false) rfl rfl rfl ?_ | refine G.getx (fun _ => false) rfl rfl rfl rfl ?_)
        refine G.br rfl rfl (fun c2 => ?_) (fun c2 => ?_)
        · rw [bit_at (by omega) (by omega)] at c2
          repeat (first | refine G.sx (fun _ => false) rfl rfl rfl ?_ | refine G.gox (fun _ => false) rfl rfl rfl ?_ | refine G.getx (fun _ => false) rfl rfl rfl rfl ?_)
          refine G.go rfl ?_
          have e1 : pOf it B (p + 1) = pOf it B p := by simp [pOf, c2]
          rw [e1, ← nI_1] at ih
          exact ih
        · have c3 := (bit_at (by omega) (by omega)).mp c2
          repeat (first | refine G.sx (fun _ => false) rfl rfl rfl ?_ | refine G.gox (fun _ => false) rfl rfl rfl ?_ | refine G.getx (fun _ => false) rfl rfl rfl rfl ?_)
          refine G.go rfl ?_
          have e1 : nI (pOf it B p) ||| (1 : Int32) <<< (nI p &&& 31) = nI (pOf it B (p + 1)) := by
            rw [one_shl (by omega), nI_or]
            simp [pOf, c3]
          rw [← e1, ← nI_1] at ih
          exact ih
    · repeat (first | refine G.sx (fun _ => false) rfl rfl rfl ?_ | refine G.gox (fun _ => false) rfl rfl rfl ?_ | refine G.getx (fun _ => false) rfl rfl rfl rfl ?_)
      refine G.br rfl rfl (fun c1 => ?_) (fun c1 => ?_)
      · repeat (first | refine G.sx (fun _ => false) rfl rfl rfl ?_ | refine G.gox (fun _ => false) rfl rfl rfl ?_ | refine G.getx (fun _ => false) rfl rfl rfl rfl ?_)
        exact E.ri rfl (Or.inl rfl) ⟨rfl, rfl⟩
      · exact absurd (by rw [hn]; exact nI_le (Nat.le_refl n) (by omega)) c1
  repeat (first | refine G.sx (fun q => Nat.beq q 4) rfl rfl rfl ?_ | refine G.gox (fun q => Nat.beq q 4) rfl rfl rfl ?_ | refine G.getx (fun q => Nat.beq q 4) rfl rfl rfl rfl ?_)
  exact L 0 (Nat.zero_le _)
theorem c_It_isItem (hSt : StOk St) {h : Hp} {n : Nat} {it : Nat → Nat} (hI : ItI h n it) (p : Nat) (hp : p < n) : Ct l y_It_isItem prog_5_method_4_code 2 (some .boolean) (rmD 2) D cls cA slC St ad [.ref 1, .int (nI p)] h (fun r h' => r = some (.int (if it p = p then 1 else 0)) ∧ h' = h) := by
  obtain ⟨hn, hn12, hit⟩ := hI
  refine Ct.of (tl := T_It_isItem) (by decide) tk_It_isItem cls_ok hSt (Nat.le_of_ble_eq_true rfl) (fun V G E C => ?_)
  repeat (first | refine G.sx (fun _ => false) rfl rfl rfl ?_ | refine G.gox (fun _ => false) rfl rfl rfl ?_ | refine G.getx (fun _ => false) rfl rfl rfl rfl ?_)
  refine C.cv [.int (nI p)] [] rfl cw_It_19 (d1 := 1) (by omega) (by omega) rfl rfl rfl (c_It_has hSt h (nI p)) (by decide) (fun r h' hq => ?_)
  obtain ⟨rfl, rfl⟩ := hq
  rw [if_pos ⟨nI_pos' (by omega), by rw [hn]; exact nI_lt hp (by omega)⟩]
  refine G.br rfl rfl (fun c1 => absurd c1 (by decide)) (fun _ => ?_)
  repeat (first | refine G.sx (fun _ => false) rfl rfl rfl ?_ | refine G.gox (fun _ => false) rfl rfl rfl ?_ | refine G.getx (fun _ => false) rfl rfl rfl rfl ?_)
  refine G.ialn rfl rfl (by omega) (by decide) ?_
  rw [(hit p hp).1]
  repeat (first | refine G.sx (fun _ => false) rfl rfl rfl ?_ | refine G.gox (fun _ => false) rfl rfl rfl ?_ | refine G.getx (fun _ => false) rfl rfl rfl rfl ?_)
  refine G.br rfl rfl (fun c1 => ?_) (fun c1 => ?_)
  · repeat (first | refine G.sx (fun _ => false) rfl rfl rfl ?_ | refine G.gox (fun _ => false) rfl rfl rfl ?_ | refine G.getx (fun _ => false) rfl rfl rfl rfl ?_)
    refine E.ri rfl (Or.inr ⟨rfl, Or.inl rfl⟩) ⟨?_, rfl⟩
    rw [if_neg (fun q => c1 (by rw [q]))]
  · repeat (first | refine G.sx (fun _ => false) rfl rfl rfl ?_ | refine G.gox (fun _ => false) rfl rfl rfl ?_ | refine G.getx (fun _ => false) rfl rfl rfl rfl ?_)
    refine E.ri rfl (Or.inr ⟨rfl, Or.inr rfl⟩) ⟨?_, rfl⟩
    rw [if_pos ((nI_eq (by have := (hit p hp).2; omega) (by omega)).mp c1)]
theorem c_It_addPart (hSt : StOk St) {h : Hp} {n : Nat} (hn : h.1 1 0 = nI n) (hn12 : n < 12) : Ct l y_It_addPart prog_5_method_5_code 1 (some .int) (rmD 1) D cls cA slC St ad [.ref 1] h (fun r h' => r = some (.int (nI n)) ∧ h' = upI (upI h 9 n (nI n)) 1 0 (nI (n + 1))) := by
  refine Ct.of (tl := T_It_addPart) (by decide) tk_It_addPart cls_ok hSt (Nat.le_of_ble_eq_true rfl) (fun V G E C => ?_)
  repeat (first | refine G.sx (fun _ => false) rfl rfl rfl ?_ | refine G.gox (fun _ => false) rfl rfl rfl ?_ | refine G.getx (fun _ => false) rfl rfl rfl rfl ?_)
  refine G.br rfl rfl (fun c1 => ?_) (fun c1 => absurd (by rw [hn]; exact nI_lt (b := 12) hn12 (by omega)) c1)
  repeat (first | refine G.sx (fun _ => false) rfl rfl rfl ?_ | refine G.gox (fun _ => false) rfl rfl rfl ?_ | refine G.getx (fun _ => false) rfl rfl rfl rfl ?_)
  show V 23 _ [.int (h.1 1 0), .int (h.1 1 0), .ref 9] _
  rw [hn]
  refine G.iasn rfl rfl hn12 (by decide) ?_
  repeat (first | refine G.sx (fun _ => false) rfl rfl rfl ?_ | refine G.gox (fun _ => false) rfl rfl rfl ?_ | refine G.getx (fun _ => false) rfl rfl rfl rfl ?_)
  show V 31 _ [.int (h.1 1 0 + 1), .ref 1] _
  rw [hn, nI_1]
  refine G.put rfl rfl rfl ?_
  repeat (first | refine G.sx (fun _ => false) rfl rfl rfl ?_ | refine G.gox (fun _ => false) rfl rfl rfl ?_ | refine G.getx (fun _ => false) rfl rfl rfl rfl ?_)
  show V 40 _ [.int (nI (n + 1) - 1)] _
  rw [nI_pred]
  exact E.ri rfl (Or.inl rfl) ⟨rfl, rfl⟩
/-- what the items are behind join -/
def jnF (it : Nat → Nat) (a b : Nat) (p : Nat) : Nat := if it p = max (it a) (it b) then min (it a) (it b) else it p
theorem c_It_join (hSt : StOk St) {h : Hp} {n : Nat} {it : Nat → Nat} (hI : ItI h n it) (a b : Nat) (ha : a < n) (hb : b < n) : Ct l y_It_join prog_5_method_6_code 6 (some .boolean) (rmD 2) D cls cA slC St ad [.ref 1, .int (nI a), .int (nI b)] h (fun r h' => (it a = it b ∧ r = some (.int 0) ∧ h' = h) ∨ (it a ≠ it b ∧ r = some (.int 1) ∧ h' = setI h 9 (fun j => if j < n then nI (jnF it a b j) else h.1 9 j))) := by
  obtain ⟨hn, hn12, hit⟩ := hI
  have qa := (hit a ha).2
  have qb := (hit b hb).2
  refine Ct.ofX (tl := T_It_join) _ (Mx_ok (by decide)) (by decide) tk_It_join cls_ok hSt (Nat.le_of_ble_eq_true rfl) (fun V G E C M => ?_)
  repeat (first | refine G.sx (fun _ => false) rfl rfl rfl ?_ | refine G.gox (fun _ => false) rfl rfl rfl ?_ | refine G.getx (fun _ => false) rfl rfl rfl rfl ?_)
  refine C.cv [.int (nI a)] [] rfl cw_It_19 (d1 := 1) (by omega) (by omega) rfl rfl rfl (c_It_has hSt h (nI a)) (by decide) (fun r h' hq => ?_)
  obtain ⟨rfl, rfl⟩ := hq
  rw [if_pos ⟨nI_pos' (by omega), by rw [hn]; exact nI_lt ha (by omega)⟩]
  refine G.br rfl rfl (fun c1 => absurd c1 (by decide)) (fun _ => ?_)
  repeat (first | refine G.sx (fun _ => false) rfl rfl rfl ?_ | refine G.gox (fun _ => false) rfl rfl rfl ?_ | refine G.getx (fun _ => false) rfl rfl rfl rfl ?_)
  refine C.cv [.int (nI b)] [] rfl cw_It_19 (d1 := 1) (by omega) (by omega) rfl rfl rfl (c_It_has hSt _ (nI b)) (by decide) (fun r h' hq => ?_)
  obtain ⟨rfl, rfl⟩ := hq
  rw [if_pos ⟨nI_pos' (by omega), by rw [hn]; exact nI_lt hb (by omega)⟩]
  refine G.br rfl rfl (fun c1 => absurd c1 (by decide)) (fun _ => ?_)
  repeat (first | refine G.sx (fun _ => false) rfl rfl rfl ?_ | refine G.gox (fun _ => false) rfl rfl rfl ?_ | refine G.getx (fun _ => false) rfl rfl rfl rfl ?_)
  refine G.ialn rfl rfl (by omega) (by decide) ?_
  rw [(hit a ha).1]
  repeat (first | refine G.sx (fun _ => false) rfl rfl rfl ?_ | refine G.gox (fun _ => false) rfl rfl rfl ?_ | refine G.getx (fun _ => false) rfl rfl rfl rfl ?_)
  refine G.ialn rfl rfl (by omega) (by decide) ?_
  rw [(hit b hb).1]
  refine G.br rfl rfl (fun c1 => ?_) (fun c1 => ?_)
  · have c1 : it a ≠ it b := fun q => c1 (by rw [q])
    repeat (first | refine G.sx (fun _ => false) rfl rfl rfl ?_ | refine G.gox (fun _ => false) rfl rfl rfl ?_ | refine G.getx (fun _ => false) rfl rfl rfl rfl ?_)
    refine G.ialn rfl rfl (by omega) (by decide) ?_
    rw [(hit a ha).1]
    repeat (first | refine G.sx (fun _ => false) rfl rfl rfl ?_ | refine G.gox (fun _ => false) rfl rfl rfl ?_ | refine G.getx (fun _ => false) rfl rfl rfl rfl ?_)
    refine G.ialn rfl rfl (by omega) (by decide) ?_
    rw [(hit b hb).1]
    refine M.m 2 rfl ml_It_23 rfl (by decide) ?_
    have e1 : (if nI (it b) < nI (it a) then nI (it b) else nI (it a)) = nI (min (it a) (it b)) := by
      by_cases q : it b < it a
      · rw [if_pos (nI_lt q (by omega)), Nat.min_eq_right (by omega)]
      · rw [if_neg (nI_nlt (by omega) (by omega)), Nat.min_eq_left (by omega)]
    rw [e1]
    repeat (first | refine G.sx (fun _ => false) rfl rfl rfl ?_ | refine G.gox (fun _ => false) rfl rfl rfl ?_ | refine G.getx (fun _ => false) rfl rfl rfl rfl ?_)
    refine G.ialn rfl rfl (by omega) (by decide) ?_
    rw [(hit a ha).1]
    repeat (first | refine G.sx (fun _ => false) rfl rfl rfl ?_ | refine G.gox (fun _ => false) rfl rfl rfl ?_ | refine G.getx (fun _ => false) rfl rfl rfl rfl ?_)
    refine G.ialn rfl rfl (by omega) (by decide) ?_
    rw [(hit b hb).1]
    refine M.m 3 rfl ml_It_29 rfl (by decide) ?_
    have e2 : (if nI (it a) < nI (it b) then nI (it b) else nI (it a)) = nI (max (it a) (it b)) := by
      by_cases q : it a < it b
      · rw [if_pos (nI_lt q (by omega)), Nat.max_eq_right (by omega)]
      · rw [if_neg (nI_nlt (by omega) (by omega)), Nat.max_eq_left (by omega)]
    rw [e2]
    have L : ∀ p, p ≤ n → V 69 [some (.ref 1), some (.int (nI a)), some (.int (nI b)), some (.int (nI (min (it a) (it b)))), some (.int (nI (max (it a) (it b)))), some (.int (nI p))] [] (setI h' 9 (fun j => if j < p then nI (jnF it a b j) else h'.1 9 j)) := by
      refine loopUp n (fun p hp ih => ?_) ?_
      · have qp := (hit p hp).2
        repeat (first | refine G.sx (fun _ => false) rfl rfl rfl ?_ | refine G.gox (fun _ => false) rfl rfl rfl ?_ | refine G.getx (fun _ => false) rfl rfl rfl rfl ?_)
        refine G.br rfl rfl (fun c2 => absurd c2 (by show ¬ h'.1 1 0 ≤ nI p; rw [hn]; exact nI_ge hp (by omega))) (fun c2 => ?_)
        repeat (first | refine G.sx (fun _ => false) rfl rfl rfl ?_ | refine G.gox (fun _ => false) rfl rfl rfl ?_ | refine G.getx (fun _ => false) rfl rfl rfl rfl ?_)
        refine G.ialn rfl rfl (by omega) (by decide) ?_
        have e3 : (setI h' 9 (fun j => if j < p then nI (jnF it a b j) else h'.1 9 j)).1 9 p = nI (it p) := by
          rw [setI_at, if_neg (by omega)]
          exact (hit p hp).1
        rw [e3]
        repeat (first | refine G.sx (fun _ => false) rfl rfl rfl ?_ | refine G.gox (fun _ => false) rfl rfl rfl ?_ | refine G.getx (fun _ => false) rfl rfl rfl rfl ?_)
        refine G.br rfl rfl (fun c3 => ?_) (fun c3 => ?_)
        · have c3 : it p ≠ max (it a) (it b) := fun q => c3 (by rw [q])
          repeat (first | refine G.sx (fun _ => false) rfl rfl rfl ?_ | refine G.gox (fun _ => false) rfl rfl rfl ?_ | refine G.getx (fun _ => false) rfl rfl rfl rfl ?_)
          refine G.go rfl ?_
          have e4 : (fun j => if j < p then nI (jnF it a b j) else h'.1 9 j) = (fun j => if j < p + 1 then nI (jnF it a b j) else h'.1 9 j) := by
            funext j
            by_cases e : j = p
            · subst e
              simp [jnF, c3, (hit j hp).1]
            · by_cases e2 : j < p
              · simp [e2, show j < p + 1 by omega]
              · simp [e2, show ¬ j < p + 1 by omega]
          rw [e4]
          rw [← nI_1] at ih
          exact ih
        · have c3 : it p = max (it a) (it b) := (nI_eq (by omega) (by omega)).mp c3
          repeat (first | refine G.sx (fun _ => false) rfl rfl rfl ?_ | refine G.gox (fun _ => false) rfl rfl rfl ?_ | refine G.getx (fun _ => false) rfl rfl rfl rfl ?_)
          refine G.iasn rfl rfl (by omega) (by decide) ?_
          repeat (first | refine G.sx (fun _ => false) rfl rfl rfl ?_ | refine G.gox (fun _ => false) rfl rfl rfl ?_ | refine G.getx (fun _ => false) rfl rfl rfl rfl ?_)
          refine G.go rfl ?_
          rw [upI_setI]
          have e4 : upd (fun j => if j < p then nI (jnF it a b j) else h'.1 9 j) p (nI (min (it a) (it b))) = (fun j => if j < p + 1 then nI (jnF it a b j) else h'.1 9 j) := by
            funext j
            unfold upd
            by_cases e : j = p
            · subst e
              simp [jnF, c3]
            · by_cases e2 : j < p
              · simp [e, e2, show j < p + 1 by omega]
              · simp [e, e2, show ¬ j < p + 1 by omega]
          rw [e4]
          rw [← nI_1] at ih
          exact ih
      · repeat (first | refine G.sx (fun _ => false) rfl rfl rfl ?_ | refine G.gox (fun _ => false) rfl rfl rfl ?_ | refine G.getx (fun _ => false) rfl rfl rfl rfl ?_)
        refine G.br rfl rfl (fun c2 => ?_) (fun c2 => absurd (by show h'.1 1 0 ≤ nI n; rw [hn]; exact nI_le (Nat.le_refl n) (by omega)) c2)
        repeat (first | refine G.sx (fun _ => false) rfl rfl rfl ?_ | refine G.gox (fun _ => false) rfl rfl rfl ?_ | refine G.getx (fun _ => false) rfl rfl rfl rfl ?_)
        exact E.ri rfl (Or.inr ⟨rfl, Or.inr rfl⟩) (Or.inr ⟨c1, rfl, rfl⟩)
    have L0 := L 0 (Nat.zero_le _)
    have e0 : setI h' 9 (fun j => if j < 0 then nI (jnF it a b j) else h'.1 9 j) = h' := by simp [setI_id]
    rw [e0] at L0
    repeat (first | refine G.sx (fun q => Nat.beq q 69) rfl rfl rfl ?_ | refine G.gox (fun q => Nat.beq q 69) rfl rfl rfl ?_ | refine G.getx (fun q => Nat.beq q 69) rfl rfl rfl rfl ?_)
    exact L0
  · have c1 : it a = it b := (nI_eq (by omega) (by omega)).mp c1
    repeat (first | refine G.sx (fun _ => false) rfl rfl rfl ?_ | refine G.gox (fun _ => false) rfl rfl rfl ?_ | refine G.getx (fun _ => false) rfl rfl rfl rfl ?_)
    exact E.ri rfl (Or.inr ⟨rfl, Or.inl rfl⟩) (Or.inl ⟨c1, rfl, rfl⟩)
end ItC
