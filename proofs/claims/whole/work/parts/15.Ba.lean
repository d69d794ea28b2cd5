/-! Bars: reading the table -/
section BaC
variable {l : Launch} {D : va_G} {cA : Nat → ClassId} {ad : Nat → Nat} {St : (Nat → Prop) → State → Heap → Prop}
theorem rowB : ∀ s, s < 25 → slC[38 + s]? = some (.inr (132, 0, 0)) := by decide
theorem upI_same (h : Hp) (k j : Nat) : upI h k j (h.1 k j) = h := by
  rw [upI_self]
  have e : upd (h.1 k) j (h.1 k j) = h.1 k := by
    funext q
    unfold upd
    by_cases e : q = j
    · simp [e]
    · simp [e]
  rw [e, setI_id]
/-- the parts' items, the boxes' owners, the ways -/
def CI (h : Hp) (n : Nat) (it : Nat → Nat) (nb : Nat) (own : Nat → Nat) (nw : Nat) : Prop := ItI h n it ∧ BxI h nb own ∧ (∀ i, i < nb → own i < n) ∧ h.1 3 0 = nI nw ∧ 6 ≤ nw ∧ nw ≤ 10
/-- row s of the table holds the sets T -/
def TbI (h : Hp) (s : Nat) (T : Nat → Nat → Nat) : Prop := ∀ w i, w < 11 → i < 12 → h.1 (38 + s) (w * 12 + i) = nI (T w i) ∧ T w i < 4096
theorem ix12 {w i : Nat} : nI w * 12 + nI i = nI (w * 12 + i) := by
  rw [show (12 : Int32) = nI 12 from rfl, pk_mul, nI_add]
theorem c_Ba_barsOf (hSt : StOk St) {h : Hp} {T : Nat → Nat → Nat} (s w i : Nat) (hs : s < 25) (hw : w < 11) (hi : i < 12) (hT : TbI h s T) : Ct l y_Ba_barsOf prog_2_method_9_code 4 (some .int) (rmD 1) D cls cA slC St ad [.ref 5, .int (nI s), .int (nI w), .int (nI i)] h (fun r h' => r = some (.int (nI (T w i))) ∧ h' = h) := by
  refine Ct.of (tl := T_Ba_barsOf) (by decide) tk_Ba_barsOf cls_ok hSt (Nat.le_of_ble_eq_true rfl) (fun V G E C => ?_)
  repeat (first | refine G.sx (fun _ => false) rfl rfl rfl ?_ | refine G.gox (fun _ => false) rfl rfl rfl ?_ | refine G.getx (fun _ => false) rfl rfl rfl rfl ?_)
  refine G.aaln rfl rfl (by decide) hs (by decide) ?_
  repeat (first | refine G.sx (fun _ => false) rfl rfl rfl ?_ | refine G.gox (fun _ => false) rfl rfl rfl ?_ | refine G.getx (fun _ => false) rfl rfl rfl rfl ?_)
  show V 12 _ [.int (nI w * 12 + nI i), .ref (38 + s)] _
  rw [ix12]
  refine G.ialn rfl (rowB s hs) (by omega) (by decide) ?_
  rw [(hT w i hw hi).1]
  exact E.ri rfl (Or.inl rfl) ⟨rfl, rfl⟩
theorem c_Ba_shiftAt (hSt : StOk St) (h : Hp) (q : Nat) (hq : q < 125) (x : Int32) (hx : 62 + x = nI q) : Ct l y_Ba_shiftAt prog_2_method_8_code 3 (some .int) (rmD 1) D cls cA slC St ad [.ref 5, .int x] h (fun r h' => r = some (.int (h.1 17 q)) ∧ h' = h) := by
  refine Ct.of (tl := T_Ba_shiftAt) (by decide) tk_Ba_shiftAt cls_ok hSt (Nat.le_of_ble_eq_true rfl) (fun V G E C => ?_)
  repeat (first | refine G.sx (fun q => Nat.beq q 4) rfl rfl rfl ?_ | refine G.gox (fun q => Nat.beq q 4) rfl rfl rfl ?_ | refine G.getx (fun q => Nat.beq q 4) rfl rfl rfl rfl ?_)
  show V 4 _ [.int (62 + x)] _
  rw [hx]
  repeat (first | refine G.sx (fun _ => false) rfl rfl rfl ?_ | refine G.gox (fun _ => false) rfl rfl rfl ?_ | refine G.getx (fun _ => false) rfl rfl rfl rfl ?_)
  refine G.br rfl rfl (fun c1 => absurd c1 (nI_pos (by omega))) (fun _ => ?_)
  repeat (first | refine G.sx (fun _ => false) rfl rfl rfl ?_ | refine G.gox (fun _ => false) rfl rfl rfl ?_ | refine G.getx (fun _ => false) rfl rfl rfl rfl ?_)
  refine G.br rfl rfl (fun c1 => absurd c1 (nI_ge (b := 125) hq (by omega))) (fun _ => ?_)
  repeat (first | refine G.sx (fun _ => false) rfl rfl rfl ?_ | refine G.gox (fun _ => false) rfl rfl rfl ?_ | refine G.getx (fun _ => false) rfl rfl rfl rfl ?_)
  refine G.ialn rfl rfl hq (by decide) ?_
  repeat (first | refine G.sx (fun _ => false) rfl rfl rfl ?_ | refine G.gox (fun _ => false) rfl rfl rfl ?_ | refine G.getx (fun _ => false) rfl rfl rfl rfl ?_)
  exact E.ri rfl (Or.inl rfl) ⟨rfl, rfl⟩
/-- the first number from w on, of m, that f takes -/
def fstN (f : Nat → Bool) : Nat → Nat → Option Nat
  | 0, _ => none
  | m + 1, w => if f w then some w else fstN f m (w + 1)
def oI (r : Option Nat) : Int32 := match r with
  | none => -1
  | some w => nI w
theorem fstN_some {f : Nat → Bool} : ∀ {m w k : Nat}, fstN f m w = some k → w ≤ k ∧ k < w + m ∧ f k = true ∧ ∀ j, w ≤ j → j < k → f j = false
  | 0, w, k, h => by simp [fstN] at h
  | m + 1, w, k, h => by
    unfold fstN at h
    by_cases e : f w
    · rw [if_pos e] at h
      cases h
      exact ⟨Nat.le_refl _, by omega, e, fun j h1 h2 => by omega⟩
    · rw [if_neg e] at h
      obtain ⟨h1, h2, h3, h4⟩ := fstN_some h
      refine ⟨by omega, by omega, h3, fun j g1 g2 => ?_⟩
      by_cases e2 : j = w
      · subst e2; simpa using e
      · exact h4 j (by omega) g2
theorem fstN_none {f : Nat → Bool} : ∀ {m w : Nat}, fstN f m w = none → ∀ j, w ≤ j → j < w + m → f j = false
  | 0, w, h, j, h1, h2 => by omega
  | m + 1, w, h, j, h1, h2 => by
    unfold fstN at h
    by_cases e : f w
    · rw [if_pos e] at h; cases h
    · rw [if_neg e] at h
      by_cases e2 : j = w
      · subst e2; simpa using e
      · exact fstN_none h j (by omega) (by omega)
theorem oI_m1 {r : Option Nat} (h : ∀ k, r = some k → k < 2 ^ 31) : oI r = -1 ↔ r = none := by
  cases r with
  | none => simp [oI]
  | some k =>
    simp only [oI, reduceCtorEq, iff_false]
    intro e
    have h1 := nI_pos (h k rfl)
    rw [e] at h1
    exact h1 (by decide)
/-- the first direction in which an item is free of those left -/
def lfw (T : Nat → Nat → Nat) (nw i B : Nat) : Option Nat := fstN (fun w => T w i &&& B == 0) nw 0
theorem and0 {A B : Nat} (hA : A < 4096) : nI A &&& nI B = 0 ↔ (A &&& B == 0) = true := by
  rw [nI_and, show (0 : Int32) = nI 0 from rfl, nI_eq (Nat.lt_of_le_of_lt Nat.and_le_left (by omega)) (by omega), beq_iff_eq]
theorem c_Ba_leastFreeWay (hSt : StOk St) {h : Hp} {T : Nat → Nat → Nat} {nw : Nat} (hn : h.1 3 0 = nI nw) (h10 : nw ≤ 10) (i B : Nat) (hi : i < 12) (hB : B < 4096) (hT : TbI h 0 T) : Ct l y_Ba_leastFreeWay prog_2_method_10_code 4 (some .int) (rmD 2) D cls cA slC St ad [.ref 5, .int (nI i), .int (nI B)] h (fun r h' => r = some (.int (oI (lfw T nw i B))) ∧ h' = h) := by
  refine Ct.of (tl := T_Ba_leastFreeWay) (by decide) tk_Ba_leastFreeWay cls_ok hSt (Nat.le_of_ble_eq_true rfl) (fun V G E C => ?_)
  have L : ∀ (m w : Nat), m + w = nw → fstN (fun w => T w i &&& B == 0) m w = lfw T nw i B → V 2 [some (.ref 5), some (.int (nI i)), some (.int (nI B)), some (.int (nI w))] [] h := by
    intro m
    induction m with
    | zero =>
      intro w hw e
      repeat (first | refine G.sx (fun _ => false) rfl rfl rfl ?_ | refine G.gox (fun _ => false) rfl rfl rfl ?_ | refine G.getx (fun _ => false) rfl rfl rfl rfl ?_)
      refine G.br rfl rfl (fun _ => ?_) (fun c1 => absurd (by rw [hn]; exact nI_le (by omega) (by omega)) c1)
      repeat (first | refine G.sx (fun _ => false) rfl rfl rfl ?_ | refine G.gox (fun _ => false) rfl rfl rfl ?_ | refine G.getx (fun _ => false) rfl rfl rfl rfl ?_)
      exact E.ri rfl (Or.inl rfl) ⟨by rw [← e]; rfl, rfl⟩
    | succ m ih =>
      intro w hw e
      have ht := hT w i (by omega) hi
      repeat (first | refine G.sx (fun _ => false) rfl rfl rfl ?_ | refine G.gox (fun _ => false) rfl rfl rfl ?_ | refine G.getx (fun _ => false) rfl rfl rfl rfl ?_)
      refine G.br rfl rfl (fun c1 => absurd c1 (by rw [hn]; exact nI_ge (by omega) (by omega))) (fun _ => ?_)
      repeat (first | refine G.sx (fun _ => false) rfl rfl rfl ?_ | refine G.gox (fun _ => false) rfl rfl rfl ?_ | refine G.getx (fun _ => false) rfl rfl rfl rfl ?_)
      refine C.cv [.int 0, .int (nI w), .int (nI i)] [] rfl cw_Ba_98 (d1 := 1) (by omega) (by omega) rfl rfl rfl (c_Ba_barsOf hSt 0 w i (by omega) (by omega) hi hT) (by decide) (fun r h' hq => ?_)
      obtain ⟨rfl, rfl⟩ := hq
      repeat (first | refine G.sx (fun _ => false) rfl rfl rfl ?_ | refine G.gox (fun _ => false) rfl rfl rfl ?_ | refine G.getx (fun _ => false) rfl rfl rfl rfl ?_)
      refine G.br rfl rfl (fun c1 => ?_) (fun c1 => ?_)
      · have c2 : ¬ (T w i &&& B == 0) = true := fun q => c1 ((and0 ht.2).mpr q)
        repeat (first | refine G.sx (fun _ => false) rfl rfl rfl ?_ | refine G.gox (fun _ => false) rfl rfl rfl ?_ | refine G.getx (fun _ => false) rfl rfl rfl rfl ?_)
        refine G.go rfl ?_
        have e2 := ih (w + 1) (by omega) (by rw [← e]; simp only [fstN]; rw [if_neg c2])
        rw [← nI_1] at e2
        exact e2
      · have c2 : (T w i &&& B == 0) = true := (and0 ht.2).mp c1
        repeat (first | refine G.sx (fun _ => false) rfl rfl rfl ?_ | refine G.gox (fun _ => false) rfl rfl rfl ?_ | refine G.getx (fun _ => false) rfl rfl rfl rfl ?_)
        exact E.ri rfl (Or.inl rfl) ⟨by rw [← e]; simp only [fstN]; rw [if_pos c2]; rfl, rfl⟩
  repeat (first | refine G.sx (fun q => Nat.beq q 2) rfl rfl rfl ?_ | refine G.gox (fun q => Nat.beq q 2) rfl rfl rfl ?_ | refine G.getx (fun q => Nat.beq q 2) rfl rfl rfl rfl ?_)
  exact L nw 0 rfl rfl
/-- those of i .. that f takes, at most so many -/
def foF (f : Nat → Bool) (most : Nat) : Nat → Nat → Nat → Nat → Nat
  | 0, _, bits, _ => bits
  | m + 1, i, bits, c => if c < most then (if f i then foF f most m (i + 1) (bits ||| 2 ^ i) (c + 1) else foF f most m (i + 1) bits c) else bits
/-- the free ones of those left, at most so many -/
def fro (T : Nat → Nat → Nat) (nw B most : Nat) : Nat := foF (fun i => B.testBit i && (lfw T nw i B).isSome) most 12 0 0 0
theorem lfw_lt {T : Nat → Nat → Nat} {nw i B k : Nat} (h : lfw T nw i B = some k) : k < nw := by
  have := (fstN_some h).2.1
  omega
theorem c_Ba_freeOnes (hSt : StOk St) {h : Hp} {T : Nat → Nat → Nat} {nw : Nat} (hn : h.1 3 0 = nI nw) (h10 : nw ≤ 10) (B most : Nat) (hB : B < 4096) (hm : most ≤ 12) (hT : TbI h 0 T) : Ct l y_Ba_freeOnes prog_2_method_11_code 6 (some .int) (rmD 3) D cls cA slC St ad [.ref 5, .int (nI B), .int (nI most)] h (fun r h' => r = some (.int (nI (fro T nw B most))) ∧ h' = h) := by
  refine Ct.of (tl := T_Ba_freeOnes) (by decide) tk_Ba_freeOnes cls_ok hSt (Nat.le_of_ble_eq_true rfl) (fun V G E C => ?_)
  generalize hf : (fun i => B.testBit i && (lfw T nw i B).isSome) = f
  have L : ∀ (m i bits c : Nat), m + i = 12 → c ≤ i → foF f most m i bits c = fro T nw B most → V 8 [some (.ref 5), some (.int (nI B)), some (.int (nI most)), some (.int (nI bits)), some (.int (nI c)), some (.int (nI i))] [] h := by
    intro m
    induction m with
    | zero =>
      intro i bits c hi hc e
      repeat (first | refine G.sx (fun _ => false) rfl rfl rfl ?_ | refine G.gox (fun _ => false) rfl rfl rfl ?_ | refine G.getx (fun _ => false) rfl rfl rfl rfl ?_)
      refine G.br rfl rfl (fun _ => ?_) (fun c1 => absurd (by rw [show i = 12 by omega]; decide) c1)
      repeat (first | refine G.sx (fun _ => false) rfl rfl rfl ?_ | refine G.gox (fun _ => false) rfl rfl rfl ?_ | refine G.getx (fun _ => false) rfl rfl rfl rfl ?_)
      exact E.ri rfl (Or.inl rfl) ⟨by rw [← e]; rfl, rfl⟩
    | succ m ih =>
      intro i bits c hi hc e
      repeat (first | refine G.sx (fun _ => false) rfl rfl rfl ?_ | refine G.gox (fun _ => false) rfl rfl rfl ?_ | refine G.getx (fun _ => false) rfl rfl rfl rfl ?_)
      refine G.br rfl rfl (fun c1 => absurd c1 (nI_ge (b := 12) (by omega) (by omega))) (fun _ => ?_)
      repeat (first | refine G.sx (fun _ => false) rfl rfl rfl ?_ | refine G.gox (fun _ => false) rfl rfl rfl ?_ | refine G.getx (fun _ => false) rfl rfl rfl rfl ?_)
      refine G.br rfl rfl (fun c1 => ?_) (fun c1 => ?_)
      · have c2 : ¬ c < most := fun q => absurd c1 (nI_ge q (by omega))
        repeat (first | refine G.sx (fun _ => false) rfl rfl rfl ?_ | refine G.gox (fun _ => false) rfl rfl rfl ?_ | refine G.getx (fun _ => false) rfl rfl rfl rfl ?_)
        exact E.ri rfl (Or.inl rfl) ⟨by rw [← e]; simp only [foF]; rw [if_neg c2], rfl⟩
      · have c2 : c < most := by
          rcases Nat.lt_or_ge c most with q | q
          · exact q
          · exact absurd (nI_le q (by omega)) c1
        have no : f i = false → V 52 [some (.ref 5), some (.int (nI B)), some (.int (nI most)), some (.int (nI bits)), some (.int (nI c)), some (.int (nI i))] [] h := by
          intro q
          repeat (first | refine G.sx (fun _ => false) rfl rfl rfl ?_ | refine G.gox (fun _ => false) rfl rfl rfl ?_ | refine G.getx (fun _ => false) rfl rfl rfl rfl ?_)
          refine G.go rfl ?_
          have e2 := ih (i + 1) bits c (by omega) (by omega) (by rw [← e]; simp only [foF]; rw [if_pos c2, q]; rfl)
          rw [← nI_1] at e2
          exact e2
        repeat (first | refine G.sx (fun _ => false) rfl rfl rfl ?_ | refine G.gox (fun _ => false) rfl rfl rfl ?_ | refine G.getx (fun _ => false) rfl rfl rfl rfl ?_)
        refine G.br rfl rfl (fun c3 => ?_) (fun c3 => ?_)
        · rw [bit_at (by omega) (by omega)] at c3
          exact no (by rw [← hf]; simp [c3])
        · have c3 := (bit_at (by omega) (by omega)).mp c3
          repeat (first | refine G.sx (fun _ => false) rfl rfl rfl ?_ | refine G.gox (fun _ => false) rfl rfl rfl ?_ | refine G.getx (fun _ => false) rfl rfl rfl rfl ?_)
          refine C.cv [.int (nI i), .int (nI B)] [] rfl cw_Ba_102 (d1 := 2) (by omega) (by omega) rfl rfl rfl (c_Ba_leastFreeWay hSt hn h10 i B (by omega) hB hT) (by decide) (fun r h' hq => ?_)
          obtain ⟨rfl, rfl⟩ := hq
          repeat (first | refine G.sx (fun _ => false) rfl rfl rfl ?_ | refine G.gox (fun _ => false) rfl rfl rfl ?_ | refine G.getx (fun _ => false) rfl rfl rfl rfl ?_)
          have ho := oI_m1 (r := lfw T nw i B) (fun k hk => by have := lfw_lt hk; omega)
          refine G.br rfl rfl (fun c4 => ?_) (fun c4 => ?_)
          · have c4 := ho.mp c4
            exact no (by rw [← hf]; simp [c4])
          · have c4 : lfw T nw i B ≠ none := fun q => c4 (ho.mpr q)
            have q : f i = true := by
              rw [← hf]
              simp only [c3, Bool.true_and]
              exact Option.isSome_iff_ne_none.mpr c4
            repeat (first | refine G.sx (fun _ => false) rfl rfl rfl ?_ | refine G.gox (fun _ => false) rfl rfl rfl ?_ | refine G.getx (fun _ => false) rfl rfl rfl rfl ?_)
            refine G.go rfl ?_
            have e2 := ih (i + 1) (bits ||| 2 ^ i) (c + 1) (by omega) (by omega) (by rw [← e]; simp only [foF]; rw [if_pos c2, if_pos q])
            rw [← nI_1, ← nI_1, ← nI_or, ← one_shl (by omega)] at e2
            exact e2
  repeat (first | refine G.sx (fun q => Nat.beq q 8) rfl rfl rfl ?_ | refine G.gox (fun q => Nat.beq q 8) rfl rfl rfl ?_ | refine G.getx (fun q => Nat.beq q 8) rfl rfl rfl rfl ?_)
  exact L 12 0 0 0 rfl (by omega) (by rw [← hf]; rfl)
/-- one pass of going one by one along a way -/
def lbI (T : Nat → Nat → Nat) (w : Nat) : Nat → Nat → Nat → Nat
  | 0, _, r => r
  | m + 1, i, r => lbI T w m (i + 1) (if r.testBit i && (T w i &&& r == 0) then clr r i else r)
def lbO (T : Nat → Nat → Nat) (w : Nat) : Nat → Nat → Nat
  | 0, r => r
  | p + 1, r => if lbI T w 12 0 r = r then r else lbO T w p (lbI T w 12 0 r)
theorem lbI_lt {T : Nat → Nat → Nat} {w : Nat} : ∀ {m i r : Nat}, r < 4096 → lbI T w m i r < 4096
  | 0, i, r, h => h
  | m + 1, i, r, h => by
    unfold lbI
    apply lbI_lt
    split
    · exact clr_lt h
    · exact h
theorem c_Ba_leftBehind (hSt : StOk St) {h : Hp} {T : Nat → Nat → Nat} (B w : Nat) (hB : B < 4096) (hw : w < 11) (hT : TbI h 0 T) : Ct l y_Ba_leftBehind prog_2_method_12_code 7 (some .int) (rmD 2) D cls cA slC St ad [.ref 5, .int (nI B), .int (nI w)] h (fun r h' => r = some (.int (nI (lbO T w 12 B))) ∧ h' = h) := by
  refine Ct.of (tl := T_Ba_leftBehind) (by decide) tk_Ba_leftBehind cls_ok hSt (Nat.le_of_ble_eq_true rfl) (fun V G E C => ?_)
  have Lo : ∀ (p k r : Nat), p + k = 12 → r < 4096 → lbO T w p r = lbO T w 12 B → V 5 [some (.ref 5), some (.int (nI B)), some (.int (nI w)), some (.int (nI r)), some (.int (nI k)), none, none] [] h := by
    intro p
    induction p with
    | zero =>
      intro k r hk hr e
      repeat (first | refine G.sx (fun _ => false) rfl rfl rfl ?_ | refine G.gox (fun _ => false) rfl rfl rfl ?_ | refine G.getx (fun _ => false) rfl rfl rfl rfl ?_)
      refine G.br rfl rfl (fun _ => ?_) (fun c1 => absurd (by rw [show k = 12 by omega]; decide) c1)
      repeat (first | refine G.sx (fun _ => false) rfl rfl rfl ?_ | refine G.gox (fun _ => false) rfl rfl rfl ?_ | refine G.getx (fun _ => false) rfl rfl rfl rfl ?_)
      exact E.ri rfl (Or.inl rfl) ⟨by rw [← e]; rfl, rfl⟩
    | succ p ih =>
      intro k r0 hk hr e
      have Li : ∀ (m i r : Nat), m + i = 12 → r < 4096 → lbI T w m i r = lbI T w 12 0 r0 → V 18 [some (.ref 5), some (.int (nI B)), some (.int (nI w)), some (.int (nI r)), some (.int (nI k)), some (.int (nI r0)), some (.int (nI i))] [] h := by
        intro m
        induction m with
        | zero =>
          intro i r hi hr2 e2
          have e2 : r = lbI T w 12 0 r0 := e2
          repeat (first | refine G.sx (fun _ => false) rfl rfl rfl ?_ | refine G.gox (fun _ => false) rfl rfl rfl ?_ | refine G.getx (fun _ => false) rfl rfl rfl rfl ?_)
          refine G.br rfl rfl (fun _ => ?_) (fun c1 => absurd (by rw [show i = 12 by omega]; decide) c1)
          repeat (first | refine G.sx (fun _ => false) rfl rfl rfl ?_ | refine G.gox (fun _ => false) rfl rfl rfl ?_ | refine G.getx (fun _ => false) rfl rfl rfl rfl ?_)
          refine G.br rfl rfl (fun c1 => ?_) (fun c1 => ?_)
          · have c2 : ¬ lbI T w 12 0 r0 = r0 := fun q => c1 (by rw [e2, q])
            repeat (first | refine G.sx (fun _ => false) rfl rfl rfl ?_ | refine G.gox (fun _ => false) rfl rfl rfl ?_ | refine G.getx (fun _ => false) rfl rfl rfl rfl ?_)
            refine G.go rfl ?_
            have e3 := ih (k + 1) r (by omega) hr2 (by rw [← e]; simp only [lbO]; rw [if_neg c2, e2])
            rw [← nI_1] at e3
            refine G.le _ ?_ e3
            repeat (first | exact leL_0 | refine leL_n ?_ | refine leL_c rfl ?_)
          · have c2 : lbI T w 12 0 r0 = r0 := by rw [← e2]; exact (nI_eq (by omega) (by omega)).mp c1
            repeat (first | refine G.sx (fun _ => false) rfl rfl rfl ?_ | refine G.gox (fun _ => false) rfl rfl rfl ?_ | refine G.getx (fun _ => false) rfl rfl rfl rfl ?_)
            exact E.ri rfl (Or.inl rfl) ⟨by rw [← e]; simp only [lbO]; rw [if_pos c2, e2, c2], rfl⟩
        | succ m ihm =>
          intro i r hi hr2 e2
          have ht := hT w i hw (by omega)
          have no : ¬ (r.testBit i && (T w i &&& r == 0)) = true → V 57 [some (.ref 5), some (.int (nI B)), some (.int (nI w)), some (.int (nI r)), some (.int (nI k)), some (.int (nI r0)), some (.int (nI i))] [] h := by
            intro q
            repeat (first | refine G.sx (fun _ => false) rfl rfl rfl ?_ | refine G.gox (fun _ => false) rfl rfl rfl ?_ | refine G.getx (fun _ => false) rfl rfl rfl rfl ?_)
            refine G.go rfl ?_
            have e3 := ihm (i + 1) r (by omega) hr2 (by rw [← e2]; simp only [lbI]; rw [if_neg q])
            rw [← nI_1] at e3
            exact e3
          repeat (first | refine G.sx (fun _ => false) rfl rfl rfl ?_ | refine G.gox (fun _ => false) rfl rfl rfl ?_ | refine G.getx (fun _ => false) rfl rfl rfl rfl ?_)
          refine G.br rfl rfl (fun c1 => absurd c1 (nI_ge (b := 12) (by omega) (by omega))) (fun _ => ?_)
          repeat (first | refine G.sx (fun _ => false) rfl rfl rfl ?_ | refine G.gox (fun _ => false) rfl rfl rfl ?_ | refine G.getx (fun _ => false) rfl rfl rfl rfl ?_)
          refine G.br rfl rfl (fun c1 => ?_) (fun c1 => ?_)
          · rw [bit_at (by omega) (by omega)] at c1
            exact no (by simp [c1])
          · have c1 := (bit_at (by omega) (by omega)).mp c1
            repeat (first | refine G.sx (fun _ => false) rfl rfl rfl ?_ | refine G.gox (fun _ => false) rfl rfl rfl ?_ | refine G.getx (fun _ => false) rfl rfl rfl rfl ?_)
            refine C.cv [.int 0, .int (nI w), .int (nI i)] [] rfl cw_Ba_98 (d1 := 1) (by omega) (by omega) rfl rfl rfl (c_Ba_barsOf hSt 0 w i (by omega) hw (by omega) hT) (by decide) (fun r9 h' hq => ?_)
            obtain ⟨rfl, rfl⟩ := hq
            repeat (first | refine G.sx (fun _ => false) rfl rfl rfl ?_ | refine G.gox (fun _ => false) rfl rfl rfl ?_ | refine G.getx (fun _ => false) rfl rfl rfl rfl ?_)
            refine G.br rfl rfl (fun c2 => ?_) (fun c2 => ?_)
            · exact no (by
                simp only [c1, Bool.true_and]
                exact fun q => c2 ((and0 ht.2).mpr q))
            · have c2 := (and0 ht.2).mp c2
              repeat (first | refine G.sx (fun _ => false) rfl rfl rfl ?_ | refine G.gox (fun _ => false) rfl rfl rfl ?_ | refine G.getx (fun _ => false) rfl rfl rfl rfl ?_)
              refine G.go rfl ?_
              have e3 := ihm (i + 1) (clr r i) (by omega) (clr_lt hr2) (by rw [← e2]; simp only [lbI]; rw [if_pos (by simp only [c1, c2, Bool.true_and])])
              rw [← nI_1, ← not_1 hr2 (by omega)] at e3
              exact e3
      repeat (first | refine G.sx (fun _ => false) rfl rfl rfl ?_ | refine G.gox (fun _ => false) rfl rfl rfl ?_ | refine G.getx (fun _ => false) rfl rfl rfl rfl ?_)
      refine G.br rfl rfl (fun c1 => absurd c1 (nI_ge (b := 12) (by omega) (by omega))) (fun _ => ?_)
      repeat (first | refine G.sx (fun q => Nat.beq q 18) rfl rfl rfl ?_ | refine G.gox (fun q => Nat.beq q 18) rfl rfl rfl ?_ | refine G.getx (fun q => Nat.beq q 18) rfl rfl rfl rfl ?_)
      exact Li 12 0 r0 rfl hr rfl
  repeat (first | refine G.sx (fun q => Nat.beq q 5) rfl rfl rfl ?_ | refine G.gox (fun q => Nat.beq q 5) rfl rfl rfl ?_ | refine G.getx (fun q => Nat.beq q 5) rfl rfl rfl rfl ?_)
  exact Lo 12 0 B rfl hB rfl
/-- bit q of a long -/
def lbit (x : Int64) (q : Nat) : Bool := decide (x >>> ((nI q).toInt64 &&& 63) &&& 1 = 1)
theorem c_Ba_isPartBarred (hSt : StOk St) {h : Hp} {nb : Nat} {own : Nat → Nat} (hI : BxI h nb own) (p w : Nat) (hp : p < 12) (hw : w < 11) (x : Int64) : Ct l y_Ba_isPartBarred prog_2_method_7_code 8 (some .boolean) (rmD 2) D cls cA slC St ad [.ref 5, .int (nI p), .int (nI w), .long x] h (fun r h' => r = some (.int (if anyB (fun a => decide (own a = p) && anyB (fun b => decide (own b ≠ p) && (lbit x (own b) && mtB h 0 w a b)) nb) nb then 1 else 0)) ∧ h' = h) := by
  obtain ⟨hn, h40, hit⟩ := hI
  generalize hf : (fun a => decide (own a = p) && anyB (fun b => decide (own b ≠ p) && (lbit x (own b) && mtB h 0 w a b)) nb) = f
  refine Ct.of (tl := T_Ba_isPartBarred) (by decide) tk_Ba_isPartBarred cls_ok hSt (Nat.le_of_ble_eq_true rfl) (fun V G E C => ?_)
  have La : ∀ a, a ≤ nb → anyB f a = false → V 3 [some (.ref 5), some (.int (nI p)), some (.int (nI w)), some (.long x), none, some (.int (nI a)), none, none] [] h := by
    refine loopUp nb (fun a ha ih => ?_) ?_
    · intro hfa
      have qa := (hit a ha).2
      have nx : f a = false → ∀ v6 v7 : Option Value, V 94 [some (.ref 5), some (.int (nI p)), some (.int (nI w)), some (.long x), none, some (.int (nI a)), v6, v7] [] h := by
        intro q v6 v7
        repeat (first | refine G.sx (fun _ => false) rfl rfl rfl ?_ | refine G.gox (fun _ => false) rfl rfl rfl ?_ | refine G.getx (fun _ => false) rfl rfl rfl rfl ?_)
        refine G.go rfl ?_
        have e2 := ih (by simp only [anyB, hfa, q]; rfl)
        rw [← nI_1] at e2
        refine G.le _ ?_ e2
        repeat (first | exact leL_0 | refine leL_n ?_ | refine leL_c rfl ?_)
      have Lb : ∀ b, b ≤ nb → (own a = p → anyB (fun b => decide (own b ≠ p) && (lbit x (own b) && mtB h 0 w a b)) b = false) → ∀ v7 : Option Value, V 18 [some (.ref 5), some (.int (nI p)), some (.int (nI w)), some (.long x), none, some (.int (nI a)), some (.int (nI b)), v7] [] h := by
        refine loopUp nb (fun b hb ihb => ?_) ?_
        · intro hfb v7
          have qb := (hit b hb).2
          repeat (first | refine G.sx (fun _ => false) rfl rfl rfl ?_ | refine G.gox (fun _ => false) rfl rfl rfl ?_ | refine G.getx (fun _ => false) rfl rfl rfl rfl ?_)
          refine G.br rfl rfl (fun c1 => absurd c1 (by rw [hn]; exact nI_ge hb (by omega))) (fun _ => ?_)
          repeat (first | refine G.sx (fun _ => false) rfl rfl rfl ?_ | refine G.gox (fun _ => false) rfl rfl rfl ?_ | refine G.getx (fun _ => false) rfl rfl rfl rfl ?_)
          refine G.ialn rfl rfl (by omega) (by decide) ?_
          rw [(hit a ha).1]
          repeat (first | refine G.sx (fun _ => false) rfl rfl rfl ?_ | refine G.gox (fun _ => false) rfl rfl rfl ?_ | refine G.getx (fun _ => false) rfl rfl rfl rfl ?_)
          refine G.br rfl rfl (fun c1 => ?_) (fun c1 => ?_)
          · have c1 : own a ≠ p := fun q => c1 (by rw [q])
            exact nx (by rw [← hf]; simp [c1]) _ _
          · have c1 : own a = p := (nI_eq (by omega) (by omega)).mp c1
            have ok : (decide (own b ≠ p) && (lbit x (own b) && mtB h 0 w a b)) = false → V 88 [some (.ref 5), some (.int (nI p)), some (.int (nI w)), some (.long x), none, some (.int (nI a)), some (.int (nI b)), some (.int (nI (own b)))] [] h := by
              intro q
              repeat (first | refine G.sx (fun _ => false) rfl rfl rfl ?_ | refine G.gox (fun _ => false) rfl rfl rfl ?_ | refine G.getx (fun _ => false) rfl rfl rfl rfl ?_)
              refine G.go rfl ?_
              have e2 := ihb (fun q2 => by simp only [anyB, hfb q2, q]; rfl) (some (.int (nI (own b))))
              rw [← nI_1] at e2
              exact e2
            repeat (first | refine G.sx (fun _ => false) rfl rfl rfl ?_ | refine G.gox (fun _ => false) rfl rfl rfl ?_ | refine G.getx (fun _ => false) rfl rfl rfl rfl ?_)
            refine G.ialn rfl rfl (by omega) (by decide) ?_
            rw [(hit b hb).1]
            repeat (first | refine G.sx (fun _ => false) rfl rfl rfl ?_ | refine G.gox (fun _ => false) rfl rfl rfl ?_ | refine G.getx (fun _ => false) rfl rfl rfl rfl ?_)
            refine G.br rfl rfl (fun c2 => ?_) (fun c2 => ?_)
            · have c2 : own b = p := (nI_eq (by omega) (by omega)).mp c2
              exact ok (by simp [c2])
            · have c2 : own b ≠ p := fun q => c2 (by rw [q])
              repeat (first | refine G.sx (fun _ => false) rfl rfl rfl ?_ | refine G.gox (fun _ => false) rfl rfl rfl ?_ | refine G.getx (fun _ => false) rfl rfl rfl rfl ?_)
              refine G.br rfl rfl (fun c3 => ?_) (fun c3 => ?_)
              · have c3 : lbit x (own b) = false := by
                  unfold lbit
                  rw [decide_eq_false_iff_not]
                  exact fun q => c3 (cmp_eq.mpr q)
                exact ok (by simp [c3])
              · have c3 : lbit x (own b) = true := by
                  unfold lbit
                  rw [decide_eq_true_iff]
                  exact cmp_eq.mp c3
                repeat (first | refine G.sx (fun _ => false) rfl rfl rfl ?_ | refine G.gox (fun _ => false) rfl rfl rfl ?_ | refine G.getx (fun _ => false) rfl rfl rfl rfl ?_)
                refine C.cv [.int 0, .int (nI w), .int (nI a), .int (nI b)] [] rfl cw_Ba_82 (d1 := 1) (by omega) (by omega) rfl rfl rfl (c_Ba_meets hSt h 0 w a b (by omega) hw (by omega) (by omega)) (by decide) (fun r h' hq => ?_)
                obtain ⟨rfl, rfl⟩ := hq
                by_cases hm : mtB h' 0 w a b
                · rw [if_pos hm]
                  refine G.br rfl rfl (fun c4 => absurd c4 (by decide)) (fun _ => ?_)
                  repeat (first | refine G.sx (fun _ => false) rfl rfl rfl ?_ | refine G.gox (fun _ => false) rfl rfl rfl ?_ | refine G.getx (fun _ => false) rfl rfl rfl rfl ?_)
                  refine E.ri rfl (Or.inr ⟨rfl, Or.inr rfl⟩) ⟨?_, rfl⟩
                  rw [if_pos]
                  refine (anyB_iff f nb).mpr ⟨a, ha, ?_⟩
                  rw [← hf]
                  simp only [c1, decide_true, Bool.true_and]
                  exact (anyB_iff _ nb).mpr ⟨b, hb, by simp [c2, c3, hm]⟩
                · rw [if_neg hm]
                  refine G.br rfl rfl (fun _ => ?_) (fun c4 => absurd rfl c4)
                  exact ok (by simp [hm])
        · intro hfb v7
          repeat (first | refine G.sx (fun _ => false) rfl rfl rfl ?_ | refine G.gox (fun _ => false) rfl rfl rfl ?_ | refine G.getx (fun _ => false) rfl rfl rfl rfl ?_)
          refine G.br rfl rfl (fun _ => ?_) (fun c1 => absurd (by rw [hn]; exact nI_le (Nat.le_refl nb) (by omega)) c1)
          refine nx ?_ _ _
          rw [← hf]
          by_cases q : own a = p
          · show (decide (own a = p) && anyB (fun b => decide (own b ≠ p) && (lbit x (own b) && mtB h 0 w a b)) nb) = false
            rw [hfb q, Bool.and_false]
          · simp [q]
      repeat (first | refine G.sx (fun _ => false) rfl rfl rfl ?_ | refine G.gox (fun _ => false) rfl rfl rfl ?_ | refine G.getx (fun _ => false) rfl rfl rfl rfl ?_)
      refine G.br rfl rfl (fun c1 => absurd c1 (by rw [hn]; exact nI_ge ha (by omega))) (fun _ => ?_)
      repeat (first | refine G.sx (fun q => Nat.beq q 18) rfl rfl rfl ?_ | refine G.gox (fun q => Nat.beq q 18) rfl rfl rfl ?_ | refine G.getx (fun q => Nat.beq q 18) rfl rfl rfl rfl ?_)
      exact Lb 0 (Nat.zero_le _) (fun _ => rfl) none
    · intro hfa
      repeat (first | refine G.sx (fun _ => false) rfl rfl rfl ?_ | refine G.gox (fun _ => false) rfl rfl rfl ?_ | refine G.getx (fun _ => false) rfl rfl rfl rfl ?_)
      refine G.br rfl rfl (fun _ => ?_) (fun c1 => absurd (by rw [hn]; exact nI_le (Nat.le_refl nb) (by omega)) c1)
      repeat (first | refine G.sx (fun _ => false) rfl rfl rfl ?_ | refine G.gox (fun _ => false) rfl rfl rfl ?_ | refine G.getx (fun _ => false) rfl rfl rfl rfl ?_)
      refine E.ri rfl (Or.inr ⟨rfl, Or.inl rfl⟩) ⟨?_, rfl⟩
      rw [if_neg (by rw [hfa]; decide)]
  repeat (first | refine G.sx (fun q => Nat.beq q 3) rfl rfl rfl ?_ | refine G.gox (fun q => Nat.beq q 3) rfl rfl rfl ?_ | refine G.getx (fun q => Nat.beq q 3) rfl rfl rfl rfl ?_)
  exact La 0 (Nat.zero_le _) rfl
end BaC
