/-! Boxes, Ways, Glues: contracts -/
section BxC
variable {l : Launch} {D : va_G} {cA : Nat → ClassId} {ad : Nat → Nat} {St : (Nat → Prop) → State → Heap → Prop}
/-- the boxes' cells hold nb boxes of the owners own -/
def BxI (h : Hp) (nb : Nat) (own : Nat → Nat) : Prop := h.1 2 0 = nI nb ∧ nb ≤ 40 ∧ ∀ i, i < nb → h.1 10 i = nI (own i) ∧ own i < 12
def anyB (f : Nat → Bool) : Nat → Bool
  | 0 => false
  | n + 1 => anyB f n || f n
theorem anyB_iff (f : Nat → Bool) : ∀ n, anyB f n = true ↔ ∃ i, i < n ∧ f i = true
  | 0 => by simp [anyB]
  | n + 1 => by
    simp only [anyB, Bool.or_eq_true, anyB_iff f n]
    constructor
    · rintro (⟨i, h1, h2⟩ | h)
      · exact ⟨i, by omega, h2⟩
      · exact ⟨n, by omega, h⟩
    · rintro ⟨i, h1, h2⟩
      by_cases e : i = n
      · subst e; exact Or.inr h2
      · exact Or.inl ⟨i, by omega, h2⟩
theorem c_Bx_has (hSt : StOk St) (h : Hp) (x : Int32) : Ct l y_Bx_has prog_3_method_2_code 2 (some .boolean) (rmD 1) D cls cA slC St ad [.ref 2, .int x] h (fun r h' => r = some (.int (if 0 ≤ x ∧ x < h.1 2 0 then 1 else 0)) ∧ h' = h) := by
  refine Ct.of (tl := T_Bx_has) (by decide) tk_Bx_has cls_ok hSt (Nat.le_of_ble_eq_true rfl) (fun V G E C => ?_)
  repeat (first | refine G.sx (fun _ => false) rfl rfl rfl ?_ | refine G.gox (fun _ => false) rfl rfl rfl ?_ | refine G.getx (fun _ => false) rfl rfl rfl rfl ?_)
  refine G.br rfl rfl (fun c1 => ?_) (fun c1 => ?_)
  · repeat (first | refine G.sx (fun _ => false) rfl rfl rfl ?_ | refine G.gox (fun _ => false) rfl rfl rfl ?_ | refine G.getx (fun _ => false) rfl rfl rfl rfl ?_)
    refine E.ri rfl (Or.inr ⟨rfl, Or.inl rfl⟩) ⟨?_, rfl⟩
    rw [if_neg (fun q => absurd q.1 (Int32.not_le.mpr c1))]
  · repeat (first | refine G.sx (fun _ => false) rfl rfl rfl ?_ | refine G.gox (fun _ => false) rfl rfl rfl ?_ | refine G.getx (fun _ => false) rfl rfl rfl rfl ?_)
    refine G.br rfl rfl (fun c2 => ?_) (fun c2 => ?_)
    · repeat (first | refine G.sx (fun _ => false) rfl rfl rfl ?_ | refine G.gox (fun _ => false) rfl rfl rfl ?_ | refine G.getx (fun _ => false) rfl rfl rfl rfl ?_)
      refine E.ri rfl (Or.inr ⟨rfl, Or.inl rfl⟩) ⟨?_, rfl⟩
      rw [if_neg (fun q => absurd q.2 (Int32.not_lt.mpr c2))]
    · repeat (first | refine G.sx (fun _ => false) rfl rfl rfl ?_ | refine G.gox (fun _ => false) rfl rfl rfl ?_ | refine G.getx (fun _ => false) rfl rfl rfl rfl ?_)
      refine E.ri rfl (Or.inr ⟨rfl, Or.inr rfl⟩) ⟨?_, rfl⟩
      rw [if_pos ⟨Int32.not_lt.mp c1, Int32.not_le.mp c2⟩]
theorem c_Wy_has (hSt : StOk St) (h : Hp) (x : Int32) : Ct l y_Wy_has prog_9_method_2_code 2 (some .boolean) (rmD 1) D cls cA slC St ad [.ref 3, .int x] h (fun r h' => r = some (.int (if 0 ≤ x ∧ x < h.1 3 0 then 1 else 0)) ∧ h' = h) := by
  refine Ct.of (tl := T_Wy_has) (by decide) tk_Wy_has cls_ok hSt (Nat.le_of_ble_eq_true rfl) (fun V G E C => ?_)
  repeat (first | refine G.sx (fun _ => false) rfl rfl rfl ?_ | refine G.gox (fun _ => false) rfl rfl rfl ?_ | refine G.getx (fun _ => false) rfl rfl rfl rfl ?_)
  refine G.br rfl rfl (fun c1 => ?_) (fun c1 => ?_)
  · repeat (first | refine G.sx (fun _ => false) rfl rfl rfl ?_ | refine G.gox (fun _ => false) rfl rfl rfl ?_ | refine G.getx (fun _ => false) rfl rfl rfl rfl ?_)
    refine E.ri rfl (Or.inr ⟨rfl, Or.inl rfl⟩) ⟨?_, rfl⟩
    rw [if_neg (fun q => absurd q.1 (Int32.not_le.mpr c1))]
  · repeat (first | refine G.sx (fun _ => false) rfl rfl rfl ?_ | refine G.gox (fun _ => false) rfl rfl rfl ?_ | refine G.getx (fun _ => false) rfl rfl rfl rfl ?_)
    refine G.br rfl rfl (fun c2 => ?_) (fun c2 => ?_)
    · repeat (first | refine G.sx (fun _ => false) rfl rfl rfl ?_ | refine G.gox (fun _ => false) rfl rfl rfl ?_ | refine G.getx (fun _ => false) rfl rfl rfl rfl ?_)
      refine E.ri rfl (Or.inr ⟨rfl, Or.inl rfl⟩) ⟨?_, rfl⟩
      rw [if_neg (fun q => absurd q.2 (Int32.not_lt.mpr c2))]
    · repeat (first | refine G.sx (fun _ => false) rfl rfl rfl ?_ | refine G.gox (fun _ => false) rfl rfl rfl ?_ | refine G.getx (fun _ => false) rfl rfl rfl rfl ?_)
      refine E.ri rfl (Or.inr ⟨rfl, Or.inr rfl⟩) ⟨?_, rfl⟩
      rw [if_pos ⟨Int32.not_lt.mp c1, Int32.not_le.mp c2⟩]
/-- the heap with a box more -/
def adH (h : Hp) (nb : Nat) (p : Int32) (x y z w d : Int64) : Hp := upI (upL (upL (upL (upL (upL (upL (upI h 10 nb p) 26 nb x) 27 nb y) 28 nb z) 29 nb w) 30 nb d) 31 nb 1) 2 0 (nI (nb + 1))
theorem c_Bx_addBox (hSt : StOk St) {h : Hp} {nb : Nat} (hn : h.1 2 0 = nI nb) (h40 : nb < 40) (p : Int32) (x y z w d : Int64) : Ct l y_Bx_addBox prog_3_method_3_code 12 (some .int) (rmD 1) D cls cA slC St ad [.ref 2, .int p, .long x, .long y, .long z, .long w, .long d] h (fun r h' => r = some (.int (nI nb)) ∧ h' = adH h nb p x y z w d) := by
  refine Ct.of (tl := T_Bx_addBox) (by decide) tk_Bx_addBox cls_ok hSt (Nat.le_of_ble_eq_true rfl) (fun V G E C => ?_)
  repeat (first | refine G.sx (fun _ => false) rfl rfl rfl ?_ | refine G.gox (fun _ => false) rfl rfl rfl ?_ | refine G.getx (fun _ => false) rfl rfl rfl rfl ?_)
  refine G.br rfl rfl (fun c1 => ?_) (fun c1 => absurd (by rw [hn]; exact nI_lt (b := 40) h40 (by omega)) c1)
  repeat (first | refine G.sx (fun _ => false) rfl rfl rfl ?_ | refine G.gox (fun _ => false) rfl rfl rfl ?_ | refine G.getx (fun _ => false) rfl rfl rfl rfl ?_)
  show V 20 _ [.int p, .int (h.1 2 0), .ref 10] _
  rw [hn]
  refine G.iasn rfl rfl h40 (by decide) ?_
  repeat (first | refine G.sx (fun _ => false) rfl rfl rfl ?_ | refine G.gox (fun _ => false) rfl rfl rfl ?_ | refine G.getx (fun _ => false) rfl rfl rfl rfl ?_)
  refine G.aaln (q := 0) rfl rfl (by decide) (by decide) (by decide) ?_
  repeat (first | refine G.sx (fun _ => false) rfl rfl rfl ?_ | refine G.gox (fun _ => false) rfl rfl rfl ?_ | refine G.getx (fun _ => false) rfl rfl rfl rfl ?_)
  show V 32 _ [.long x, .int (h.1 2 0), .ref 26] _
  rw [hn]
  refine G.lasn rfl rfl h40 (by decide) ?_
  repeat (first | refine G.sx (fun _ => false) rfl rfl rfl ?_ | refine G.gox (fun _ => false) rfl rfl rfl ?_ | refine G.getx (fun _ => false) rfl rfl rfl rfl ?_)
  refine G.aaln (q := 1) rfl rfl (by decide) (by decide) (by decide) ?_
  repeat (first | refine G.sx (fun _ => false) rfl rfl rfl ?_ | refine G.gox (fun _ => false) rfl rfl rfl ?_ | refine G.getx (fun _ => false) rfl rfl rfl rfl ?_)
  show V 45 _ [.long y, .int (h.1 2 0), .ref 27] _
  rw [hn]
  refine G.lasn rfl rfl h40 (by decide) ?_
  repeat (first | refine G.sx (fun _ => false) rfl rfl rfl ?_ | refine G.gox (fun _ => false) rfl rfl rfl ?_ | refine G.getx (fun _ => false) rfl rfl rfl rfl ?_)
  refine G.aaln (q := 2) rfl rfl (by decide) (by decide) (by decide) ?_
  repeat (first | refine G.sx (fun _ => false) rfl rfl rfl ?_ | refine G.gox (fun _ => false) rfl rfl rfl ?_ | refine G.getx (fun _ => false) rfl rfl rfl rfl ?_)
  show V 58 _ [.long z, .int (h.1 2 0), .ref 28] _
  rw [hn]
  refine G.lasn rfl rfl h40 (by decide) ?_
  repeat (first | refine G.sx (fun _ => false) rfl rfl rfl ?_ | refine G.gox (fun _ => false) rfl rfl rfl ?_ | refine G.getx (fun _ => false) rfl rfl rfl rfl ?_)
  refine G.aaln (q := 0) rfl rfl (by decide) (by decide) (by decide) ?_
  repeat (first | refine G.sx (fun _ => false) rfl rfl rfl ?_ | refine G.gox (fun _ => false) rfl rfl rfl ?_ | refine G.getx (fun _ => false) rfl rfl rfl rfl ?_)
  show V 71 _ [.long w, .int (h.1 2 0), .ref 29] _
  rw [hn]
  refine G.lasn rfl rfl h40 (by decide) ?_
  repeat (first | refine G.sx (fun _ => false) rfl rfl rfl ?_ | refine G.gox (fun _ => false) rfl rfl rfl ?_ | refine G.getx (fun _ => false) rfl rfl rfl rfl ?_)
  refine G.aaln (q := 1) rfl rfl (by decide) (by decide) (by decide) ?_
  repeat (first | refine G.sx (fun _ => false) rfl rfl rfl ?_ | refine G.gox (fun _ => false) rfl rfl rfl ?_ | refine G.getx (fun _ => false) rfl rfl rfl rfl ?_)
  show V 84 _ [.long d, .int (h.1 2 0), .ref 30] _
  rw [hn]
  refine G.lasn rfl rfl h40 (by decide) ?_
  repeat (first | refine G.sx (fun _ => false) rfl rfl rfl ?_ | refine G.gox (fun _ => false) rfl rfl rfl ?_ | refine G.getx (fun _ => false) rfl rfl rfl rfl ?_)
  refine G.aaln (q := 2) rfl rfl (by decide) (by decide) (by decide) ?_
  repeat (first | refine G.sx (fun _ => false) rfl rfl rfl ?_ | refine G.gox (fun _ => false) rfl rfl rfl ?_ | refine G.getx (fun _ => false) rfl rfl rfl rfl ?_)
  show V 96 _ [.long 1, .int (h.1 2 0), .ref 31] _
  rw [hn]
  refine G.lasn rfl rfl h40 (by decide) ?_
  repeat (first | refine G.sx (fun _ => false) rfl rfl rfl ?_ | refine G.gox (fun _ => false) rfl rfl rfl ?_ | refine G.getx (fun _ => false) rfl rfl rfl rfl ?_)
  show V 104 _ [.int (h.1 2 0 + 1), .ref 2] _
  rw [hn, nI_1]
  refine G.put rfl rfl rfl ?_
  repeat (first | refine G.sx (fun _ => false) rfl rfl rfl ?_ | refine G.gox (fun _ => false) rfl rfl rfl ?_ | refine G.getx (fun _ => false) rfl rfl rfl rfl ?_)
  show V 113 _ [.int (nI (nb + 1) - 1)] _
  rw [nI_pred]
  exact E.ri rfl (Or.inl rfl) ⟨rfl, rfl⟩
theorem c_Bx_setDepth (hSt : StOk St) {h : Hp} {nb : Nat} (hn : h.1 2 0 = nI nb) (h40 : nb ≤ 40) (i : Nat) (hi : i < nb) (d : Int64) : Ct l y_Bx_setDepth prog_3_method_4_code 4 (some .boolean) (rmD 2) D cls cA slC St ad [.ref 2, .int (nI i), .long d] h (fun r h' => (h.2 31 i = d ∧ r = some (.int 0) ∧ h' = h) ∨ (h.2 31 i ≠ d ∧ r = some (.int 1) ∧ h' = upL h 31 i d)) := by
  refine Ct.of (tl := T_Bx_setDepth) (by decide) tk_Bx_setDepth cls_ok hSt (Nat.le_of_ble_eq_true rfl) (fun V G E C => ?_)
  repeat (first | refine G.sx (fun _ => false) rfl rfl rfl ?_ | refine G.gox (fun _ => false) rfl rfl rfl ?_ | refine G.getx (fun _ => false) rfl rfl rfl rfl ?_)
  refine C.cv [.int (nI i)] [] rfl cw_Bx_27 (d1 := 1) (by omega) (by omega) rfl rfl rfl (c_Bx_has hSt h (nI i)) (by decide) (fun r h' hq => ?_)
  obtain ⟨rfl, rfl⟩ := hq
  rw [if_pos ⟨nI_pos' (by omega), by rw [hn]; exact nI_lt hi (by omega)⟩]
  refine G.br rfl rfl (fun c1 => absurd c1 (by decide)) (fun _ => ?_)
  repeat (first | refine G.sx (fun _ => false) rfl rfl rfl ?_ | refine G.gox (fun _ => false) rfl rfl rfl ?_ | refine G.getx (fun _ => false) rfl rfl rfl rfl ?_)
  refine G.aaln (q := 2) rfl rfl (by decide) (by decide) (by decide) ?_
  repeat (first | refine G.sx (fun _ => false) rfl rfl rfl ?_ | refine G.gox (fun _ => false) rfl rfl rfl ?_ | refine G.getx (fun _ => false) rfl rfl rfl rfl ?_)
  show V 15 _ [.int (nI i), .ref 31] _
  refine G.laln rfl rfl (by omega) (by decide) ?_
  repeat (first | refine G.sx (fun _ => false) rfl rfl rfl ?_ | refine G.gox (fun _ => false) rfl rfl rfl ?_ | refine G.getx (fun _ => false) rfl rfl rfl rfl ?_)
  refine G.br rfl rfl (fun c1 => ?_) (fun c1 => ?_)
  · have c1 : h'.2 31 i ≠ d := fun q => c1 (cmp_eq.mpr q)
    repeat (first | refine G.sx (fun _ => false) rfl rfl rfl ?_ | refine G.gox (fun _ => false) rfl rfl rfl ?_ | refine G.getx (fun _ => false) rfl rfl rfl rfl ?_)
    refine G.aaln (q := 2) rfl rfl (by decide) (by decide) (by decide) ?_
    repeat (first | refine G.sx (fun _ => false) rfl rfl rfl ?_ | refine G.gox (fun _ => false) rfl rfl rfl ?_ | refine G.getx (fun _ => false) rfl rfl rfl rfl ?_)
    show V 31 _ [.long d, .int (nI i), .ref 31] _
    refine G.lasn rfl rfl (by omega) (by decide) ?_
    repeat (first | refine G.sx (fun _ => false) rfl rfl rfl ?_ | refine G.gox (fun _ => false) rfl rfl rfl ?_ | refine G.getx (fun _ => false) rfl rfl rfl rfl ?_)
    exact E.ri rfl (Or.inr ⟨rfl, Or.inr rfl⟩) (Or.inr ⟨c1, rfl, rfl⟩)
  · repeat (first | refine G.sx (fun _ => false) rfl rfl rfl ?_ | refine G.gox (fun _ => false) rfl rfl rfl ?_ | refine G.getx (fun _ => false) rfl rfl rfl rfl ?_)
    exact E.ri rfl (Or.inr ⟨rfl, Or.inl rfl⟩) (Or.inl ⟨cmp_eq.mp c1, rfl, rfl⟩)
theorem c_Bx_hasPart (hSt : StOk St) {h : Hp} {nb : Nat} {own : Nat → Nat} (hI : BxI h nb own) (p : Nat) (hp : p < 12) : Ct l y_Bx_hasPart prog_3_method_5_code 3 (some .boolean) (rmD 1) D cls cA slC St ad [.ref 2, .int (nI p)] h (fun r h' => r = some (.int (if anyB (fun i => decide (own i = p)) nb then 1 else 0)) ∧ h' = h) := by
  obtain ⟨hn, h40, hit⟩ := hI
  refine Ct.of (tl := T_Bx_hasPart) (by decide) tk_Bx_hasPart cls_ok hSt (Nat.le_of_ble_eq_true rfl) (fun V G E C => ?_)
  have L : ∀ i, i ≤ nb → anyB (fun i => decide (own i = p)) i = false → V 2 [some (.ref 2), some (.int (nI p)), some (.int (nI i))] [] h := by
    refine loopUp nb (fun i hi ih => ?_) ?_
    · intro hf
      repeat (first | refine G.sx (fun _ => false) rfl rfl rfl ?_ | refine G.gox (fun _ => false) rfl rfl rfl ?_ | refine G.getx (fun _ => false) rfl rfl rfl rfl ?_)
      refine G.br rfl rfl (fun c1 => absurd c1 (by rw [hn]; exact nI_ge hi (by omega))) (fun c1 => ?_)
      repeat (first | refine G.sx (fun _ => false) rfl rfl rfl ?_ | refine G.gox (fun _ => false) rfl rfl rfl ?_ | refine G.getx (fun _ => false) rfl rfl rfl rfl ?_)
      refine G.ialn rfl rfl (by omega) (by decide) ?_
      rw [(hit i hi).1]
      have qi := (hit i hi).2
      repeat (first | refine G.sx (fun _ => false) rfl rfl rfl ?_ | refine G.gox (fun _ => false) rfl rfl rfl ?_ | refine G.getx (fun _ => false) rfl rfl rfl rfl ?_)
      refine G.br rfl rfl (fun c2 => ?_) (fun c2 => ?_)
      · have c2 : own i ≠ p := fun q => c2 (by rw [q])
        repeat (first | refine G.sx (fun _ => false) rfl rfl rfl ?_ | refine G.gox (fun _ => false) rfl rfl rfl ?_ | refine G.getx (fun _ => false) rfl rfl rfl rfl ?_)
        refine G.go rfl ?_
        have e2 := ih (by simp [anyB, hf, c2])
        rw [← nI_1] at e2
        exact e2
      · have c2 : own i = p := (nI_eq (by omega) (by omega)).mp c2
        repeat (first | refine G.sx (fun _ => false) rfl rfl rfl ?_ | refine G.gox (fun _ => false) rfl rfl rfl ?_ | refine G.getx (fun _ => false) rfl rfl rfl rfl ?_)
        refine E.ri rfl (Or.inr ⟨rfl, Or.inr rfl⟩) ⟨?_, rfl⟩
        rw [if_pos ((anyB_iff _ nb).mpr ⟨i, hi, by simp [c2]⟩)]
    · intro hf
      repeat (first | refine G.sx (fun _ => false) rfl rfl rfl ?_ | refine G.gox (fun _ => false) rfl rfl rfl ?_ | refine G.getx (fun _ => false) rfl rfl rfl rfl ?_)
      refine G.br rfl rfl (fun c1 => ?_) (fun c1 => absurd (by rw [hn]; exact nI_le (Nat.le_refl nb) (by omega)) c1)
      repeat (first | refine G.sx (fun _ => false) rfl rfl rfl ?_ | refine G.gox (fun _ => false) rfl rfl rfl ?_ | refine G.getx (fun _ => false) rfl rfl rfl rfl ?_)
      refine E.ri rfl (Or.inr ⟨rfl, Or.inl rfl⟩) ⟨?_, rfl⟩
      rw [if_neg (by rw [hf]; decide)]
  repeat (first | refine G.sx (fun q => Nat.beq q 2) rfl rfl rfl ?_ | refine G.gox (fun q => Nat.beq q 2) rfl rfl rfl ?_ | refine G.getx (fun q => Nat.beq q 2) rfl rfl rfl rfl ?_)
  exact L 0 (Nat.zero_le _) rfl
/-- least beginning and greatest end of the first i boxes that sel takes -/
def exF (sel : Nat → Bool) (b e : Nat → Int64) : Nat → Int64 × Int64
  | 0 => (9223372036854775807, -9223372036854775808)
  | i + 1 => if sel i then (if b i < (exF sel b e i).1 then b i else (exF sel b e i).1, if e i < (exF sel b e i).2 then (exF sel b e i).2 else e i) else exF sel b e i
theorem row3 {h0 : Nat} {x : Nat} (hx : x < 3) : slC[26 + x]? = some (.inr (40, 1, 0)) ∧ slC[29 + x]? = some (.inr (40, 1, 0)) ∧ slC[32 + x]? = some (.inr (11, 1, 0)) ∧ slC[35 + x]? = some (.inr (25, 1, 0)) := by
  rcases (show x = 0 ∨ x = 1 ∨ x = 2 by omega) with rfl | rfl | rfl <;> exact ⟨rfl, rfl, rfl, rfl⟩
theorem c_Bx_extent (hSt : StOk St) {h : Hp} {nb : Nat} {own : Nat → Nat} (hI : BxI h nb own) (p q x : Nat) (hp : p < 12) (hq : q < 12) (hx : x < 3) : Ct l y_Bx_extent prog_3_method_6_code 9 (some .long) (rmD 1) D cls cA slC St ad [.ref 2, .int (nI p), .int (nI q), .int (nI x)] h (fun r h' => r = some (.long ((exF (fun i => decide (own i = p ∨ own i = q)) (fun i => h.2 (26 + x) i) (fun i => h.2 (26 + x) i + h.2 (29 + x) i) nb).2 - (exF (fun i => decide (own i = p ∨ own i = q)) (fun i => h.2 (26 + x) i) (fun i => h.2 (26 + x) i + h.2 (29 + x) i) nb).1)) ∧ h' = h) := by
  obtain ⟨hn, h40, hit⟩ := hI
  generalize hF : exF (fun i => decide (own i = p ∨ own i = q)) (fun i => h.2 (26 + x) i) (fun i => h.2 (26 + x) i + h.2 (29 + x) i) = F
  refine Ct.ofX (tl := T_Bx_extent) _ (Mx_ok (by decide)) (by decide) tk_Bx_extent cls_ok hSt (Nat.le_of_ble_eq_true rfl) (fun V G E C M => ?_)
  have L : ∀ i, i ≤ nb → V 13 [some (.ref 2), some (.int (nI p)), some (.int (nI q)), some (.int (nI x)), some (.long (F i).1), none, some (.long (F i).2), none, some (.int (nI i))] [] h := by
    refine loopUp nb (fun i hi ih => ?_) ?_
    · have qi := (hit i hi).2
      have Tk : (own i = p ∨ own i = q) → V 44 [some (.ref 2), some (.int (nI p)), some (.int (nI q)), some (.int (nI x)), some (.long (F i).1), none, some (.long (F i).2), none, some (.int (nI i))] [] h := by
        intro hs
        have e1 : F (i + 1) = (if h.2 (26 + x) i < (F i).1 then h.2 (26 + x) i else (F i).1, if h.2 (26 + x) i + h.2 (29 + x) i < (F i).2 then (F i).2 else h.2 (26 + x) i + h.2 (29 + x) i) := by
          rw [← hF]
          simp only [exF]
          rw [if_pos (by simpa using hs)]
        rw [e1, ← nI_1] at ih
        repeat (first | refine G.sx (fun _ => false) rfl rfl rfl ?_ | refine G.gox (fun _ => false) rfl rfl rfl ?_ | refine G.getx (fun _ => false) rfl rfl rfl rfl ?_)
        refine G.aaln rfl rfl (by decide) hx (by decide) ?_
        repeat (first | refine G.sx (fun _ => false) rfl rfl rfl ?_ | refine G.gox (fun _ => false) rfl rfl rfl ?_ | refine G.getx (fun _ => false) rfl rfl rfl rfl ?_)
        refine G.laln rfl (row3 (h0 := 0) hx).1 (by omega) (by decide) ?_
        refine M.m 4 rfl ml_Bx_37 rfl (by decide) ?_
        repeat (first | refine G.sx (fun _ => false) rfl rfl rfl ?_ | refine G.gox (fun _ => false) rfl rfl rfl ?_ | refine G.getx (fun _ => false) rfl rfl rfl rfl ?_)
        refine G.aaln rfl rfl (by decide) hx (by decide) ?_
        repeat (first | refine G.sx (fun _ => false) rfl rfl rfl ?_ | refine G.gox (fun _ => false) rfl rfl rfl ?_ | refine G.getx (fun _ => false) rfl rfl rfl rfl ?_)
        refine G.laln rfl (row3 (h0 := 0) hx).1 (by omega) (by decide) ?_
        repeat (first | refine G.sx (fun _ => false) rfl rfl rfl ?_ | refine G.gox (fun _ => false) rfl rfl rfl ?_ | refine G.getx (fun _ => false) rfl rfl rfl rfl ?_)
        refine G.aaln rfl rfl (by decide) hx (by decide) ?_
        repeat (first | refine G.sx (fun _ => false) rfl rfl rfl ?_ | refine G.gox (fun _ => false) rfl rfl rfl ?_ | refine G.getx (fun _ => false) rfl rfl rfl rfl ?_)
        refine G.laln rfl (row3 (h0 := 0) hx).2.1 (by omega) (by decide) ?_
        repeat (first | refine G.sx (fun _ => false) rfl rfl rfl ?_ | refine G.gox (fun _ => false) rfl rfl rfl ?_ | refine G.getx (fun _ => false) rfl rfl rfl rfl ?_)
        refine M.m 5 rfl ml_Bx_43 rfl (by decide) ?_
        repeat (first | refine G.sx (fun _ => false) rfl rfl rfl ?_ | refine G.gox (fun _ => false) rfl rfl rfl ?_ | refine G.getx (fun _ => false) rfl rfl rfl rfl ?_)
        refine G.go rfl ?_
        exact ih
      repeat (first | refine G.sx (fun _ => false) rfl rfl rfl ?_ | refine G.gox (fun _ => false) rfl rfl rfl ?_ | refine G.getx (fun _ => false) rfl rfl rfl rfl ?_)
      refine G.br rfl rfl (fun c1 => absurd c1 (by rw [hn]; exact nI_ge hi (by omega))) (fun c1 => ?_)
      repeat (first | refine G.sx (fun _ => false) rfl rfl rfl ?_ | refine G.gox (fun _ => false) rfl rfl rfl ?_ | refine G.getx (fun _ => false) rfl rfl rfl rfl ?_)
      refine G.ialn rfl rfl (by omega) (by decide) ?_
      rw [(hit i hi).1]
      repeat (first | refine G.sx (fun _ => false) rfl rfl rfl ?_ | refine G.gox (fun _ => false) rfl rfl rfl ?_ | refine G.getx (fun _ => false) rfl rfl rfl rfl ?_)
      refine G.br rfl rfl (fun c2 => ?_) (fun c2 => ?_)
      · exact Tk (Or.inl ((nI_eq (by omega) (by omega)).mp c2))
      · repeat (first | refine G.sx (fun _ => false) rfl rfl rfl ?_ | refine G.gox (fun _ => false) rfl rfl rfl ?_ | refine G.getx (fun _ => false) rfl rfl rfl rfl ?_)
        refine G.ialn rfl rfl (by omega) (by decide) ?_
        rw [(hit i hi).1]
        repeat (first | refine G.sx (fun _ => false) rfl rfl rfl ?_ | refine G.gox (fun _ => false) rfl rfl rfl ?_ | refine G.getx (fun _ => false) rfl rfl rfl rfl ?_)
        refine G.br rfl rfl (fun c3 => ?_) (fun c3 => ?_)
        · have e1 : F (i + 1) = F i := by
            rw [← hF]
            simp only [exF]
            rw [if_neg]
            simp only [decide_eq_true_eq]
            rintro (q1 | q1)
            · exact c2 (by rw [q1])
            · exact c3 (by rw [q1])
          rw [e1, ← nI_1] at ih
          repeat (first | refine G.sx (fun _ => false) rfl rfl rfl ?_ | refine G.gox (fun _ => false) rfl rfl rfl ?_ | refine G.getx (fun _ => false) rfl rfl rfl rfl ?_)
          refine G.go rfl ?_
          exact ih
        · exact Tk (Or.inr ((nI_eq (by omega) (by omega)).mp c3))
    · repeat (first | refine G.sx (fun _ => false) rfl rfl rfl ?_ | refine G.gox (fun _ => false) rfl rfl rfl ?_ | refine G.getx (fun _ => false) rfl rfl rfl rfl ?_)
      refine G.br rfl rfl (fun c1 => ?_) (fun c1 => absurd (by rw [hn]; exact nI_le (Nat.le_refl nb) (by omega)) c1)
      repeat (first | refine G.sx (fun _ => false) rfl rfl rfl ?_ | refine G.gox (fun _ => false) rfl rfl rfl ?_ | refine G.getx (fun _ => false) rfl rfl rfl rfl ?_)
      exact E.rl rfl rfl ⟨rfl, rfl⟩
  have L0 := L 0 (Nat.zero_le _)
  rw [← hF] at L0
  repeat (first | refine G.sx (fun q => Nat.beq q 13) rfl rfl rfl ?_ | refine G.gox (fun q => Nat.beq q 13) rfl rfl rfl ?_ | refine G.getx (fun q => Nat.beq q 13) rfl rfl rfl rfl ?_)
  exact L0
theorem c_Wy_addSlant (hSt : StOk St) {h : Hp} {nw : Nat} (hn : h.1 3 0 = nI nw) (h10 : nw ≤ 10) (x y z : Int64) : Ct l y_Wy_addSlant prog_9_method_3_code 7 (some .boolean) (rmD 1) D cls cA slC St ad [.ref 3, .long x, .long y, .long z] h (fun r h' => (nw = 10 ∧ r = some (.int 0) ∧ h' = h) ∨ (nw < 10 ∧ r = some (.int 1) ∧ h' = upI (upL (upL (upL h 32 nw x) 33 nw y) 34 nw z) 3 0 (nI (nw + 1)))) := by
  refine Ct.of (tl := T_Wy_addSlant) (by decide) tk_Wy_addSlant cls_ok hSt (Nat.le_of_ble_eq_true rfl) (fun V G E C => ?_)
  repeat (first | refine G.sx (fun _ => false) rfl rfl rfl ?_ | refine G.gox (fun _ => false) rfl rfl rfl ?_ | refine G.getx (fun _ => false) rfl rfl rfl rfl ?_)
  refine G.br rfl rfl (fun c1 => ?_) (fun c1 => ?_)
  · have c1 : nw < 10 := by
      rcases Nat.lt_or_ge nw 10 with q | q
      · exact q
      · exact absurd (by rw [← hn]; exact c1) (nI_nlt (b := 10) q (by omega))
    repeat (first | refine G.sx (fun _ => false) rfl rfl rfl ?_ | refine G.gox (fun _ => false) rfl rfl rfl ?_ | refine G.getx (fun _ => false) rfl rfl rfl rfl ?_)
    refine G.aaln (q := 0) rfl rfl (by decide) (by decide) (by decide) ?_
    repeat (first | refine G.sx (fun _ => false) rfl rfl rfl ?_ | refine G.gox (fun _ => false) rfl rfl rfl ?_ | refine G.getx (fun _ => false) rfl rfl rfl rfl ?_)
    show V 22 _ [.long x, .int (h.1 3 0), .ref 32] _
    rw [hn]
    refine G.lasn rfl rfl (by omega) (by decide) ?_
    repeat (first | refine G.sx (fun _ => false) rfl rfl rfl ?_ | refine G.gox (fun _ => false) rfl rfl rfl ?_ | refine G.getx (fun _ => false) rfl rfl rfl rfl ?_)
    refine G.aaln (q := 1) rfl rfl (by decide) (by decide) (by decide) ?_
    repeat (first | refine G.sx (fun _ => false) rfl rfl rfl ?_ | refine G.gox (fun _ => false) rfl rfl rfl ?_ | refine G.getx (fun _ => false) rfl rfl rfl rfl ?_)
    show V 34 _ [.long y, .int (h.1 3 0), .ref 33] _
    rw [hn]
    refine G.lasn rfl rfl (by omega) (by decide) ?_
    repeat (first | refine G.sx (fun _ => false) rfl rfl rfl ?_ | refine G.gox (fun _ => false) rfl rfl rfl ?_ | refine G.getx (fun _ => false) rfl rfl rfl rfl ?_)
    refine G.aaln (q := 2) rfl rfl (by decide) (by decide) (by decide) ?_
    repeat (first | refine G.sx (fun _ => false) rfl rfl rfl ?_ | refine G.gox (fun _ => false) rfl rfl rfl ?_ | refine G.getx (fun _ => false) rfl rfl rfl rfl ?_)
    show V 47 _ [.long z, .int (h.1 3 0), .ref 34] _
    rw [hn]
    refine G.lasn rfl rfl (by omega) (by decide) ?_
    repeat (first | refine G.sx (fun _ => false) rfl rfl rfl ?_ | refine G.gox (fun _ => false) rfl rfl rfl ?_ | refine G.getx (fun _ => false) rfl rfl rfl rfl ?_)
    show V 55 _ [.int (h.1 3 0 + 1), .ref 3] _
    rw [hn, nI_1]
    refine G.put rfl rfl rfl ?_
    repeat (first | refine G.sx (fun _ => false) rfl rfl rfl ?_ | refine G.gox (fun _ => false) rfl rfl rfl ?_ | refine G.getx (fun _ => false) rfl rfl rfl rfl ?_)
    exact E.ri rfl (Or.inr ⟨rfl, Or.inr rfl⟩) (Or.inr ⟨c1, rfl, rfl⟩)
  · have c1 : nw = 10 := by
      rcases Nat.lt_or_ge nw 10 with q | q
      · exact absurd (by rw [hn]; exact nI_lt (b := 10) q (by omega)) c1
      · omega
    repeat (first | refine G.sx (fun _ => false) rfl rfl rfl ?_ | refine G.gox (fun _ => false) rfl rfl rfl ?_ | refine G.getx (fun _ => false) rfl rfl rfl rfl ?_)
    exact E.ri rfl (Or.inr ⟨rfl, Or.inl rfl⟩) (Or.inl ⟨c1, rfl, rfl⟩)
theorem c_Gl_addGlue (hSt : StOk St) {h : Hp} {ng : Nat} (hn : h.1 4 0 = nI ng) (h16 : ng ≤ 16) (a b t : Int32) : Ct l y_Gl_addGlue prog_4_method_2_code 4 (some .boolean) (rmD 1) D cls cA slC St ad [.ref 4, .int a, .int b, .int t] h (fun r h' => (ng = 16 ∧ r = some (.int 0) ∧ h' = h) ∨ (ng < 16 ∧ r = some (.int 1) ∧ h' = upI (upI (upI (upI h 14 ng a) 15 ng b) 16 ng t) 4 0 (nI (ng + 1)))) := by
  refine Ct.of (tl := T_Gl_addGlue) (by decide) tk_Gl_addGlue cls_ok hSt (Nat.le_of_ble_eq_true rfl) (fun V G E C => ?_)
  repeat (first | refine G.sx (fun _ => false) rfl rfl rfl ?_ | refine G.gox (fun _ => false) rfl rfl rfl ?_ | refine G.getx (fun _ => false) rfl rfl rfl rfl ?_)
  refine G.br rfl rfl (fun c1 => ?_) (fun c1 => ?_)
  · have c1 : ng < 16 := by
      rcases Nat.lt_or_ge ng 16 with q | q
      · exact q
      · exact absurd (by rw [← hn]; exact c1) (nI_nlt (b := 16) q (by omega))
    repeat (first | refine G.sx (fun _ => false) rfl rfl rfl ?_ | refine G.gox (fun _ => false) rfl rfl rfl ?_ | refine G.getx (fun _ => false) rfl rfl rfl rfl ?_)
    show V 20 _ [.int a, .int (h.1 4 0), .ref 14] _
    rw [hn]
    refine G.iasn rfl rfl c1 (by decide) ?_
    repeat (first | refine G.sx (fun _ => false) rfl rfl rfl ?_ | refine G.gox (fun _ => false) rfl rfl rfl ?_ | refine G.getx (fun _ => false) rfl rfl rfl rfl ?_)
    show V 30 _ [.int b, .int (h.1 4 0), .ref 15] _
    rw [hn]
    refine G.iasn rfl rfl c1 (by decide) ?_
    repeat (first | refine G.sx (fun _ => false) rfl rfl rfl ?_ | refine G.gox (fun _ => false) rfl rfl rfl ?_ | refine G.getx (fun _ => false) rfl rfl rfl rfl ?_)
    show V 40 _ [.int t, .int (h.1 4 0), .ref 16] _
    rw [hn]
    refine G.iasn rfl rfl c1 (by decide) ?_
    repeat (first | refine G.sx (fun _ => false) rfl rfl rfl ?_ | refine G.gox (fun _ => false) rfl rfl rfl ?_ | refine G.getx (fun _ => false) rfl rfl rfl rfl ?_)
    show V 48 _ [.int (h.1 4 0 + 1), .ref 4] _
    rw [hn, nI_1]
    refine G.put rfl rfl rfl ?_
    repeat (first | refine G.sx (fun _ => false) rfl rfl rfl ?_ | refine G.gox (fun _ => false) rfl rfl rfl ?_ | refine G.getx (fun _ => false) rfl rfl rfl rfl ?_)
    exact E.ri rfl (Or.inr ⟨rfl, Or.inr rfl⟩) (Or.inr ⟨c1, rfl, rfl⟩)
  · have c1 : ng = 16 := by
      rcases Nat.lt_or_ge ng 16 with q | q
      · exact absurd (by rw [hn]; exact nI_lt (b := 16) q (by omega)) c1
      · omega
    repeat (first | refine G.sx (fun _ => false) rfl rfl rfl ?_ | refine G.gox (fun _ => false) rfl rfl rfl ?_ | refine G.getx (fun _ => false) rfl rfl rfl rfl ?_)
    exact E.ri rfl (Or.inr ⟨rfl, Or.inl rfl⟩) (Or.inl ⟨c1, rfl, rfl⟩)
end BxC
