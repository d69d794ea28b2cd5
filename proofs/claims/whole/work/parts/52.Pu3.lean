/-! The two sides agree: out -/
section PuC
theorem rcT_stay {f : Nat → Nat → Option Nat} {A n m s : Nat} (hs : s < m) : ∀ d, rcT f A n (m + d) s = rcT f A n m s
  | 0 => rfl
  | d + 1 => by
    have e1 : rcT f A n (m + (d + 1)) s = if s = m + d then (decide (m + d = 0) || anyB (rcQ f A (rcT f A n (m + d)) (m + d)) n) else rcT f A n (m + d) s := rfl
    rw [e1, if_neg (by omega), rcT_stay hs d]
theorem rcT_at {f : Nat → Nat → Option Nat} {A n m : Nat} : rcT f A n (m + 1) m = (decide (m = 0) || anyB (rcQ f A (rcT f A n m) m) n) := by
  have e1 : rcT f A n (m + 1) m = if m = m then (decide (m = 0) || anyB (rcQ f A (rcT f A n m) m) n) else rcT f A n m m := rfl
  rw [e1, if_pos rfl]
theorem rcT_sub {f : Nat → Nat → Option Nat} {A n m s : Nat} (hs : s < m) : rcT f A n m s = rcT f A n (s + 1) s := by
  have := rcT_stay (f := f) (A := A) (n := n) (m := s + 1) (s := s) (by omega) (m - (s + 1))
  rw [show s + 1 + (m - (s + 1)) = m by omega] at this
  exact this
theorem pcN_zero : pcN 0 12 = 0 := by decide
theorem clrS_clr {A m i : Nat} (hA : A < 4096) (hi : i < 12) : clr (clrS A m) i = clrS A (m ||| 2 ^ i) := by
  apply Nat.eq_of_testBit_eq
  intro j
  rw [clr_bit (clrS_lt hA) hi, clrS_bit hA, clrS_bit hA, Nat.testBit_or, Nat.testBit_two_pow]
  by_cases e : j = i
  · subst e; simp
  · simp [e, Ne.symm e]
theorem xor_back {m i : Nat} (h : m.testBit i = true) : (m ^^^ 2 ^ i) ||| 2 ^ i = m ∧ (m ^^^ 2 ^ i).testBit i = false := by
  constructor
  · apply Nat.eq_of_testBit_eq
    intro j
    rw [Nat.testBit_or, Nat.testBit_xor, Nat.testBit_two_pow]
    by_cases e : i = j
    · subst e; simp [h]
    · simp [e]
  · rw [Nat.testBit_xor, Nat.testBit_two_pow, h]; simp
theorem or_xor {m i : Nat} (h : m.testBit i = false) : (m ||| 2 ^ i) ^^^ 2 ^ i = m ∧ (m ||| 2 ^ i).testBit i = true := by
  constructor
  · apply Nat.eq_of_testBit_eq
    intro j
    rw [Nat.testBit_xor, Nat.testBit_or, Nat.testBit_two_pow]
    by_cases e : i = j
    · subst e; simp [h]
    · simp [e]
  · rw [Nat.testBit_or, Nat.testBit_two_pow]; simp
/-- m is a set of items of A -/
def SbS (m A : Nat) : Prop := ∀ j, m.testBit j = true → A.testBit j = true
theorem SbS_0 (A : Nat) : SbS 0 A := fun j hj => by
  rw [Nat.zero_testBit] at hj
  cases hj
theorem rc_fwd {f : Nat → Nat → Option Nat} {T : Nat → Nat → Nat} {nw A n : Nat} (hf : LfE f T nw) (n12 : n ≤ 12) (hA : A < 4096) : ∀ M m, m < M → m < 4096 → rcT f A n (m + 1) m = true → SbS m A ∧ RcN (frB T nw) A (pcN m 12) (clrS A m)
  | 0, m, h, _, _ => by omega
  | M + 1, m, h, h4, hr => by
    rw [rcT_at, Bool.or_eq_true, decide_eq_true_eq, anyB_iff] at hr
    rcases hr with rfl | ⟨i, hi, hq⟩
    · refine ⟨SbS_0 A, ?_⟩
      rw [pcN_zero, clrS_0 hA]
      exact rfl
    · unfold rcQ at hq
      rw [Bool.and_eq_true, Bool.and_eq_true, Bool.and_eq_true] at hq
      obtain ⟨⟨⟨q1, q2⟩, q3⟩, q4⟩ := hq
      have hx := xor_bit_lt q1
      obtain ⟨x1, x2⟩ := xor_back q1
      rw [rcT_sub hx] at q3
      obtain ⟨s1, s2⟩ := rc_fwd hf n12 hA M (m ^^^ 2 ^ i) (by omega) (by omega) q3
      rw [hf i _ (by omega) (clrS_lt hA)] at q4
      refine ⟨fun j hj => ?_, ?_⟩
      · rw [← x1, Nat.testBit_or, Bool.or_eq_true, Nat.testBit_two_pow, decide_eq_true_eq] at hj
        rcases hj with hj | rfl
        · exact s1 j hj
        · exact q2
      · have hp := pcN_or (B := m ^^^ 2 ^ i) (p := i) (by omega) (by omega) x2
        rw [x1] at hp
        rw [hp]
        refine ⟨clrS A (m ^^^ 2 ^ i), i, s2, ?_, ?_⟩
        · rw [frB_eq, clrS_bit hA, q2, x2, q4, decide_eq_true (show i < 12 by omega)]
          rfl
        · rw [clrS_clr hA (by omega), x1]
theorem rc_bwd {f : Nat → Nat → Option Nat} {T : Nat → Nat → Nat} {nw A n : Nat} (hf : LfE f T nw) (n12 : n ≤ 12) (hA : A < 4096) (hbn : ∀ j, A.testBit j = true → j < n) : ∀ k S, RcN (frB T nw) A k S → ∃ m, m < 2 ^ n ∧ SbS m A ∧ S = clrS A m ∧ pcN m 12 = k ∧ rcT f A n (m + 1) m = true
  | 0, S, h => by
    refine ⟨0, Nat.pow_pos (by omega), SbS_0 A, ?_, pcN_zero, by rw [rcT_at]; rfl⟩
    rw [clrS_0 hA]
    exact h
  | k + 1, S, ⟨S', i, h1, h2, h3⟩ => by
    obtain ⟨m, m1, m2, m3, m4, m5⟩ := rc_bwd hf n12 hA hbn k S' h1
    have m4096 : m < 4096 := Nat.lt_of_lt_of_le m1 (by have := Nat.pow_le_pow_right (show 0 < 2 by omega) n12; omega)
    rw [m3, frB_eq, Bool.and_eq_true, Bool.and_eq_true, clrS_bit hA, Bool.and_eq_true, decide_eq_true_eq] at h2
    obtain ⟨i12, ⟨iA, im⟩, iw⟩ := h2
    have im : m.testBit i = false := by simpa using im
    have hin := hbn i iA
    obtain ⟨o1, o2⟩ := or_xor im
    refine ⟨m ||| 2 ^ i, Nat.or_lt_two_pow m1 (Nat.pow_lt_pow_right (by omega) hin), fun j hj => ?_, ?_, ?_, ?_⟩
    · rw [Nat.testBit_or, Bool.or_eq_true, Nat.testBit_two_pow, decide_eq_true_eq] at hj
      rcases hj with hj | rfl
      · exact m2 j hj
      · exact iA
    · rw [h3, m3, clrS_clr hA i12]
    · rw [pcN_or m4096 i12 im, m4]
    · rw [rcT_at, Bool.or_eq_true]
      right
      rw [anyB_iff]
      refine ⟨i, hin, ?_⟩
      have hlt : m < m ||| 2 ^ i := by
        have := xor_bit_lt o2
        rw [o1] at this
        exact this
      unfold rcQ
      rw [o2, iA, o1, rcT_sub hlt, m5, hf i _ i12 (clrS_lt hA), iw]
      rfl
/-- what obM is: none, or the least -/
theorem ob_ok {f : Nat → Nat → Option Nat} {A n q : Nat} : ∀ m, (obM f A n q m = -1 ∧ ∀ s, s < m → obQ f A n q s = false) ∨ ∃ k, obM f A n q m = nI k ∧ k ≤ 12 ∧ (∃ s, s < m ∧ obQ f A n q s = true ∧ pcN s 12 = k) ∧ ∀ s, s < m → obQ f A n q s = true → k ≤ pcN s 12
  | 0 => Or.inl ⟨rfl, fun s hs => by omega⟩
  | m + 1 => by
    have ih := ob_ok (f := f) (A := A) (n := n) (q := q) m
    have e1 : obM f A n q (m + 1) = if obQ f A n q m then (if obM f A n q m < 0 ∨ nI (pcN m 12) < obM f A n q m then nI (pcN m 12) else obM f A n q m) else obM f A n q m := rfl
    have pl := pcN_le m 12
    cases c : obQ f A n q m with
    | false =>
      rw [c, if_neg (by decide)] at e1
      rw [e1]
      rcases ih with ⟨a, b⟩ | ⟨k, a, b, ⟨s, s1, s2, s3⟩, d⟩
      · refine Or.inl ⟨a, fun s hs => ?_⟩
        by_cases e : s = m
        · rw [e]; exact c
        · exact b s (by omega)
      · refine Or.inr ⟨k, a, b, ⟨s, by omega, s2, s3⟩, fun s hs hq => ?_⟩
        by_cases e : s = m
        · rw [e, c] at hq; cases hq
        · exact d s (by omega) hq
    | true =>
      rw [c, if_pos rfl] at e1
      rw [e1]
      rcases ih with ⟨a, b⟩ | ⟨k, a, b, ⟨s, s1, s2, s3⟩, d⟩
      · rw [a, if_pos (Or.inl (by decide))]
        refine Or.inr ⟨pcN m 12, rfl, pl, ⟨m, by omega, c, rfl⟩, fun s hs hq => ?_⟩
        by_cases e : s = m
        · rw [e]; exact Nat.le_refl _
        · rw [b s (by omega)] at hq; cases hq
      · rw [a]
        by_cases e : pcN m 12 < k
        · rw [if_pos (Or.inr ((nI_ltI (by omega) (by omega)).mpr e))]
          refine Or.inr ⟨pcN m 12, rfl, pl, ⟨m, by omega, c, rfl⟩, fun s hs hq => ?_⟩
          by_cases e2 : s = m
          · rw [e2]; exact Nat.le_refl _
          · have := d s (by omega) hq; omega
        · rw [if_neg (fun z => z.elim (nI_pos (by omega)) (fun z => e ((nI_ltI (by omega) (by omega)).mp z)))]
          refine Or.inr ⟨k, rfl, b, ⟨s, by omega, s2, s3⟩, fun s hs hq => ?_⟩
          by_cases e2 : s = m
          · rw [e2]; omega
          · exact d s (by omega) hq
/-- out: both sides answer the same -/
theorem out_eq {f : Nat → Nat → Option Nat} {T : Nat → Nat → Nat} {nw A n u : Nat} {v : Int32} (hf : LfE f T nw) (n12 : n ≤ 12) (hA : A < 4096) (hbn : ∀ j, A.testBit j = true → j < n) (hu : A.testBit u = true) (hv : BfL T nw A 0 v u) : v = obM f A n u (2 ^ n) := by
  have u12 : u < 12 := by have := hbn u hu; omega
  have tn : 2 ^ n ≤ 4096 := by have := Nat.pow_le_pow_right (show 0 < 2 by omega) n12; omega
  have Q1 : ∀ s, s < 2 ^ n → obQ f A n u s = true → ∃ S, 0 < S ∧ RcN (frB T nw) A (pcN s 12) S ∧ frB T nw u S = true := by
    intro s hs hq
    unfold obQ at hq
    rw [Bool.and_eq_true, Bool.and_eq_true] at hq
    obtain ⟨⟨q1, q2⟩, q3⟩ := hq
    obtain ⟨r1, r2⟩ := rc_fwd hf n12 hA (s + 1) s (by omega) (by omega) q1
    have hb : (clrS A s).testBit u = true := by rw [clrS_bit hA, hu, q2]; rfl
    refine ⟨clrS A s, ?_, r2, ?_⟩
    · apply Nat.pos_of_ne_zero
      intro z
      rw [z, Nat.zero_testBit] at hb
      cases hb
    · rw [hf u _ u12 (clrS_lt hA)] at q3
      rw [frB_eq, hb, q3, decide_eq_true u12]
      rfl
  have Q2 : ∀ k S, RcN (frB T nw) A k S → frB T nw u S = true → ∃ s, s < 2 ^ n ∧ obQ f A n u s = true ∧ pcN s 12 = k := by
    intro k S h1 h2
    obtain ⟨m, m1, m2, m3, m4, m5⟩ := rc_bwd hf n12 hA hbn k S h1
    refine ⟨m, m1, ?_, m4⟩
    rw [m3, frB_eq, Bool.and_eq_true, Bool.and_eq_true, clrS_bit hA, Bool.and_eq_true] at h2
    unfold obQ
    rw [m5, h2.2.1.2, hf u _ u12 (clrS_lt hA), h2.2.2]
    rfl
  rcases ob_ok (f := f) (A := A) (n := n) (q := u) (2 ^ n) with ⟨a, b⟩ | ⟨k, a, b, ⟨s, s1, s2, s3⟩, d⟩
  · rcases hv with ⟨v1, v2⟩ | ⟨k, v1, v2, ⟨S, t1, t2, t3⟩, v4⟩
    · rw [a, v1]
    · obtain ⟨s, s1, s2, s3⟩ := Q2 k S t2 t3
      rw [b s s1] at s2
      cases s2
  · obtain ⟨S0, z1, z2, z3⟩ := Q1 s s1 s2
    rcases hv with ⟨v1, v2⟩ | ⟨k', v1, v2, ⟨S, t1, t2, t3⟩, v4⟩
    · rw [v2 _ S0 z1 z2] at z3
      cases z3
    · rw [a, v1]
      congr 1
      obtain ⟨s', s1', s2', s3'⟩ := Q2 k' S t2 t3
      have e1 := d s' s1' s2'
      have e2 := v4 _ S0 z1 z2 z3
      omega
end PuC
