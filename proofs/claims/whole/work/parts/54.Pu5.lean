/-! The two sides agree: turnings, the greedy search -/
section PuE
theorem lbI_sub {T : Nat → Nat → Nat} {w : Nat} : ∀ {m i r : Nat}, r < 4096 → i + m ≤ 12 → SbS (lbI T w m i r) r
  | 0, i, r, _, _ => fun j h => h
  | m + 1, i, r, hr, hm => by
    unfold lbI
    split
    · intro j hj
      have := lbI_sub (T := T) (w := w) (m := m) (i := i + 1) (r := clr r i) (clr_lt hr) (by omega) j hj
      rw [clr_bit hr (by omega), Bool.and_eq_true] at this
      exact this.1
    · exact lbI_sub hr (by omega)
theorem lbI_fix {T : Nat → Nat → Nat} {w : Nat} : ∀ {m i r : Nat}, r < 4096 → i + m ≤ 12 → lbI T w m i r = r → ∀ j, i ≤ j → j < i + m → r.testBit j = true → (T w j &&& r == 0) = false
  | 0, i, r, _, _, _, j, h1, h2, _ => by omega
  | m + 1, i, r, hr, hm, hfx, j, h1, h2, hj => by
    unfold lbI at hfx
    by_cases c : (r.testBit i && (T w i &&& r == 0)) = true
    · rw [if_pos c] at hfx
      rw [Bool.and_eq_true] at c
      have := lbI_le (T := T) (w := w) (m := m) (i := i + 1) (r := clr r i)
      have := clr_self_lt hr (show i < 12 by omega) c.1
      omega
    · rw [if_neg c] at hfx
      by_cases e : j = i
      · subst e
        rw [hj, Bool.true_and] at c
        simpa using c
      · exact lbI_fix hr (by omega) hfx j (by omega) (by omega) hj
theorem SbS.tr {a b c : Nat} (h1 : SbS a b) (h2 : SbS b c) : SbS a c := fun j hj => h2 j (h1 j hj)
theorem lbO_sub {T : Nat → Nat → Nat} {w : Nat} : ∀ {p r : Nat}, r < 4096 → SbS (lbO T w p r) r
  | 0, r, _ => fun j h => h
  | p + 1, r, hr => by
    unfold lbO
    split
    · exact fun j h => h
    · exact SbS.tr (lbO_sub (lbI_lt hr)) (lbI_sub hr (by omega))
theorem bit_lt {r j : Nat} (hr : r < 4096) (h : r.testBit j = true) : j < 12 := Nat.lt_of_not_le (fun z => by
  have : r.testBit j = false := Nat.testBit_lt_two_pow (Nat.lt_of_lt_of_le hr (by
      have : 2 ^ 12 ≤ 2 ^ j := Nat.pow_le_pow_right (by omega) (by omega)
      omega))
  rw [this] at h
  cases h)
theorem SbS_ne {a b : Nat} (h : SbS a b) (hne : a ≠ b) : ∃ j, b.testBit j = true ∧ a.testBit j = false := by
  refine Classical.byContradiction (fun z => hne ?_)
  apply Nat.eq_of_testBit_eq
  intro j
  cases e : b.testBit j with
  | true =>
    cases e2 : a.testBit j with
    | true => rfl
    | false => exact absurd ⟨j, e, e2⟩ z
  | false =>
    cases e2 : a.testBit j with
    | false => rfl
    | true => rw [h j e2] at e; cases e
/-- behind all passes nothing more can go along the way -/
theorem lbO_cl {T : Nat → Nat → Nat} {w : Nat} : ∀ {p r : Nat}, r < 4096 → pcN r 12 ≤ p → ∀ j, (lbO T w p r).testBit j = true → (T w j &&& lbO T w p r == 0) = false
  | 0, r, hr, hp, j, hj => by
    have : r = 0 := pcN_0 hr (by omega)
    subst this
    have hj : Nat.testBit 0 j = true := hj
    rw [Nat.zero_testBit] at hj
    cases hj
  | p + 1, r, hr, hp, j, hj => by
    unfold lbO at hj ⊢
    by_cases c : lbI T w 12 0 r = r
    · rw [if_pos c] at hj ⊢
      exact lbI_fix hr (by omega) c j (by omega) (by have := bit_lt hr hj; omega) hj
    · rw [if_neg c] at hj ⊢
      have s1 := lbI_sub (T := T) (w := w) (m := 12) (i := 0) (r := r) hr (by omega)
      obtain ⟨z, z1, z2⟩ := SbS_ne s1 c
      have hlt := pcN_sub (C := lbI T w 12 0 r) (B := r) (i := z) s1 ⟨z1, z2⟩ 12
      rw [if_pos (bit_lt hr z1)] at hlt
      exact lbO_cl (lbI_lt hr) (by omega) j hj
theorem SbS_lt {a b : Nat} (h : SbS a b) (hb : b < 4096) : a < 4096 := by
  refine Nat.lt_of_not_le (fun z => ?_)
  obtain ⟨j, j1, j2⟩ := Nat.exists_ge_and_testBit_of_ge_two_pow (n := 12) (x := a) (by omega)
  have := bit_lt hb (h j j2)
  omega
/-- fr is the class's table -/
def FrE (fr : Nat → Nat → Nat → Bool) (T : Nat → Nat → Nat) (nw : Nat) : Prop := ∀ i w B, i < 12 → w < nw → B < 4096 → fr i w B = (T w i &&& B == 0)
theorem and0_sub {X a b : Nat} (h : SbS a b) (h0 : (X &&& b == 0) = true) : (X &&& a == 0) = true := by
  rw [and_zero] at h0 ⊢
  intro j hj
  cases e : a.testBit j with
  | false => rfl
  | true => rw [← h0 j hj, h j e]
theorem TnN_lt {T : Nat → Nat → Nat} {nw A k S : Nat} (hA : A < 4096) (h : TnN T nw A k S) : S < 4096 := Nat.lt_of_le_of_lt (TnN_le h) hA
/-- a run of items is never ahead of the greedy search -/
theorem pt_gr {fr : Nat → Nat → Nat → Bool} {T : Nat → Nat → Nat} {A n nw : Nat} (hf : FrE fr T nw) (n12 : n ≤ 12) (h10 : nw ≤ 10) (hA : A < 4096) : ∀ {k s L c : Nat}, PtN fr A n nw (k + 1) s L c → L < nw ∧ ∃ S c', c' ≤ c ∧ TnN T nw A c' S ∧ SbS (lbO T L 12 S) (clrS A s) := by
  intro k
  induction k with
  | zero =>
    rintro s L c ⟨s', L', c', i, ⟨rfl, rfl, rfl⟩, h2, h3, h4, h5, h6, h7, h8⟩
    refine ⟨h5, A, 0, Nat.zero_le _, rfl, fun j hj => ?_⟩
    have hs := lbO_sub (T := T) (w := L) (p := 12) hA j hj
    rw [h7, clrS_bit hA, hs, Nat.zero_or, Nat.testBit_two_pow, Bool.true_and, Bool.not_eq_true', decide_eq_false_iff_not]
    rintro rfl
    have h9 := lbO_cl (T := T) (w := L) hA (pcN_le A 12) i hj
    rw [clrS_0 hA, hf i L A (by omega) h5 hA] at h6
    rw [and0_sub (lbO_sub hA) h6] at h9
    cases h9
  | succ k ih =>
    rintro s L c ⟨s', L', c', i, h1, h2, h3, h4, h5, h6, h7, h8⟩
    obtain ⟨l1, S, c0, d1, d2, d3⟩ := ih h1
    have hS := TnN_lt hA d2
    rw [hf i L _ (by omega) h5 (clrS_lt hA)] at h6
    have fin : ∀ S2 c2, c2 ≤ c → TnN T nw A c2 S2 → S2 < 4096 → SbS (lbO T L 12 S2) (clrS A s') → L < nw ∧ ∃ S c', c' ≤ c ∧ TnN T nw A c' S ∧ SbS (lbO T L 12 S) (clrS A s) := by
      intro S2 c2 e1 e2 e3 e4
      refine ⟨h5, S2, c2, e1, e2, fun j hj => ?_⟩
      have hs := e4 j hj
      rw [clrS_bit hA, Bool.and_eq_true] at hs
      rw [h7, clrS_bit hA, Nat.testBit_or, hs.1, Nat.testBit_two_pow, Bool.true_and, Bool.not_eq_true', Bool.or_eq_false_iff, decide_eq_false_iff_not]
      refine ⟨by simpa using hs.2, ?_⟩
      rintro rfl
      have h9 := lbO_cl (T := T) (w := L) e3 (pcN_le S2 12) i hj
      rw [and0_sub e4 h6] at h9
      cases h9
    by_cases e : L' = L
    · subst e
      have : tnP c' L' L' = c' := by unfold tnP; rw [if_pos (Or.inr rfl)]
      exact fin S c0 (by omega) d2 hS d3
    · have hc : tnP c' L' L = c' + 1 := by unfold tnP; rw [if_neg (fun z => z.elim (by omega) e)]
      by_cases e2 : lbO T L' 12 S = S
      · refine fin S c0 (by omega) d2 hS ?_
        rw [e2] at d3
        exact SbS.tr (lbO_sub hS) d3
      · have hS2 : lbO T L' 12 S < 4096 := SbS_lt (lbO_sub hS) hS
        exact fin (lbO T L' 12 S) (c0 + 1) (by omega) ⟨S, L', d2, l1, rfl, e2⟩ hS2 (SbS.tr (lbO_sub hS2) d3)
/-- a run to what is left r, one more step of which along w has at most b turnings -/
def GdP (fr : Nat → Nat → Nat → Bool) (A n nw b w r : Nat) : Prop := ∃ k L c, PtN fr A n nw k (clrS A r) L c ∧ tnP c L w ≤ b
theorem clrS_or {A r i : Nat} (hA : A < 4096) (hr : SbS r A) (hr4 : r < 4096) (hi : i < 12) (hb : r.testBit i = true) : clrS A (clr r i) = clrS A r ||| 2 ^ i := by
  apply Nat.eq_of_testBit_eq
  intro j
  rw [clrS_bit hA, clr_bit hr4 hi, Nat.testBit_or, clrS_bit hA, Nat.testBit_two_pow]
  by_cases e : j = i
  · subst e; simp [hr j hb]
  · simp [e, Ne.symm e]
theorem clrS_2 {A r : Nat} (hA : A < 4096) (hr : SbS r A) : clrS A (clrS A r) = r := by
  apply Nat.eq_of_testBit_eq
  intro j
  rw [clrS_bit hA, clrS_bit hA]
  cases e : r.testBit j with
  | true => simp [hr j e]
  | false => simp
theorem gd_lbI {fr : Nat → Nat → Nat → Bool} {T : Nat → Nat → Nat} {A n nw b w : Nat} (hf : FrE fr T nw) (n12 : n ≤ 12) (hA : A < 4096) (hbn : ∀ j, A.testBit j = true → j < n) (hw : w < nw) : ∀ {m i r : Nat}, i + m ≤ 12 → SbS r A → GdP fr A n nw b w r → GdP fr A n nw b w (lbI T w m i r)
  | 0, i, r, _, _, h => h
  | m + 1, i, r, hm, hr, h => by
    have hr4 := SbS_lt hr hA
    unfold lbI
    by_cases c : (r.testBit i && (T w i &&& r == 0)) = true
    · rw [if_pos c]
      rw [Bool.and_eq_true] at c
      have hi : i < 12 := by omega
      refine gd_lbI hf n12 hA hbn hw (by omega) (fun j hj => ?_) ?_
      · rw [clr_bit hr4 hi, Bool.and_eq_true] at hj
        exact hr j hj.1
      · obtain ⟨k, L, cc, p1, p2⟩ := h
        refine ⟨k + 1, w, tnP cc L w, ⟨clrS A r, L, cc, i, p1, hbn i (hr i c.1), hr i c.1, ?_, hw, ?_, clrS_or hA hr hr4 hi c.1, rfl⟩, ?_⟩
        · rw [clrS_bit hA, c.1]; simp
        · rw [clrS_2 hA hr, hf i w r hi hw hr4]
          exact c.2
        · have : tnP (tnP cc L w) w w = tnP cc L w := by
            show (if w = 10 ∨ w = w then tnP cc L w else _) = _
            rw [if_pos (Or.inr rfl)]
          rw [this]
          exact p2
    · rw [if_neg c]
      exact gd_lbI hf n12 hA hbn hw (by omega) hr h
theorem gd_lbO {fr : Nat → Nat → Nat → Bool} {T : Nat → Nat → Nat} {A n nw b w : Nat} (hf : FrE fr T nw) (n12 : n ≤ 12) (hA : A < 4096) (hbn : ∀ j, A.testBit j = true → j < n) (hw : w < nw) : ∀ {p r : Nat}, SbS r A → GdP fr A n nw b w r → GdP fr A n nw b w (lbO T w p r)
  | 0, r, _, h => h
  | p + 1, r, hr, h => by
    unfold lbO
    split
    · exact h
    · exact gd_lbO hf n12 hA hbn hw (SbS.tr (lbI_sub (SbS_lt hr hA) (by omega)) hr) (gd_lbI hf n12 hA hbn hw (by omega) hr h)
theorem TnN_sub {T : Nat → Nat → Nat} {nw A : Nat} (hA : A < 4096) : ∀ {k S : Nat}, TnN T nw A k S → SbS S A
  | 0, S, h => by
    have h : S = A := h
    subst h
    exact fun j z => z
  | k + 1, Q, ⟨S, w, h1, h2, h3, h4⟩ => by
    have := TnN_sub hA h1
    rw [h3]
    exact SbS.tr (lbO_sub (SbS_lt this hA)) this
theorem clrS_self {A : Nat} (hA : A < 4096) : clrS A A = 0 := by
  apply Nat.eq_of_testBit_eq
  intro j
  rw [clrS_bit hA, Nat.zero_testBit]
  cases A.testBit j <;> rfl
/-- the greedy search is never ahead of all runs of items -/
theorem gr_pt {fr : Nat → Nat → Nat → Bool} {T : Nat → Nat → Nat} {A n nw : Nat} (hf : FrE fr T nw) (n12 : n ≤ 12) (hA : A < 4096) (hbn : ∀ j, A.testBit j = true → j < n) : ∀ {c S : Nat}, TnN T nw A c S → ∀ w, GdP fr A n nw c w S
  | 0, S, h, w => by
    have h : S = A := h
    subst h
    refine ⟨0, 10, 0, ⟨clrS_self hA, rfl, rfl⟩, ?_⟩
    unfold tnP
    rw [if_pos (Or.inl rfl)]
    exact Nat.le_refl _
  | c + 1, Q, ⟨S, w', h1, h2, h3, h4⟩, w => by
    have g1 := gr_pt hf n12 hA hbn h1 w'
    obtain ⟨k, L, cc, p1, p2⟩ := gd_lbO (p := 12) hf n12 hA hbn h2 (TnN_sub hA h1) g1
    rw [← h3] at p1
    have q1 := (tnP_le cc L w').1
    have q2 := (tnP_le cc L w).2
    exact ⟨k, L, cc, p1, by omega⟩
/-- a run to the end, by the plan -/
theorem pl_pt {fr : Nat → Nat → Nat → Bool} {T : Nat → Nat → Nat} {A n nw m : Nat} (hf : FrE fr T nw) (n12 : n ≤ 12) (hA : A < 4096) (hbn : ∀ j, A.testBit j = true → j < n) (hn : ∀ j, j < m → fstI T nw (plS T nw A j) ≠ none) : ∀ j, j ≤ m → SbS (plS T nw A j) A ∧ ∃ L c, PtN fr A n nw j (clrS A (plS T nw A j)) L c
  | 0, _ => ⟨fun j h => h, 10, 0, clrS_self hA, rfl, rfl⟩
  | j + 1, hj => by
    obtain ⟨s1, L, c, p⟩ := pl_pt hf n12 hA hbn hn j (by omega)
    have h4 := plS_lt (T := T) (nw := nw) hA j
    cases e : fstI T nw (plS T nw A j) with
    | none => exact absurd e (hn j (by omega))
    | some i =>
      obtain ⟨i1, i2, i3⟩ := fstI_lt e
      have e1 : plS T nw A (j + 1) = clr (plS T nw A j) i := by
        show (match fstI T nw (plS T nw A j) with | none => _ | some k => _) = _
        rw [e]
      obtain ⟨w, hw⟩ := Option.isSome_iff_exists.mp i3
      obtain ⟨-, w1, w2, -⟩ := fstN_some hw
      refine ⟨fun q hq => ?_, w, tnP c L w, clrS A (plS T nw A j), L, c, i, p, hbn i (s1 i i2), s1 i i2, ?_, by omega, ?_, ?_, rfl⟩
      · rw [e1, clr_bit h4 i1, Bool.and_eq_true] at hq
        exact s1 q hq.1
      · rw [clrS_bit hA, i2]; simp
      · rw [clrS_2 hA s1, hf i w _ i1 (by omega) h4]
        exact w2
      · rw [e1, clrS_or hA s1 h4 i1 i2]
/-- turnings: both sides answer the same, if nothing is locked -/
theorem turn_eq {fr : Nat → Nat → Nat → Bool} {T : Nat → Nat → Nat} {A n nw m : Nat} {v : Int32} (hf : FrE fr T nw) (n12 : n ≤ 12) (h10 : nw ≤ 10) (hA : A < 4096) (hbn : ∀ j, A.testBit j = true → j < n) (hn : ∀ j, j < m → fstI T nw (plS T nw A j) ≠ none) (h0 : plS T nw A m = 0) (hv : TnOk T nw A v) : v = nI (tnB (tnS fr A n nw (2 ^ n)) A 11) := by
  obtain ⟨-, L, c, p⟩ := pl_pt hf n12 hA hbn hn m (Nat.le_refl _)
  rw [h0, clrS_0 hA] at p
  obtain ⟨⟨k', L', b1⟩, b2⟩ := tnB_ok n12 h10 p
  generalize hb : tnB (tnS fr A n nw (2 ^ n)) A 11 = b at b1 b2
  rcases hv with ⟨a0, v0⟩ | ⟨a0, hv⟩
  · have := b2 0 10 0 ⟨a0, rfl, rfl⟩
    rw [v0, show b = 0 by omega]
    rfl
  · have toE : ∀ k L c, PtN fr A n nw k A L c → ∃ c', c' ≤ c ∧ Emp T nw A c' ∧ c < 12 := by
      intro k L c z
      obtain ⟨-, -, q3, -, q5⟩ := PtN_in n12 h10 z
      have hk := pcN_le A 12
      cases k with
      | zero => exact absurd z.1 a0
      | succ k =>
        obtain ⟨l1, S, c', d1, d2, d3⟩ := pt_gr hf n12 h10 hA z
        refine ⟨c', d1, ⟨S, L, d2, l1, ?_⟩, by omega⟩
        rw [clrS_self hA] at d3
        apply Nat.eq_of_testBit_eq
        intro j
        rw [Nat.zero_testBit]
        cases e : (lbO T L 12 S).testBit j with
        | false => rfl
        | true => have := d3 j e; rw [Nat.zero_testBit] at this; cases this
    obtain ⟨c1, e1, e2, e3⟩ := toE _ _ _ b1
    rcases hv with ⟨cc, v1, v2, v3, v4⟩ | ⟨v1, v2⟩
    · have l1 : cc ≤ c1 := Nat.le_of_not_lt (fun z => v4 c1 z e2)
      obtain ⟨S, w, t1, t2, t3⟩ := v3
      have g1 := gd_lbO (p := 12) hf n12 hA hbn t2 (TnN_sub hA t1) (gr_pt hf n12 hA hbn t1 w)
      rw [t3] at g1
      obtain ⟨k2, L2, c2, p1, p2⟩ := g1
      rw [clrS_0 hA] at p1
      have := b2 _ _ _ p1
      have := (tnP_le c2 L2 w).1
      rw [v2, show cc = b by omega]
    · exact absurd e2 (v2 c1 (by omega))
end PuE
