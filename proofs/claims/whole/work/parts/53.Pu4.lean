/-! The two sides agree: turnings -/
section PuD
/-- k items have gone, one by one: those of s, the last along L, with c turnings -/
def PtN (fr : Nat → Nat → Nat → Bool) (A n nw : Nat) : Nat → Nat → Nat → Nat → Prop
  | 0, s, L, c => s = 0 ∧ L = 10 ∧ c = 0
  | k + 1, s, L, c => ∃ s' L' c' i, PtN fr A n nw k s' L' c' ∧ i < n ∧ A.testBit i = true ∧ s'.testBit i = false ∧ L < nw ∧ fr i L (clrS A s') = true ∧ s = s' ||| 2 ^ i ∧ c = tnP c' L' L
theorem tnP_le (v L w : Nat) : v ≤ tnP v L w ∧ tnP v L w ≤ v + 1 := by
  unfold tnP
  split <;> omega
theorem tnP_mono {v v' : Nat} (h : v ≤ v') (L w : Nat) : tnP v L w ≤ tnP v' L w := by
  unfold tnP
  split <;> omega
theorem PtN_in {fr : Nat → Nat → Nat → Bool} {A n nw : Nat} (n12 : n ≤ 12) (hw : nw ≤ 10) : ∀ {k s L c : Nat}, PtN fr A n nw k s L c → s < 2 ^ n ∧ SbS s A ∧ pcN s 12 = k ∧ L < 11 ∧ c ≤ k - 1
  | 0, s, L, c, h => by
    obtain ⟨rfl, rfl, rfl⟩ := h
    exact ⟨Nat.pow_pos (by omega), SbS_0 A, pcN_zero, by omega, Nat.le_refl _⟩
  | k + 1, s, L, c, ⟨s', L', c', i, h1, h2, h3, h4, h5, h6, h7, h8⟩ => by
    obtain ⟨q1, q2, q3, q4, q5⟩ := PtN_in n12 hw h1
    have tn : 2 ^ n ≤ 4096 := by have := Nat.pow_le_pow_right (show 0 < 2 by omega) n12; omega
    refine ⟨by rw [h7]; exact Nat.or_lt_two_pow q1 (Nat.pow_lt_pow_right (by omega) h2), fun j hj => ?_, by rw [h7, pcN_or (by omega) (by omega) h4, q3], by omega, ?_⟩
    · rw [h7, Nat.testBit_or, Bool.or_eq_true, Nat.testBit_two_pow, decide_eq_true_eq] at hj
      rcases hj with hj | rfl
      · exact q2 j hj
      · exact h3
    · rw [h8]
      cases k with
      | zero =>
        obtain ⟨-, rfl, rfl⟩ := h1
        unfold tnP
        rw [if_pos (Or.inl rfl)]
        omega
      | succ k =>
        have := (tnP_le c' L' L).2
        omega
theorem or_gt {s i : Nat} (h : s.testBit i = false) : s < s ||| 2 ^ i := by
  obtain ⟨o1, o2⟩ := or_xor h
  have := xor_bit_lt o2
  rw [o1] at this
  exact this
-- one item along the ways before w
theorem tnW_le {fr : Nat → Nat → Nat → Bool} {A s L v i : Nat} {t : Nat → Nat} (j : Nat) : ∀ w, tnW fr A s L v i w t j ≤ t j
  | 0 => Nat.le_refl _
  | w + 1 => by
    have ih := tnW_le (fr := fr) (A := A) (s := s) (L := L) (v := v) (i := i) (t := t) j w
    unfold tnW
    by_cases c : fr i w (clrS A s) = true
    · rw [if_pos c]
      unfold upN
      by_cases e : j = 11 * (s ||| 2 ^ i) + w
      · rw [if_pos e, ← e]
        split <;> omega
      · rw [if_neg e]; exact ih
    · rw [if_neg c]; exact ih
theorem tnW_hit {fr : Nat → Nat → Nat → Bool} {A s L v i : Nat} {t : Nat → Nat} {w' : Nat} (hf : fr i w' (clrS A s) = true) : ∀ w, w' < w → tnW fr A s L v i w t (11 * (s ||| 2 ^ i) + w') ≤ tnP v L w'
  | 0, h => by omega
  | w + 1, h => by
    unfold tnW
    by_cases e : w' = w
    · subst e
      rw [if_pos hf]
      unfold upN
      rw [if_pos rfl]
      split <;> omega
    · have ih := tnW_hit (L := L) (v := v) (t := t) hf w (by omega)
      by_cases c : fr i w (clrS A s) = true
      · rw [if_pos c]
        unfold upN
        rw [if_neg (by omega)]
        exact ih
      · rw [if_neg c]; exact ih
theorem tnW_stay {fr : Nat → Nat → Nat → Bool} {A s L v i : Nat} {t : Nat → Nat} {s0 L0 : Nat} (hs : s0 ≠ s ||| 2 ^ i) (hL : L0 < 11) : ∀ w, w ≤ 10 → tnW fr A s L v i w t (11 * s0 + L0) = t (11 * s0 + L0)
  | 0, _ => rfl
  | w + 1, h => by
    have ih := tnW_stay (fr := fr) (A := A) (L := L) (v := v) (t := t) hs hL w (by omega)
    unfold tnW
    by_cases c : fr i w (clrS A s) = true
    · rw [if_pos c]
      unfold upN
      rw [if_neg (by omega)]
      exact ih
    · rw [if_neg c]; exact ih
/-- what stands in the table is told of some run of items -/
def Snd (fr : Nat → Nat → Nat → Bool) (A n nw : Nat) (t : Nat → Nat) : Prop := ∀ s L, L < 11 → t (11 * s + L) < 1000 → ∃ k, PtN fr A n nw k s L (t (11 * s + L))
theorem tnW_snd {fr : Nat → Nat → Nat → Bool} {A n nw s L v i : Nat} {t : Nat → Nat} (hw : nw ≤ 10) (ht : Snd fr A n nw t) {k : Nat} (hp : PtN fr A n nw k s L v) (hi : i < n) (hA : A.testBit i = true) (hs : s.testBit i = false) : ∀ w, w ≤ nw → Snd fr A n nw (tnW fr A s L v i w t)
  | 0, _ => ht
  | w + 1, h => by
    have ih := tnW_snd hw ht hp hi hA hs w (by omega)
    unfold tnW
    by_cases c : fr i w (clrS A s) = true
    · rw [if_pos c]
      intro s0 L0 hL0 hlt
      unfold upN at hlt ⊢
      by_cases e : 11 * s0 + L0 = 11 * (s ||| 2 ^ i) + w
      · have e1 : s0 = s ||| 2 ^ i := by omega
        have e2 : L0 = w := by omega
        rw [if_pos e] at hlt ⊢
        by_cases c2 : tnP v L w < tnW fr A s L v i w t (11 * (s ||| 2 ^ i) + w)
        · rw [if_pos c2]
          exact ⟨k + 1, s, L, v, i, hp, hi, hA, hs, by omega, by rw [e2]; exact c, e1, by rw [e2]⟩
        · rw [if_neg c2] at hlt ⊢
          rw [e1, e2]
          exact ih _ _ (by omega) hlt
      · rw [if_neg e] at hlt ⊢
        exact ih _ _ hL0 hlt
    · rw [if_neg c]; exact ih
-- the items
theorem tnI_le {fr : Nat → Nat → Nat → Bool} {A nw s L v : Nat} {t : Nat → Nat} (j : Nat) : ∀ i, tnI fr A nw s L v i t j ≤ t j
  | 0 => Nat.le_refl _
  | i + 1 => by
    have ih := tnI_le (fr := fr) (A := A) (nw := nw) (s := s) (L := L) (v := v) (t := t) j i
    unfold tnI
    split
    · exact Nat.le_trans (tnW_le j nw) ih
    · exact ih
theorem tnI_hit {fr : Nat → Nat → Nat → Bool} {A nw s L v : Nat} {t : Nat → Nat} {i' w' : Nat} (hv : v < 1000) (hA : A.testBit i' = true) (hs : s.testBit i' = false) (hw : w' < nw) (hf : fr i' w' (clrS A s) = true) : ∀ i, i' < i → tnI fr A nw s L v i t (11 * (s ||| 2 ^ i') + w') ≤ tnP v L w'
  | 0, h => by omega
  | i + 1, h => by
    unfold tnI
    by_cases e : i' = i
    · subst e
      rw [if_pos ⟨hv, hA, hs⟩]
      exact tnW_hit hf nw hw
    · have ih := tnI_hit (L := L) (t := t) hv hA hs hw hf i (by omega)
      split
      · exact Nat.le_trans (tnW_le _ nw) ih
      · exact ih
theorem tnI_stay {fr : Nat → Nat → Nat → Bool} {A nw s L v : Nat} {t : Nat → Nat} {s0 L0 : Nat} (h10 : nw ≤ 10) (hs : s0 ≤ s) (hL : L0 < 11) : ∀ i, tnI fr A nw s L v i t (11 * s0 + L0) = t (11 * s0 + L0)
  | 0 => rfl
  | i + 1 => by
    have ih := tnI_stay (fr := fr) (A := A) (L := L) (v := v) (t := t) h10 hs hL i
    unfold tnI
    by_cases c : v < 1000 ∧ A.testBit i = true ∧ s.testBit i = false
    · rw [if_pos c, tnW_stay (by have := or_gt c.2.2; omega) hL nw h10, ih]
    · rw [if_neg c, ih]
theorem tnI_snd {fr : Nat → Nat → Nat → Bool} {A n nw s L v : Nat} {t : Nat → Nat} (hw : nw ≤ 10) (ht : Snd fr A n nw t) (hp : v < 1000 → ∃ k, PtN fr A n nw k s L v) : ∀ i, i ≤ n → Snd fr A n nw (tnI fr A nw s L v i t)
  | 0, _ => ht
  | i + 1, h => by
    have ih := tnI_snd hw ht hp i (by omega)
    unfold tnI
    by_cases c : v < 1000 ∧ A.testBit i = true ∧ s.testBit i = false
    · rw [if_pos c]
      obtain ⟨k, hk⟩ := hp c.1
      exact tnW_snd hw ih hk (by omega) c.2.1 c.2.2 nw (Nat.le_refl _)
    · rw [if_neg c]; exact ih
-- the last ways
theorem tnL_le {fr : Nat → Nat → Nat → Bool} {A n nw s : Nat} {t : Nat → Nat} (j : Nat) : ∀ L, tnL fr A n nw s L t j ≤ t j
  | 0 => Nat.le_refl _
  | L + 1 => by
    have ih := tnL_le (fr := fr) (A := A) (n := n) (nw := nw) (s := s) (t := t) j L
    unfold tnL
    exact Nat.le_trans (tnI_le j n) ih
theorem tnL_stay {fr : Nat → Nat → Nat → Bool} {A n nw s : Nat} {t : Nat → Nat} {s0 L0 : Nat} (h10 : nw ≤ 10) (hs : s0 ≤ s) (hL : L0 < 11) : ∀ L, tnL fr A n nw s L t (11 * s0 + L0) = t (11 * s0 + L0)
  | 0 => rfl
  | L + 1 => by
    have ih := tnL_stay (fr := fr) (A := A) (n := n) (t := t) h10 hs hL L
    unfold tnL
    rw [tnI_stay h10 hs hL n, ih]
theorem tnL_hit {fr : Nat → Nat → Nat → Bool} {A n nw s : Nat} {t : Nat → Nat} {i' w' L' : Nat} (h10 : nw ≤ 10) (hv : t (11 * s + L') < 1000) (hi : i' < n) (hA : A.testBit i' = true) (hs : s.testBit i' = false) (hw : w' < nw) (hf : fr i' w' (clrS A s) = true) (hL' : L' < 11) : ∀ L, L' < L → tnL fr A n nw s L t (11 * (s ||| 2 ^ i') + w') ≤ tnP (t (11 * s + L')) L' w'
  | 0, h => by omega
  | L + 1, h => by
    unfold tnL
    by_cases e : L' = L
    · subst e
      rw [tnL_stay h10 (Nat.le_refl _) hL']
      exact tnI_hit hv hA hs hw hf n hi
    · exact Nat.le_trans (tnI_le _ n) (tnL_hit h10 hv hi hA hs hw hf hL' L (by omega))
theorem tnL_snd {fr : Nat → Nat → Nat → Bool} {A n nw s : Nat} {t : Nat → Nat} (hw : nw ≤ 10) (ht : Snd fr A n nw t) : ∀ L, L ≤ 11 → Snd fr A n nw (tnL fr A n nw s L t)
  | 0, _ => ht
  | L + 1, h => by
    have ih := tnL_snd (s := s) hw ht L (by omega)
    unfold tnL
    exact tnI_snd hw ih (fun z => ih s L (by omega) z) n (Nat.le_refl _)
-- the sets
theorem tnS_snd {fr : Nat → Nat → Nat → Bool} {A n nw : Nat} (hw : nw ≤ 10) : ∀ m, Snd fr A n nw (tnS fr A n nw m)
  | 0 => by
    intro s L hL h
    have h0 : tnS fr A n nw 0 (11 * s + L) = if 11 * s + L = 10 then 0 else 1000 := rfl
    by_cases e : 11 * s + L = 10
    · rw [h0, if_pos e]
      exact ⟨0, by omega, by omega, rfl⟩
    · rw [h0, if_neg e] at h
      omega
  | m + 1 => tnL_snd hw (tnS_snd hw m) 11 (Nat.le_refl _)
theorem tnS_le {fr : Nat → Nat → Nat → Bool} {A n nw : Nat} (m j : Nat) : ∀ d, tnS fr A n nw (m + d) j ≤ tnS fr A n nw m j
  | 0 => Nat.le_refl _
  | d + 1 => Nat.le_trans (tnL_le j 11) (tnS_le m j d)
theorem tnS_stay {fr : Nat → Nat → Nat → Bool} {A n nw s L : Nat} (h10 : nw ≤ 10) (hL : L < 11) : ∀ d, tnS fr A n nw (s + d) (11 * s + L) = tnS fr A n nw s (11 * s + L)
  | 0 => rfl
  | d + 1 => by
    have ih := tnS_stay (fr := fr) (A := A) (n := n) (s := s) h10 hL d
    show tnL fr A n nw (s + d) 11 (tnS fr A n nw (s + d)) (11 * s + L) = _
    rw [tnL_stay h10 (by omega) hL, ih]
theorem tnS_hit {fr : Nat → Nat → Nat → Bool} {A n nw s i' w' L' M : Nat} (h10 : nw ≤ 10) (hM : s < M) (hv : tnS fr A n nw M (11 * s + L') < 1000) (hi : i' < n) (hA : A.testBit i' = true) (hs : s.testBit i' = false) (hw : w' < nw) (hf : fr i' w' (clrS A s) = true) (hL' : L' < 11) : tnS fr A n nw M (11 * (s ||| 2 ^ i') + w') ≤ tnP (tnS fr A n nw M (11 * s + L')) L' w' := by
  have e1 := tnS_stay (fr := fr) (A := A) (n := n) (s := s) h10 hL' (M - s)
  rw [show s + (M - s) = M by omega] at e1
  rw [e1] at hv ⊢
  have h1 := tnS_le (fr := fr) (A := A) (n := n) (nw := nw) (s + 1) (11 * (s ||| 2 ^ i') + w') (M - (s + 1))
  rw [show s + 1 + (M - (s + 1)) = M by omega] at h1
  exact Nat.le_trans h1 (tnL_hit h10 hv hi hA hs hw hf hL' 11 hL')
theorem tnS_cmp {fr : Nat → Nat → Nat → Bool} {A n nw : Nat} (n12 : n ≤ 12) (h10 : nw ≤ 10) : ∀ {k s L c : Nat}, PtN fr A n nw k s L c → tnS fr A n nw (2 ^ n) (11 * s + L) ≤ c
  | 0, s, L, c, h => by
    obtain ⟨rfl, rfl, rfl⟩ := h
    exact Nat.le_trans (by have := tnS_le (fr := fr) (A := A) (n := n) (nw := nw) 0 (11 * 0 + 10) (2 ^ n); rw [Nat.zero_add] at this; exact this) (Nat.le_refl _)
  | k + 1, s, L, c, ⟨s', L', c', i, h1, h2, h3, h4, h5, h6, h7, h8⟩ => by
    obtain ⟨q1, q2, q3, q4, q5⟩ := PtN_in n12 h10 h1
    have ih := tnS_cmp n12 h10 h1
    have := pcN_le s' 12
    rw [h7, h8]
    exact Nat.le_trans (tnS_hit h10 q1 (by omega) h2 h3 h4 h5 h6 q4) (tnP_mono ih L' L)
theorem tnB_min (t : Nat → Nat) (A : Nat) : ∀ M, (∀ L, L < M → tnB t A M ≤ t (11 * A + L)) ∧ tnB t A M ≤ 1000 ∧ (tnB t A M < 1000 → ∃ L, L < M ∧ t (11 * A + L) = tnB t A M)
  | 0 => ⟨fun L h => by omega, Nat.le_refl _, fun h => by have h : 1000 < 1000 := h; omega⟩
  | M + 1 => by
    obtain ⟨h1, h2, h3⟩ := tnB_min t A M
    unfold tnB
    by_cases c : t (11 * A + M) < tnB t A M
    · rw [if_pos c]
      refine ⟨fun L hL => ?_, by omega, fun _ => ⟨M, by omega, rfl⟩⟩
      by_cases e : L = M
      · rw [e]; exact Nat.le_refl _
      · have := h1 L (by omega); omega
    · rw [if_neg c]
      refine ⟨fun L hL => ?_, h2, fun z => ?_⟩
      · by_cases e : L = M
        · rw [e]; omega
        · exact h1 L (by omega)
      · obtain ⟨L, l1, l2⟩ := h3 z
        exact ⟨L, by omega, l2⟩
/-- the table's answer is the least number of turnings of any run -/
theorem tnB_ok {fr : Nat → Nat → Nat → Bool} {A n nw : Nat} (n12 : n ≤ 12) (h10 : nw ≤ 10) {k L c : Nat} (hp : PtN fr A n nw k A L c) : (∃ k' L', PtN fr A n nw k' A L' (tnB (tnS fr A n nw (2 ^ n)) A 11)) ∧ ∀ k' L' c', PtN fr A n nw k' A L' c' → tnB (tnS fr A n nw (2 ^ n)) A 11 ≤ c' := by
  obtain ⟨h1, h2, h3⟩ := tnB_min (tnS fr A n nw (2 ^ n)) A 11
  have up : ∀ k' L' c', PtN fr A n nw k' A L' c' → tnB (tnS fr A n nw (2 ^ n)) A 11 ≤ c' := by
    intro k' L' c' z
    obtain ⟨-, -, -, q4, -⟩ := PtN_in n12 h10 z
    exact Nat.le_trans (h1 L' q4) (tnS_cmp n12 h10 z)
  refine ⟨?_, up⟩
  obtain ⟨-, -, q3, -, q5⟩ := PtN_in n12 h10 hp
  have := up _ _ _ hp
  have := pcN_le A 12
  obtain ⟨L', l1, l2⟩ := h3 (by omega)
  obtain ⟨k', hk⟩ := tnS_snd (fr := fr) (A := A) (n := n) h10 (2 ^ n) A L' l1 (by omega)
  rw [l2] at hk
  exact ⟨k', L', hk⟩
end PuD
