/-! The two sides agree: which items are free -/
section PuA
theorem and_zero {X B : Nat} : (X &&& B == 0) = true ↔ ∀ j, X.testBit j = true → B.testBit j = false := by
  rw [beq_iff_eq]
  constructor
  · intro h j hj
    have := congrArg (fun z => Nat.testBit z j) h
    simp only [Nat.testBit_and, hj, Bool.true_and, Nat.zero_testBit] at this
    exact this
  · intro h
    apply Nat.eq_of_testBit_eq
    intro j
    rw [Nat.testBit_and, Nat.zero_testBit]
    cases e : X.testBit j with
    | false => rfl
    | true => rw [h j e]; rfl
theorem pOf_bit (it : Nat → Nat) (B : Nat) : ∀ n j, (pOf it B n).testBit j = (decide (j < n) && B.testBit (it j))
  | 0, j => by simp [pOf]
  | n + 1, j => by
    unfold pOf
    by_cases e : B.testBit (it n) = true
    · rw [if_pos e, Nat.testBit_or, pOf_bit it B n j, Nat.testBit_two_pow]
      by_cases e2 : n = j
      · subst e2; simp [e]
      · simp only [e2, decide_false, Bool.or_false]
        congr 1
        rw [decide_eq_decide]
        omega
    · rw [if_neg e, pOf_bit it B n j]
      by_cases e2 : n = j
      · subst e2; simp [e]
      · congr 1
        rw [decide_eq_decide]
        omega
theorem ppM_bit (it : Nat → Nat) (i : Nat) : ∀ n j, (ppM it i n).testBit j = (decide (j < n) && decide (it j = i))
  | 0, j => by simp [ppM]
  | n + 1, j => by
    unfold ppM
    by_cases e : it n = i
    · rw [if_pos e, Nat.testBit_or, ppM_bit it i n j, Nat.testBit_two_pow]
      by_cases e2 : n = j
      · subst e2; simp [e]
      · simp only [e2, decide_false, Bool.or_false]
        congr 1
        rw [decide_eq_decide]
        omega
    · rw [if_neg e, ppM_bit it i n j]
      by_cases e2 : n = j
      · subst e2; simp [e]
      · congr 1
        rw [decide_eq_decide]
        omega
theorem allB_bit (it : Nat → Nat) (j : Nat) : ∀ n, (allB it n).testBit j = true ↔ ∃ p, p < n ∧ it p = j
  | 0 => by simp [allB]
  | n + 1 => by
    unfold allB
    rw [Nat.testBit_or, Bool.or_eq_true, allB_bit it j n, Nat.testBit_two_pow, decide_eq_true_eq]
    constructor
    · rintro (⟨p, h1, h2⟩ | h)
      · exact ⟨p, by omega, h2⟩
      · exact ⟨n, by omega, h⟩
    · rintro ⟨p, h1, h2⟩
      by_cases e : p = n
      · subst e; exact Or.inr h2
      · exact Or.inl ⟨p, by omega, h2⟩
theorem aiM_bit (it : Nat → Nat) (j : Nat) : ∀ n, (aiM it n).testBit j = true ↔ j < n ∧ it j = j
  | 0 => by simp [aiM]
  | n + 1 => by
    unfold aiM
    have ih := aiM_bit it j n
    by_cases e : it n = n
    · rw [if_pos e, Nat.testBit_or, Bool.or_eq_true, ih, Nat.testBit_two_pow, decide_eq_true_eq]
      constructor
      · rintro (h | rfl)
        · exact ⟨by omega, h.2⟩
        · exact ⟨by omega, e⟩
      · rintro ⟨h1, h2⟩
        by_cases e2 : n = j
        · exact Or.inr e2
        · exact Or.inl ⟨by omega, h2⟩
    · rw [if_neg e, ih]
      constructor
      · rintro h; exact ⟨by omega, h.2⟩
      · rintro ⟨h1, h2⟩
        by_cases e2 : n = j
        · subst e2; exact absurd h2 e
        · exact ⟨by omega, h2⟩
theorem aiM_allB {it : Nat → Nat} {n : Nat} (hid : ∀ p, p < n → it (it p) = it p) (hle : ∀ p, p < n → it p ≤ p) : aiM it n = allB it n := by
  apply Nat.eq_of_testBit_eq
  intro j
  rw [Bool.eq_iff_iff, aiM_bit, allB_bit]
  constructor
  · rintro ⟨h1, h2⟩
    exact ⟨j, h1, h2⟩
  · rintro ⟨p, h1, rfl⟩
    exact ⟨by have := hle p h1; omega, hid p h1⟩
theorem ppM_pOf (it : Nat → Nat) (i n : Nat) : ppM it i n = pOf it (2 ^ i) n := by
  apply Nat.eq_of_testBit_eq
  intro j
  rw [ppM_bit, pOf_bit, Nat.testBit_two_pow]
  congr 1
  rw [decide_eq_decide]
  exact ⟨Eq.symm, Eq.symm⟩
theorem TF_congr {m m' : Nat → Nat → Nat → Bool} {it own : Nat → Nat} {nb nw w i : Nat} (h : ∀ a b, a < nb → b < nb → it (own a) = i → it (own b) ≠ it (own a) → (w < nw ∨ w = 10) → m w a b = m' w a b) : TF m it own nb nw w i = TF m' it own nb nw w i := by
  apply Nat.eq_of_testBit_eq
  intro j
  rw [Bool.eq_iff_iff, TF_bit, TF_bit]
  constructor
  · rintro ⟨h1, h2, a, b, h3, h4, h5, h6, h7, h8⟩
    exact ⟨h1, h2, a, b, h3, h4, h5, h6, h7, by rw [← h a b h3 h4 h5 h7 h2]; exact h8⟩
  · rintro ⟨h1, h2, a, b, h3, h4, h5, h6, h7, h8⟩
    exact ⟨h1, h2, a, b, h3, h4, h5, h6, h7, by rw [h a b h3 h4 h5 h7 h2]; exact h8⟩
/-- free by parts is free by items -/
theorem ifM_TF {M : Nat → Nat → Nat → Bool} {it own : Nat → Nat} {n nb nw i w B : Nat} (n12 : n ≤ 12) (hle : ∀ p, p < n → it p ≤ p) (hon : ∀ a, a < nb → own a < n) (hw : w < nw) (hi : i < 12) (hB : B < 4096) : ifM (fun p w => bfM own nb (fun a b => M w a b) p) it n i w B = (TF M it own nb nw w i &&& B == 0) := by
  unfold ifM
  rw [Bool.eq_iff_iff, Bool.not_eq_true', ← Bool.not_eq_true, anyB_iff, and_zero]
  constructor
  · intro h j hj
    obtain ⟨h1, -, a, b, h3, h4, h5, h6, h7, h8⟩ := (TF_bit M it own nb nw w i j).mp hj
    cases e : B.testBit j with
    | false => rfl
    | true =>
      refine absurd ⟨own a, hon a h3, ?_⟩ h
      rw [Bool.and_eq_true, decide_eq_true_eq, Bool.not_eq_true', ← Bool.not_eq_true, and_zero]
      refine ⟨h5, fun z => ?_⟩
      have hb : (bfM own nb (fun a b => M w a b) (own a)).testBit (own b) = true := (bfM_bit _ _ _ _ _).mpr ⟨by have := hon b h4; omega, a, b, h3, h4, rfl, rfl, fun q => h7 (by rw [q]), h8⟩
      have := z (own b) hb
      rw [pOf_bit, decide_eq_true (hon b h4), Bool.true_and, clr_bit hB hi, h6, e, Bool.true_and, Bool.not_eq_false', decide_eq_true_eq] at this
      exact h7 (by rw [h6, this, h5])
  · rintro h ⟨p, hp, hx⟩
    rw [Bool.and_eq_true, decide_eq_true_eq, Bool.not_eq_true', ← Bool.not_eq_true, and_zero] at hx
    refine hx.2 (fun j hj => ?_)
    obtain ⟨h1, a, b, h3, h4, h5, h6, h7, h8⟩ := (bfM_bit _ _ _ _ _).mp hj
    rw [pOf_bit, clr_bit hB hi]
    have hbn := hon b h4
    cases e : B.testBit (it j) with
    | false => simp
    | true =>
      by_cases e2 : it j = i
      · simp [e2]
      · have hT : (TF M it own nb nw w i).testBit (it j) = true := (TF_bit _ _ _ _ _ _ _ _).mpr ⟨by rw [← h6]; have := hle _ hbn; omega, Or.inl hw, a, b, h3, h4, by rw [h5]; exact hx.1, by rw [h6], by rw [h6, h5, hx.1]; exact e2, h8⟩
        rw [h _ hT] at e
        cases e
theorem fstN_ext {p q : Nat → Bool} : ∀ {m w : Nat}, (∀ j, w ≤ j → j < w + m → p j = q j) → fstN p m w = fstN q m w
  | 0, w, _ => rfl
  | m + 1, w, h => by
    unfold fstN
    rw [h w (Nat.le_refl _) (by omega), fstN_ext (fun j h1 h2 => h j (by omega) (by omega))]
theorem woM_lfw {M : Nat → Nat → Nat → Bool} {it own : Nat → Nat} {n nb nw i B : Nat} (n12 : n ≤ 12) (hle : ∀ p, p < n → it p ≤ p) (hon : ∀ a, a < nb → own a < n) (hi : i < 12) (hB : B < 4096) : woM (fun p w => bfM own nb (fun a b => M w a b) p) it n nw i B = lfw (TF M it own nb nw) nw i B := by
  unfold woM lfw
  exact fstN_ext (fun w _ hw => ifM_TF n12 hle hon (by omega) hi hB)
theorem fstN_cut {p q : Nat → Bool} {n m : Nat} (hnm : n ≤ m) (h1 : ∀ j, j < n → p j = q j) (h2 : ∀ j, n ≤ j → j < m → q j = false) : fstN p n 0 = fstN q m 0 := by
  cases e : fstN q m 0 with
  | none =>
    have z := fstN_none e
    cases e2 : fstN p n 0 with
    | none => rfl
    | some k =>
      obtain ⟨-, k1, k2, -⟩ := fstN_some e2
      rw [h1 k (by omega), z k (by omega) (by omega)] at k2
      cases k2
  | some k =>
    obtain ⟨-, k1, k2, k3⟩ := fstN_some e
    have kn : k < n := Nat.lt_of_not_le (fun z => by rw [h2 k z (by omega)] at k2; cases k2)
    cases e2 : fstN p n 0 with
    | none =>
      have z := fstN_none e2 k (by omega) (by omega)
      rw [h1 k kn, k2] at z
      cases z
    | some k' =>
      obtain ⟨-, k1', k2', k3'⟩ := fstN_some e2
      congr 1
      apply Nat.le_antisymm
      · apply Nat.le_of_not_lt
        intro z
        have := k3' k (by omega) z
        rw [h1 k kn, k2] at this
        cases this
      · apply Nat.le_of_not_lt
        intro z
        have := k3 k' (by omega) z
        rw [← h1 k' (by omega), k2'] at this
        cases this
/-- f is the class's least free way -/
def LfE (f : Nat → Nat → Option Nat) (T : Nat → Nat → Nat) (nw : Nat) : Prop := ∀ i B, i < 12 → B < 4096 → f i B = lfw T nw i B
theorem frs_fstI {f : Nat → Nat → Option Nat} {T : Nat → Nat → Nat} {nw n B : Nat} (hf : LfE f T nw) (n12 : n ≤ 12) (hB : B < 4096) (hbn : ∀ j, B.testBit j = true → j < n) : frs f n B = fstI T nw B := by
  unfold frs fstI
  refine fstN_cut n12 (fun j hj => by rw [hf j B (by omega) hB]) (fun j h1 h2 => ?_)
  cases e : B.testBit j with
  | false => rfl
  | true => exact absurd (hbn j e) (by omega)
theorem gS_plS {f : Nat → Nat → Option Nat} {T : Nat → Nat → Nat} {nw n A : Nat} (hf : LfE f T nw) (n12 : n ≤ 12) (hA : A < 4096) (hbn : ∀ j, A.testBit j = true → j < n) : ∀ i, gS f n A i = plS T nw A i ∧ ∀ j, (plS T nw A i).testBit j = true → j < n
  | 0 => ⟨rfl, hbn⟩
  | i + 1 => by
    obtain ⟨h1, h2⟩ := gS_plS hf n12 hA hbn i
    have e := frs_fstI hf n12 (plS_lt hA i) h2
    unfold gS plS
    rw [h1, e]
    cases e2 : fstI T nw (plS T nw A i) with
    | none => exact ⟨rfl, h2⟩
    | some k =>
      refine ⟨rfl, fun j hj => ?_⟩
      have hj : (clr (plS T nw A i) k).testBit j = true := hj
      rw [clr_bit (plS_lt hA i) (fstI_lt e2).1, Bool.and_eq_true] at hj
      exact h2 j hj.1
theorem gT_tkF {f : Nat → Nat → Option Nat} {T : Nat → Nat → Nat} {nw n A : Nat} (hf : LfE f T nw) (n12 : n ≤ 12) (hA : A < 4096) (hbn : ∀ j, A.testBit j = true → j < n) (i : Nat) : gT f n A i = tkF T nw A i := by
  obtain ⟨h1, h2⟩ := gS_plS hf n12 hA hbn i
  unfold gT tkF
  rw [h1, frs_fstI hf n12 (plS_lt hA i) h2]
end PuA
