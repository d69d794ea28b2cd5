/-! The two sides agree: hands, stage, locked, keeps, clamp, free -/
section PuB
theorem hg_stay {f : Nat → Nat → Option Nat} {q B i : Nat} (h : q ≤ (hgM f q B i).2) : ∀ d, hgM f q B (i + d) = hgM f q B i
  | 0 => rfl
  | d + 1 => by
    have ih := hg_stay h d
    have e1 : hgM f q B (i + (d + 1)) = if (hgM f q B (i + d)).2 < q ∧ B.testBit (i + d) = true ∧ (f (i + d) B).isSome = true then ((hgM f q B (i + d)).1 ||| 2 ^ (i + d), (hgM f q B (i + d)).2 + 1) else hgM f q B (i + d) := rfl
    rw [e1, if_neg (fun z => absurd z.1 (by rw [ih]; omega)), ih]
theorem foF_hg {f : Nat → Nat → Option Nat} {T : Nat → Nat → Nat} {nw q B : Nat} (hf : LfE f T nw) (hB : B < 4096) : ∀ m i, i + m = 12 → foF (fun i => B.testBit i && (lfw T nw i B).isSome) q m i (hgM f q B i).1 (hgM f q B i).2 = (hgM f q B 12).1
  | 0, i, h => by
    have : i = 12 := by omega
    subst this
    rfl
  | m + 1, i, h => by
    unfold foF
    by_cases c : (hgM f q B i).2 < q
    · rw [if_pos c]
      have ih := foF_hg (q := q) hf hB m (i + 1) (by omega)
      have e1 : hgM f q B (i + 1) = if (hgM f q B i).2 < q ∧ B.testBit i = true ∧ (f i B).isSome = true then ((hgM f q B i).1 ||| 2 ^ i, (hgM f q B i).2 + 1) else hgM f q B i := rfl
      rw [hf i B (by omega) hB] at e1
      by_cases c2 : B.testBit i = true ∧ (lfw T nw i B).isSome = true
      · rw [if_pos ⟨c, c2⟩] at e1
        rw [e1] at ih
        rw [if_pos (by rw [c2.1, c2.2]; rfl)]
        exact ih
      · rw [if_neg (fun z => c2 z.2)] at e1
        rw [e1] at ih
        rw [if_neg (fun z => c2 (by rw [Bool.and_eq_true] at z; exact z))]
        exact ih
    · rw [if_neg c]
      have := hg_stay (f := f) (q := q) (B := B) (i := i) (by omega) (12 - i)
      rw [show i + (12 - i) = 12 by omega] at this
      rw [this]
theorem hg_off {f : Nat → Nat → Option Nat} {q B n : Nat} (hbn : ∀ j, B.testBit j = true → j < n) : ∀ d, hgM f q B (n + d) = hgM f q B n
  | 0 => rfl
  | d + 1 => by
    have ih := hg_off (f := f) (q := q) hbn d
    have e1 : hgM f q B (n + (d + 1)) = if (hgM f q B (n + d)).2 < q ∧ B.testBit (n + d) = true ∧ (f (n + d) B).isSome = true then ((hgM f q B (n + d)).1 ||| 2 ^ (n + d), (hgM f q B (n + d)).2 + 1) else hgM f q B (n + d) := rfl
    rw [e1, if_neg (fun z => absurd (hbn _ z.2.1) (by omega)), ih]
theorem pcN_or {B p : Nat} (hB : B < 4096) (hp : p < 12) (hb : B.testBit p = false) : pcN (B ||| 2 ^ p) 12 = pcN B 12 + 1 := by
  have hS : B ||| 2 ^ p < 4096 := or_lt hB (pw_lt hp)
  have h1 := pcN_clr (S := B ||| 2 ^ p) (i := p) hS hp (by rw [Nat.testBit_or, Nat.testBit_two_pow]; simp) 12
  rw [if_pos hp] at h1
  have e : clr (B ||| 2 ^ p) p = B := by
    apply Nat.eq_of_testBit_eq
    intro j
    rw [clr_bit hS hp, Nat.testBit_or, Nat.testBit_two_pow]
    by_cases e : j = p
    · subst e; simp [hb]
    · simp [e, Ne.symm e]
  rw [e] at h1
  omega
theorem hg_cnt {f : Nat → Nat → Option Nat} {q B : Nat} : ∀ p, p ≤ 12 → pcN (hgM f q B p).1 12 = (hgM f q B p).2
  | 0, _ => by simp [hgM, pcN]
  | p + 1, hp => by
    have ih := hg_cnt (f := f) (q := q) (B := B) p (by omega)
    obtain ⟨h1, h2, h3, -⟩ := hgM_in (f := f) (q := q) (B := B) (p := p) (by omega)
    have e1 : hgM f q B (p + 1) = if (hgM f q B p).2 < q ∧ B.testBit p = true ∧ (f p B).isSome = true then ((hgM f q B p).1 ||| 2 ^ p, (hgM f q B p).2 + 1) else hgM f q B p := rfl
    rw [e1]
    split
    · show pcN ((hgM f q B p).1 ||| 2 ^ p) 12 = (hgM f q B p).2 + 1
      rw [pcN_or h1 (by omega), ih]
      cases e : (hgM f q B p).1.testBit p with
      | false => rfl
      | true => exact absurd (h3 p e).2 (by omega)
    · exact ih
theorem hg_fro {f : Nat → Nat → Option Nat} {T : Nat → Nat → Nat} {nw q B n : Nat} (hf : LfE f T nw) (hB : B < 4096) (n12 : n ≤ 12) (hbn : ∀ j, B.testBit j = true → j < n) : (hgM f q B n).1 = fro T nw B q ∧ (hgM f q B n).2 = pcN (fro T nw B q) 12 := by
  have h1 := foF_hg (q := q) hf hB 12 0 rfl
  have h2 := hg_off (f := f) (q := q) hbn (12 - n)
  rw [show n + (12 - n) = 12 by omega] at h2
  rw [h2] at h1
  have h3 : (hgM f q B n).1 = fro T nw B q := h1.symm
  exact ⟨h3, by rw [← h3, hg_cnt n n12]⟩
theorem pcN_0 {B : Nat} (h : B < 4096) (h0 : pcN B 12 = 0) : B = 0 := by
  have key : ∀ k, pcN B k = 0 → ∀ j, j < k → B.testBit j = false := by
    intro k
    induction k with
    | zero => intro _ j hj; omega
    | succ k ih =>
      intro hk j hj
      unfold pcN at hk
      by_cases e : B.testBit k = true
      · rw [if_pos e] at hk; omega
      · rw [if_neg e] at hk
        by_cases e2 : j = k
        · rw [e2]; simpa using e
        · exact ih hk j (by omega)
  apply Nat.eq_of_testBit_eq
  intro j
  rw [Nat.zero_testBit]
  by_cases hj : j < 12
  · exact key 12 h0 j hj
  · exact Nat.testBit_lt_two_pow (Nat.lt_of_lt_of_le h (by
      have : 2 ^ 12 ≤ 2 ^ j := Nat.pow_le_pow_right (by omega) (by omega)
      omega))
theorem clrS_0 {B : Nat} (h : B < 4096) : clrS B 0 = B := by
  apply Nat.eq_of_testBit_eq
  intro j
  rw [clrS_bit h, Nat.zero_testBit]
  simp
theorem gr0 {T : Nat → Nat → Nat} {nw q : Nat} {k : Int32} {B : Nat} (hB : B < 4096) (h0 : fro T nw B q = 0) : ∀ m r, grF T nw q k m r B = 0
  | 0, r => rfl
  | m + 1, r => by
    unfold grF
    rw [h0, clrS_0 hB, gr0 hB h0 m (r + 1)]
    split
    · rfl
    · rfl
theorem hd_gr {f : Nat → Nat → Option Nat} {T : Nat → Nat → Nat} {nw q n K : Nat} (hf : LfE f T nw) (n12 : n ≤ 12) (hK : K < 2 ^ 31) : ∀ m r B c, m + r = 14 → r ≤ K → r + pcN B 12 ≤ 12 → B < 4096 → (∀ j, B.testBit j = true → j < n) → hdM f n q (nI K) m r B c = grF T nw q (nI K) (12 - r) r B
  | 0, r, B, c, h1, h2, h3, _, _ => by omega
  | m + 1, r, B, c, h1, h2, h3, hB, hbn => by
    obtain ⟨g1, g2⟩ := hg_fro (q := q) hf hB n12 hbn
    have gl := fro_lt T nw B q
    unfold hdM
    rw [if_pos ((nI_leI (by omega) hK).mpr h2), g1, g2]
    by_cases c0 : pcN (fro T nw B q) 12 = 0
    · rw [if_pos c0, gr0 hB (pcN_0 gl c0)]
    · rw [if_neg c0]
      obtain ⟨-, -, b3, b4⟩ := hgM_in (f := f) (q := q) (B := B) (p := n) n12
      rw [g1, g2] at b4
      obtain ⟨j, j1, j2⟩ := b4 c0
      have hlt := pcN_sub (C := clrS B (fro T nw B q)) (B := B) (i := j) (fun z hz => by rw [clrS_bit hB, Bool.and_eq_true] at hz; exact hz.1) ⟨(b3 j (by rw [g1]; exact j2)).1, by rw [clrS_bit hB, j2]; simp⟩ 12
      rw [if_pos (show j < 12 by omega)] at hlt
      obtain ⟨m', hm'⟩ : ∃ m', 12 - r = m' + 1 := ⟨12 - r - 1, by omega⟩
      rw [hm']
      show _ = if nI r = nI K then nI (pcN (fro T nw B q) 12) else grF T nw q (nI K) m' (r + 1) (clrS B (fro T nw B q))
      by_cases e : r = K
      · rw [if_pos (by rw [e])]
        obtain ⟨m2, rfl⟩ : ∃ m2, m = m2 + 1 := ⟨m - 1, by omega⟩
        unfold hdM
        rw [if_neg (fun z => absurd ((nI_leI (by omega) hK).mp z) (by omega))]
      · rw [if_neg (fun z => e ((nI_eq (by omega) hK).mp z))]
        have ih := hd_gr (q := q) (K := K) hf n12 hK m (r + 1) (clrS B (fro T nw B q)) (pcN (fro T nw B q) 12) (by omega) (by omega) (by omega) (clrS_lt hB) (fun j hj => by rw [clrS_bit hB, Bool.and_eq_true] at hj; exact hbn j hj.1)
        rw [ih, show 12 - (r + 1) = m' by omega]
theorem st_sg {w w' : Nat → Int32} {M : Nat} (hw : ∀ j, j < M → w j = w' j) (k : Int32) : ∀ m i b, i + m = M → stF (fun i => w (M - 1 - i)) k m i b = sgM w' M m i (k - b)
  | 0, i, b, h => rfl
  | m + 1, i, b, h => by
    have ih := st_sg hw k m (i + 1)
    have e1 : (i = 0 ∨ w (M - 1 - i) ≠ w (M - 1 - (i - 1))) ↔ (i = 0 ∨ w' (M - 1 - i) ≠ w' (M - i)) := by
      by_cases e : i = 0
      · simp [e]
      · rw [show M - 1 - (i - 1) = M - i by omega, hw _ (by omega), hw _ (by omega)]
    have e2 : b = k ↔ k - b = 0 := by
      constructor
      · intro z; rw [z, Int32.sub_self]
      · intro z
        have := congrArg (· + b) z
        simp only [Int32.sub_add_cancel, Int32.zero_add] at this
        exact this.symm
    unfold stF sgM
    by_cases c1 : i = 0 ∨ w' (M - 1 - i) ≠ w' (M - i)
    · rw [if_pos c1, if_pos (e1.mpr c1)]
      by_cases c2 : k - b = 0
      · rw [if_pos c2, if_pos (e2.mpr c2)]
      · rw [if_neg c2, if_neg (fun z => c2 (e2.mp z)), ih _ (by omega)]
        rw [show k - (b + 1) = k - b - 1 by rw [Int32.sub_eq_add_neg, Int32.neg_add, Int32.sub_eq_add_neg (-b) 1, ← Int32.add_assoc, ← Int32.sub_eq_add_neg, ← Int32.sub_eq_add_neg]]
    · rw [if_neg c1, if_neg (fun z => c1 (e1.mp z)), ih _ (by omega)]
theorem bAt_none {X : Nat} {k : Int32} : ∀ {m i : Nat} {b : Int32}, (∀ j, i ≤ j → X.testBit j = false) → bAt X k m i b = -1
  | 0, i, b, h => rfl
  | m + 1, i, b, h => by
    unfold bAt
    rw [if_neg (by rw [h i (Nat.le_refl _)]; decide)]
    exact bAt_none (fun j hj => h j (by omega))
theorem lc_bAt {it : Nat → Nat} {B n : Nat} (k : Int32) : ∀ m i b, i + m = n → bAt (pOf it B n) k (m + (12 - n)) i b = lcM B it m i (k - b)
  | 0, i, b, h => by
    rw [bAt_none]
    · rfl
    · intro j hj
      rw [pOf_bit, decide_eq_false (by omega)]
      rfl
  | m + 1, i, b, h => by
    have ih := lc_bAt (it := it) (B := B) (n := n) k m (i + 1)
    have e2 : b = k ↔ k - b = 0 := by
      constructor
      · intro z; rw [z, Int32.sub_self]
      · intro z
        have := congrArg (· + b) z
        simp only [Int32.sub_add_cancel, Int32.zero_add] at this
        exact this.symm
    rw [show m + 1 + (12 - n) = (m + (12 - n)) + 1 by omega]
    unfold bAt lcM
    rw [pOf_bit, decide_eq_true (show i < n by omega), Bool.true_and]
    by_cases c1 : B.testBit (it i) = true
    · rw [if_pos c1, if_pos c1]
      by_cases c2 : k - b = 0
      · rw [if_pos c2, if_pos (e2.mpr c2)]
      · rw [if_neg c2, if_neg (fun z => c2 (e2.mp z)), ih _ (by omega)]
        rw [show k - (b + 1) = k - b + -1 by rw [Int32.sub_eq_add_neg k (b + 1), Int32.neg_add, Int32.sub_eq_add_neg (-b) 1, ← Int32.add_assoc, ← Int32.sub_eq_add_neg k b]]
    · rw [if_neg c1, if_neg c1, ih _ (by omega)]
theorem d_small {a b : Nat} (ha : a < 13) (hb : b < 13) : (0 ≤ nI a - nI b → -(nI a - nI b) ≤ 0) ∧ (¬ 0 ≤ nI a - nI b → nI a - nI b ≤ 0) ∧ (0 - (nI a - nI b) = -(nI a - nI b)) := by
  have key : ∀ a : Fin 13, ∀ b : Fin 13, (0 ≤ nI a.val - nI b.val → -(nI a.val - nI b.val) ≤ 0) := by decide +kernel
  refine ⟨key ⟨a, ha⟩ ⟨b, hb⟩, fun z => Int32.le_of_lt (Int32.not_le.mp z), Int32.zero_sub _⟩
theorem ab_kf {a b : Nat} (ha : a < 13) (hb : b < 13) {t : Int32} (ht : 0 ≤ t) : (t < abI (nI a - nI b)) ↔ ¬ (nI a - nI b ≤ t ∧ -(nI a - nI b) ≤ t) := by
  obtain ⟨h1, h2, h3⟩ := d_small ha hb
  unfold abI
  by_cases c : 0 ≤ nI a - nI b
  · rw [if_pos c]
    constructor
    · intro z q
      exact absurd q.1 (Int32.not_le.mpr z)
    · intro z
      refine Int32.not_le.mp (fun q => z ⟨q, Int32.le_trans (h1 c) ht⟩)
  · rw [if_neg c, h3]
    constructor
    · intro z q
      exact absurd q.2 (Int32.not_le.mpr z)
    · intro z
      refine Int32.not_le.mp (fun q => z ⟨Int32.le_trans (h2 c) ht, q⟩)
/-- the step of an item that has gone -/
theorem so_at {T : Nat → Nat → Nat} {nw A m : Nat} (hA : A < 4096) (hn : ∀ j, j < m → fstI T nw (plS T nw A j) ≠ none) (h0 : plS T nw A m = 0) {u : Nat} (hu : A.testBit u = true) : ∃ j, j < m ∧ tkF T nw A j = u ∧ soM (tkF T nw A) u m = j := by
  have tk : ∀ j, j < m → (plS T nw A j).testBit (tkF T nw A j) = true ∧ tkF T nw A j < 12 ∧ plS T nw A (j + 1) = clr (plS T nw A j) (tkF T nw A j) := by
    intro j hj
    cases e : fstI T nw (plS T nw A j) with
    | none => exact absurd e (hn j hj)
    | some k =>
      have et : tkF T nw A j = k := by unfold tkF; rw [e]; rfl
      obtain ⟨k1, k2, -⟩ := fstI_lt e
      rw [et]
      refine ⟨k2, k1, ?_⟩
      show (match fstI T nw (plS T nw A j) with | none => _ | some k => _) = _
      rw [e]
  have ex : ∀ d, d ≤ m → (∃ j, j < d ∧ tkF T nw A j = u) ∨ (plS T nw A d).testBit u = true := by
    intro d
    induction d with
    | zero => intro _; exact Or.inr hu
    | succ d ih =>
      intro hd
      rcases ih (by omega) with ⟨j, j1, j2⟩ | h
      · exact Or.inl ⟨j, by omega, j2⟩
      · by_cases e : tkF T nw A d = u
        · exact Or.inl ⟨d, by omega, e⟩
        · obtain ⟨t1, t2, t3⟩ := tk d (by omega)
          right
          rw [t3, clr_bit (plS_lt hA d) t2, h]
          simp [Ne.symm e]
  rcases ex m (Nat.le_refl _) with ⟨j, j1, j2⟩ | h
  · refine ⟨j, j1, j2, ?_⟩
    have gone : ∀ d, (plS T nw A (j + 1 + d)).testBit u = false := by
      intro d
      obtain ⟨t1, t2, t3⟩ := tk j j1
      refine plS_off hA d ?_
      rw [t3, clr_bit (plS_lt hA j) t2, ← j2]
      simp
    have key : ∀ d, j + 1 + d ≤ m → soM (tkF T nw A) u (j + 1 + d) = j := by
      intro d
      induction d with
      | zero =>
        intro _
        show (if tkF T nw A j = u then j else _) = j
        rw [if_pos j2]
      | succ d ih =>
        intro hd
        show (if tkF T nw A (j + 1 + d) = u then (j + 1 + d) else soM (tkF T nw A) u (j + 1 + d)) = j
        rw [if_neg, ih (by omega)]
        intro z
        have := (tk (j + 1 + d) (by omega)).1
        rw [z, gone d] at this
        cases this
    have := key (m - (j + 1)) (by omega)
    rw [show j + 1 + (m - (j + 1)) = m by omega] at this
    exact this
  · rw [h0, Nat.zero_testBit] at h
    cases h
theorem ex_mc {sel : Nat → Bool} {b e b' e' : Nat → Int64} : ∀ n, (∀ i, i < n → sel i = true → b i = b' i ∧ e i = e' i ∧ b i ≤ 1000000 ∧ -2000000 ≤ e i) → (anyB sel n = true → exF sel b e n = mcF sel b' e' n) ∧ (anyB sel n = false → exF sel b e n = exF sel b e 0 ∧ mcF sel b' e' n = mcF sel b' e' 0)
  | 0, _ => ⟨fun h => by simp [anyB] at h, fun _ => ⟨rfl, rfl⟩⟩
  | n + 1, h => by
    obtain ⟨h1, h2⟩ := ex_mc n (fun i hi => h i (by omega))
    have eE : exF sel b e (n + 1) = if sel n then (if b n < (exF sel b e n).1 then b n else (exF sel b e n).1, if e n < (exF sel b e n).2 then (exF sel b e n).2 else e n) else exF sel b e n := rfl
    have eM : mcF sel b' e' (n + 1) = if sel n then (if b' n < (mcF sel b' e' n).1 then b' n else (mcF sel b' e' n).1, if (mcF sel b' e' n).2 < e' n then e' n else (mcF sel b' e' n).2) else mcF sel b' e' n := rfl
    by_cases c : sel n = true
    · obtain ⟨q1, q2, q3, q4⟩ := h n (by omega) c
      rw [if_pos c] at eE eM
      refine ⟨fun _ => ?_, fun z => by simp [anyB, c] at z⟩
      rw [eE, eM, ← q1, ← q2]
      cases ea : anyB sel n with
      | true =>
        rw [h1 ea]
        congr 1
        by_cases c2 : e n < (mcF sel b' e' n).2
        · rw [if_pos c2, if_neg (Int64.not_lt.mpr (Int64.le_of_lt c2))]
        · rw [if_neg c2]
          by_cases c3 : (mcF sel b' e' n).2 < e n
          · rw [if_pos c3]
          · rw [if_neg c3]
            exact Int64.le_antisymm (Int64.not_lt.mp c3) (Int64.not_lt.mp c2)
      | false =>
        obtain ⟨z1, z2⟩ := h2 ea
        rw [z1, z2]
        show ((if b n < 9223372036854775807 then b n else 9223372036854775807, if e n < -9223372036854775808 then -9223372036854775808 else e n) : Int64 × Int64) = (if b n < 4000000 then b n else 4000000, if -4000000 < e n then e n else -4000000)
        rw [if_pos (Int64.lt_of_le_of_lt q3 (by decide)), if_neg (Int64.not_lt.mpr (Int64.le_trans (by decide) q4)), if_pos (Int64.lt_of_le_of_lt q3 (by decide)), if_pos (Int64.lt_of_lt_of_le (by decide) q4)]
    · rw [if_neg c] at eE eM
      rw [eE, eM]
      have ea : anyB sel (n + 1) = anyB sel n := by simp [anyB, c]
      rw [ea]
      exact ⟨h1, h2⟩
end PuB
