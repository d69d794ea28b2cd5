/-! The two sides agree: which boxes meet, also when small moves were made -/
section PuF
/-- a number of at most M to either side -/
def Bd (M : Int) (x : Int64) : Prop := -M ≤ x.toInt ∧ x.toInt ≤ M
theorem Bd.add {M N : Int} {x y : Int64} (h1 : Bd M x) (h2 : Bd N y) (hM : M + N ≤ 4000000000000000000) : Bd (M + N) (x + y) ∧ (x + y).toInt = x.toInt + y.toInt := by
  obtain ⟨a1, a2⟩ := h1
  obtain ⟨b1, b2⟩ := h2
  have e : (x + y).toInt = x.toInt + y.toInt := by
    rw [Int64.toInt_add]
    exact Int.bmod_eq_of_le (by omega) (by omega)
  exact ⟨⟨by omega, by omega⟩, e⟩
theorem Bd.sub {M N : Int} {x y : Int64} (h1 : Bd M x) (h2 : Bd N y) (hM : M + N ≤ 4000000000000000000) : Bd (M + N) (x - y) ∧ (x - y).toInt = x.toInt - y.toInt := by
  obtain ⟨a1, a2⟩ := h1
  obtain ⟨b1, b2⟩ := h2
  have e : (x - y).toInt = x.toInt - y.toInt := by
    rw [Int64.toInt_sub]
    exact Int.bmod_eq_of_le (by omega) (by omega)
  exact ⟨⟨by omega, by omega⟩, e⟩
theorem Bd.lt {M N : Int} {x y : Int64} (h1 : Bd M x) (h2 : Bd N y) (hM : M + N ≤ 4000000000000000000) : (x < y ↔ 0 < y - x) ∧ (x < y ↔ x - y < 0) := by
  have e1 := (Bd.sub h1 h2 hM).2
  have e2 := (Bd.sub h2 h1 (by omega)).2
  have z : (0 : Int64).toInt = 0 := by decide
  rw [Int64.lt_iff_toInt_lt, Int64.lt_iff_toInt_lt, Int64.lt_iff_toInt_lt, e1, e2, z]
  exact ⟨by omega, by omega⟩
theorem swB_congr {v v' r r' f f' : Nat → Int64} (h : ∀ x, x < 3 → v x = v' x ∧ r x = r' x ∧ f x = f' x) : swB v r f = swB v' r' f' := by
  have key : ∀ k, k ≤ 3 → swF v r f k = swF v' r' f' k := by
    intro k
    induction k with
    | zero => intro _; rfl
    | succ k ih =>
      intro hk
      obtain ⟨h1, h2, h3⟩ := h k (by omega)
      unfold swF
      rw [ih (by omega), h1, h2, h3]
  unfold swB
  rw [key 3 (Nat.le_refl _)]
/-- at rest: boxes meet just where they overlap -/
theorem swB_rest {v r f : Nat → Int64} (hv : ∀ x, x < 3 → v x = 0) : swB v r f = true ↔ ∀ x, x < 3 → r x < 0 ∧ 0 < f x := by
  have st : ∀ k, k < 3 → swF v r f (k + 1) = match swF v r f k with
    | none => none
    | some S => if 0 ≤ r k ∨ f k ≤ 0 then none else some S := by
    intro k hk
    show (match swF v r f k with | none => none | some S => swS S (v k) (r k) (f k)) = _
    cases e : swF v r f k with
    | none => rfl
    | some S =>
      show swS S (v k) (r k) (f k) = _
      unfold swS
      rw [if_pos (hv k hk)]
  have key : ∀ k, k ≤ 3 → (swF v r f k = some (0, 1, 1, 0) ∧ ∀ x, x < k → r x < 0 ∧ 0 < f x) ∨ (swF v r f k = none ∧ ∃ x, x < k ∧ ¬ (r x < 0 ∧ 0 < f x)) := by
    intro k
    induction k with
    | zero => intro _; exact Or.inl ⟨rfl, fun x hx => by omega⟩
    | succ k ih =>
      intro hk
      rcases ih (by omega) with ⟨a, b⟩ | ⟨a, x, b, c⟩
      · by_cases c : r k < 0 ∧ 0 < f k
        · left
          refine ⟨?_, fun x hx => ?_⟩
          · rw [st k (by omega), a]
            show (if 0 ≤ r k ∨ f k ≤ 0 then none else some (0, 1, 1, 0)) = _
            rw [if_neg (fun z => z.elim (Int64.not_le.mpr c.1) (Int64.not_le.mpr c.2))]
          · by_cases e : x = k
            · rw [e]; exact c
            · exact b x (by omega)
        · right
          refine ⟨?_, k, by omega, c⟩
          rw [st k (by omega), a]
          show (if 0 ≤ r k ∨ f k ≤ 0 then none else some (0, 1, 1, 0)) = _
          rw [if_pos]
          by_cases c1 : r k < 0
          · exact Or.inr (Int64.not_lt.mp (fun z => c ⟨c1, z⟩))
          · exact Or.inl (Int64.not_lt.mp c1)
      · right
        refine ⟨?_, x, by omega, c⟩
        rw [st k (by omega), a]
  unfold swB
  rcases key 3 (Nat.le_refl _) with ⟨a, b⟩ | ⟨a, x, b, c⟩
  · rw [a]
    exact ⟨fun _ => b, fun _ => by decide⟩
  · rw [a]
    exact ⟨fun z => (by cases z), fun z => absurd (z x b) c⟩
/-- the numbers of both sides: boxes, ways -/
def NmE (h g : Hp) (nb nw : Nat) : Prop := (∀ a x, a < nb → x < 3 → g.2 2 (6 * a + x) = h.2 (26 + x) a ∧ g.2 2 (6 * a + (x + 3)) = h.2 (26 + x) a + h.2 (29 + x) a ∧ Bd 1000000 (h.2 (26 + x) a) ∧ Bd 1000000 (h.2 (29 + x) a)) ∧ (∀ w x, w < nw → x < 3 → g.2 3 (3 * w + x) = h.2 (32 + x) w) ∧ ∀ x, x < 3 → h.2 (32 + x) 10 = 0
/-- where the items have been moved: mv in the class, vec in the reference -/
def MvE (h g : Hp) (n : Nat) (it : Nat → Nat) (mv : Nat → Int32) (vec : Nat → Nat → Int64) : Prop := (∀ i o x, i < n → o < n → x < 3 → h.2 (35 + x) (sx (mv i - mv o)) = vec i x - vec o x) ∧ (∀ p x, p < n → x < 3 → g.2 8 (3 * p + x) = vec (it p) x) ∧ ∀ i x, i < n → x < 3 → Bd 4 (vec i x)
theorem sw_mt {h g : Hp} {n : Nat} {it own : Nat → Nat} {nb nw : Nat} {mv : Nat → Int32} {vec : Nat → Nat → Int64} (hN : NmE h g nb nw) (hV : MvE h g n it mv vec) (hle : ∀ p, p < n → it p ≤ p) (hon : ∀ a, a < nb → own a < n) {a b w : Nat} (ha : a < nb) (hb : b < nb) (hw : w < nw) : swM g own a b w = mtB h (sx (mv (it (own a)) - mv (it (own b)))) w a b := by
  unfold swM mtB
  refine swB_congr (fun x hx => ?_)
  have pa := hon a ha
  have pb := hon b hb
  have la := hle _ pa
  have lb := hle _ pb
  obtain ⟨a1, a2, -, -⟩ := hN.1 a x ha hx
  obtain ⟨b1, b2, -, -⟩ := hN.1 b x hb hx
  have m1 := hV.2.1 (own a) x pa hx
  have m2 := hV.2.1 (own b) x pb hx
  have s1 := hV.1 (it (own a)) (it (own b)) x (by omega) (by omega) hx
  refine ⟨hN.2.1 w x hw hx, ?_, ?_⟩
  · unfold edG nearC
    rw [show (x + 3) % 3 = x by omega, show x % 3 = x by omega, a2, b1, m1, m2, s1]
    simp only [Int64.sub_eq_add_neg, Int64.neg_add, Int64.neg_neg]
    ac_rfl
  · unfold edG farC
    rw [show (x + 3) % 3 = x by omega, show x % 3 = x by omega, a1, b2, m1, m2, s1]
    simp only [Int64.sub_eq_add_neg, Int64.neg_add, Int64.neg_neg]
    ac_rfl
theorem ov_mt {h g : Hp} {n : Nat} {it own : Nat → Nat} {nb nw : Nat} {mv : Nat → Int32} {vec : Nat → Nat → Int64} (hN : NmE h g nb nw) (hV : MvE h g n it mv vec) (hle : ∀ p, p < n → it p ≤ p) (hon : ∀ a, a < nb → own a < n) {a b : Nat} (ha : a < nb) (hb : b < nb) : (!anyB (fun k => !ovM g own a b k) 3) = mtB h (sx (mv (it (own a)) - mv (it (own b)))) 10 a b := by
  unfold mtB
  rw [Bool.eq_iff_iff, swB_rest (v := spdC h 10) (fun x hx => hN.2.2 x hx), Bool.not_eq_true', ← Bool.not_eq_true, anyB_iff]
  have pa := hon a ha
  have pb := hon b hb
  have la := hle _ pa
  have lb := hle _ pb
  have one : ∀ x, x < 3 → (ovM g own a b x = true ↔ nearC h (sx (mv (it (own a)) - mv (it (own b)))) a b x < 0 ∧ 0 < farC h (sx (mv (it (own a)) - mv (it (own b)))) a b x) := by
    intro x hx
    obtain ⟨a1, a2, a3, a4⟩ := hN.1 a x ha hx
    obtain ⟨b1, b2, b3, b4⟩ := hN.1 b x hb hx
    have m1 := hV.2.1 (own a) x pa hx
    have m2 := hV.2.1 (own b) x pb hx
    have s1 := hV.1 (it (own a)) (it (own b)) x (by omega) (by omega) hx
    have v1 := hV.2.2 (it (own a)) x (by omega) hx
    have v2 := hV.2.2 (it (own b)) x (by omega) hx
    have e1 : nearC h (sx (mv (it (own a)) - mv (it (own b)))) a b x = edG g own b x - edG g own a (x + 3) := by
      unfold edG nearC
      rw [show (x + 3) % 3 = x by omega, show x % 3 = x by omega, a2, b1, m1, m2, s1]
      simp only [Int64.sub_eq_add_neg, Int64.neg_add, Int64.neg_neg]
      ac_rfl
    have e2 : farC h (sx (mv (it (own a)) - mv (it (own b)))) a b x = edG g own b (x + 3) - edG g own a x := by
      unfold edG farC
      rw [show (x + 3) % 3 = x by omega, show x % 3 = x by omega, a1, b2, m1, m2, s1]
      simp only [Int64.sub_eq_add_neg, Int64.neg_add, Int64.neg_neg]
      ac_rfl
    have ea : Bd (1000000 + 4) (edG g own a x) := by
      unfold edG
      rw [show x % 3 = x by omega, a1, m1]
      exact (Bd.add a3 v1 (by omega)).1
    have eb : Bd (1000000 + 4) (edG g own b x) := by
      unfold edG
      rw [show x % 3 = x by omega, b1, m2]
      exact (Bd.add b3 v2 (by omega)).1
    have fa : Bd (1000000 + 1000000 + 4) (edG g own a (x + 3)) := by
      unfold edG
      rw [show (x + 3) % 3 = x by omega, a2, m1]
      exact (Bd.add (Bd.add a3 a4 (by omega)).1 v1 (by omega)).1
    have fb : Bd (1000000 + 1000000 + 4) (edG g own b (x + 3)) := by
      unfold edG
      rw [show (x + 3) % 3 = x by omega, b2, m2]
      exact (Bd.add (Bd.add b3 b4 (by omega)).1 v2 (by omega)).1
    unfold ovM
    rw [Bool.and_eq_true, decide_eq_true_eq, decide_eq_true_eq, e1, e2, (Bd.lt ea fb (by omega)).1, (Bd.lt eb fa (by omega)).2]
    exact And.comm
  constructor
  · intro z x hx
    refine (one x hx).mp ?_
    cases e : ovM g own a b x with
    | true => rfl
    | false => exact absurd ⟨x, hx, by rw [e]; rfl⟩ z
  · rintro z ⟨x, hx, hq⟩
    rw [(one x hx).mpr (z x hx)] at hq
    cases hq
theorem umB_bit (mv : Nat → Int32) (j : Nat) : ∀ n, (umB mv n).testBit j = true ↔ j < n ∧ mv j = 0
  | 0 => by simp [umB]
  | n + 1 => by
    unfold umB
    have ih := umB_bit mv j n
    by_cases e : mv n = 0
    · rw [if_pos e, Nat.testBit_or, Bool.or_eq_true, ih, Nat.testBit_two_pow, decide_eq_true_eq]
      constructor
      · rintro (h | rfl)
        · exact ⟨by omega, h.2⟩
        · exact ⟨by omega, e⟩
      · rintro ⟨h1, h2⟩
        by_cases e2 : n = j
        · exact Or.inr e2
        · exact Or.inl ⟨by omega, h2⟩
    · rw [if_neg e, ih]
      constructor
      · rintro h; exact ⟨by omega, h.2⟩
      · rintro ⟨h1, h2⟩
        by_cases e2 : n = j
        · subst e2; exact absurd h2 e
        · exact ⟨by omega, h2⟩
/-- barred, where the items have been moved to: by a pair of boxes -/
theorem ib_iff {M : Nat → Nat → Nat → Nat → Bool} {it own : Nat → Nat} {n nb nw i w : Nat} {mv : Nat → Int32} (n12 : n ≤ 12) (hle : ∀ p, p < n → it p ≤ p) (hon : ∀ a, a < nb → own a < n) (hw : w < nw ∨ w = 10) : ibB (fun s => TF (M s) it own nb nw) mv n i w (umB mv n) = true ↔ ∃ a b, a < nb ∧ b < nb ∧ it (own a) = i ∧ it (own b) ≠ i ∧ M (sx (mv i - mv (it (own b)))) w a b = true := by
  unfold ibB
  rw [Bool.or_eq_true, anyB_iff, Bool.not_eq_true', ← Bool.not_eq_true, and_zero]
  constructor
  · rintro (z | ⟨o, o1, o2⟩)
    · have : ∃ j, (TF (M (sx (mv i))) it own nb nw w i).testBit j = true ∧ (umB mv n).testBit j = true := by
        refine Classical.byContradiction (fun q => z (fun j hj => ?_))
        cases e : (umB mv n).testBit j with
        | false => rfl
        | true => exact absurd ⟨j, hj, e⟩ q
      obtain ⟨j, j1, j2⟩ := this
      obtain ⟨u1, u2⟩ := (umB_bit mv j n).mp j2
      obtain ⟨-, -, a, b, h3, h4, h5, h6, h7, h8⟩ := (TF_bit _ _ _ _ _ _ _ _).mp j1
      exact ⟨a, b, h3, h4, h5, by rw [← h5]; exact h7, by rw [h6, u2, Int32.sub_zero]; exact h8⟩
    · rw [Bool.and_eq_true, Bool.and_eq_true, decide_eq_true_eq, decide_eq_true_eq] at o2
      obtain ⟨-, -, a, b, h3, h4, h5, h6, h7, h8⟩ := (TF_bit _ _ _ _ _ _ _ _).mp o2.2.2
      exact ⟨a, b, h3, h4, h5, by rw [← h5]; exact h7, by rw [h6]; exact h8⟩
  · rintro ⟨a, b, h3, h4, h5, h6, h7⟩
    have hb := hon b h4
    have lb := hle _ hb
    have hT : (TF (M (sx (mv i - mv (it (own b))))) it own nb nw w i).testBit (it (own b)) = true := (TF_bit _ _ _ _ _ _ _ _).mpr ⟨by omega, hw, a, b, h3, h4, h5, rfl, by rw [h5]; exact h6, h7⟩
    by_cases e : mv (it (own b)) = 0
    · left
      intro z
      rw [e, Int32.sub_zero] at hT
      have := z _ hT
      rw [(umB_bit mv _ n).mpr ⟨by omega, e⟩] at this
      cases this
    · right
      refine ⟨it (own b), by omega, ?_⟩
      rw [Bool.and_eq_true, Bool.and_eq_true, decide_eq_true_eq, decide_eq_true_eq]
      exact ⟨h6, e, hT⟩
end PuF
