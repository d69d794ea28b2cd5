/-! Sets: the searches -/
section Se2
variable {l : Launch} {D : va_G} {cA : Nat → ClassId} {ad : Nat → Nat} {St : (Nat → Prop) → State → Heap → Prop}
/-- nothing but ints of the cells ki and longs of the cells kl has changed -/
def FrS (ki kl : List Nat) (h h' : Hp) : Prop := (∀ k, k ∉ ki → h'.1 k = h.1 k) ∧ ∀ k, k ∉ kl → h'.2 k = h.2 k
theorem FrS.rf {ki kl : List Nat} {h : Hp} : FrS ki kl h h := ⟨fun _ _ => rfl, fun _ _ => rfl⟩
theorem FrS.upI {ki kl : List Nat} {h h' : Hp} (hf : FrS ki kl h h') {k : Nat} (hk : k ∈ ki) (j : Nat) (v : Int32) : FrS ki kl h (upI h' k j v) := ⟨fun q hq => by
  rw [up_off _ _ _ _ (fun e => hq (by rw [e]; exact hk))]
  exact hf.1 q hq, hf.2⟩
theorem upL_off2 (h : Hp) (k j : Nat) (v : Int64) {q : Nat} (e : q ≠ k) : (upL h k j v).2 q = h.2 q := (upL_off q e).2
theorem FrS.upL {ki kl : List Nat} {h h' : Hp} (hf : FrS ki kl h h') {k : Nat} (hk : k ∈ kl) (j : Nat) (v : Int64) : FrS ki kl h (upL h' k j v) := ⟨hf.1, fun q hq => by
  rw [upL_off2 _ _ _ _ (fun e => hq (by rw [e]; exact hk))]
  exact hf.2 q hq⟩
theorem FrS.tr {ki kl : List Nat} {h h' h'' : Hp} (h1 : FrS ki kl h h') (h2 : FrS ki kl h' h'') : FrS ki kl h h'' := ⟨fun q hq => (h2.1 q hq).trans (h1.1 q hq), fun q hq => (h2.2 q hq).trans (h1.2 q hq)⟩
theorem FrS.more {ki kl ki' kl' : List Nat} {h h' : Hp} (h1 : FrS ki kl h h') (hi : ∀ k, k ∈ ki → k ∈ ki') (hl : ∀ k, k ∈ kl → k ∈ kl') : FrS ki' kl' h h' := ⟨fun q hq => h1.1 q (fun z => hq (hi q z)), fun q hq => h1.2 q (fun z => hq (hl q z))⟩
theorem TbI.frS {ki kl : List Nat} {h h' : Hp} {s : Nat} {T : Nat → Nat → Nat} (hT : TbI h s T) (hf : FrS ki kl h h') (hk : 38 + s ∉ ki) : TbI h' s T := by
  intro w i hw hi
  rw [hf.1 _ hk]
  exact hT w i hw hi
theorem ItI.frS {ki kl : List Nat} {h h' : Hp} {n : Nat} {it : Nat → Nat} (hI : ItI h n it) (hf : FrS ki kl h h') (h1 : 1 ∉ ki) (h9 : 9 ∉ ki) : ItI h' n it := by
  obtain ⟨a, b, d⟩ := hI
  refine ⟨?_, b, ?_⟩
  · rw [hf.1 _ h1]; exact a
  · rw [hf.1 _ h9]; exact d
theorem foF_bit {f : Nat → Bool} {most : Nat} : ∀ {m i bits c : Nat}, c + m ≤ most → ∀ j, (foF f most m i bits c).testBit j = (bits.testBit j || (decide (i ≤ j) && (decide (j < i + m) && f j)))
  | 0, i, bits, c, h, j => by
    unfold foF
    by_cases e : i ≤ j
    · rw [decide_eq_false (show ¬ j < i + 0 by omega)]
      simp
    · simp [e]
  | m + 1, i, bits, c, h, j => by
    unfold foF
    rw [if_pos (by omega)]
    by_cases e : f i
    · rw [if_pos e, foF_bit (by omega), Nat.testBit_or, Nat.testBit_two_pow]
      by_cases e2 : j = i
      · subst e2; simp [e]
      · by_cases e3 : i ≤ j
        · by_cases e4 : j < i + (m + 1)
          · simp [e3, e4, show ¬ i = j by omega, show i + 1 ≤ j by omega, show j < i + 1 + m by omega]
          · simp [e3, e4, show ¬ i = j by omega, show i + 1 ≤ j by omega, show ¬ j < i + 1 + m by omega]
        · simp [e3, show ¬ i = j by omega, show ¬ i + 1 ≤ j by omega]
    · rw [if_neg e, foF_bit (by omega)]
      by_cases e2 : j = i
      · subst e2; simp [e]
      · by_cases e3 : i ≤ j
        · by_cases e4 : j < i + (m + 1)
          · simp [e3, e4, show i + 1 ≤ j by omega, show j < i + 1 + m by omega]
          · simp [e3, e4, show i + 1 ≤ j by omega, show ¬ j < i + 1 + m by omega]
        · simp [e3, show ¬ i + 1 ≤ j by omega]
/-- item i is one of S, and free of the others of S -/
def frB (T : Nat → Nat → Nat) (nw i S : Nat) : Bool := (fro T nw S 12).testBit i
theorem frB_eq (T : Nat → Nat → Nat) (nw i S : Nat) : frB T nw i S = (decide (i < 12) && (S.testBit i && (lfw T nw i S).isSome)) := by
  unfold frB fro
  rw [foF_bit (by omega)]
  simp
theorem frB_lt {T : Nat → Nat → Nat} {nw i S : Nat} (h : frB T nw i S = true) : i < 12 ∧ S.testBit i = true := by
  rw [frB_eq] at h
  simp only [Bool.and_eq_true, decide_eq_true_eq] at h
  exact ⟨h.1, h.2.1⟩
theorem clr_self_lt {S i : Nat} (hS : S < 4096) (hi : i < 12) (hb : S.testBit i = true) : clr S i < S := by
  have hle : clr S i ≤ S := Nat.and_le_left
  rcases Nat.lt_or_ge (clr S i) S with q | q
  · exact q
  · have e : clr S i = S := by omega
    have h1 := clr_bit (j := i) hS hi
    rw [e, hb] at h1
    simp at h1
theorem c_Se_takeEachOff (hSt : StOk St) {h : Hp} {T : Nat → Nat → Nat} {nw : Nat} (hn : h.1 3 0 = nI nw) (h10 : nw ≤ 10) (hT : TbI h 0 T) (S g : Nat) (hS : S < 4096) (hg : g ≤ 12) : Ct l y_Se_takeEachOff prog_7_method_7_code 5 none (rmD 4) D cls cA slC St ad [.ref 7, .int (nI S), .int (nI g)] h (fun r h' => r = none ∧ FrS [24] [23] h h' ∧ (∀ j, j < 12 → h'.1 24 j = if frB T nw j S ∧ (h.1 24 j = -1 ∨ nI g < h.1 24 j) then nI g else h.1 24 j) ∧ ∀ Q, rB h' Q = true ↔ rB h Q = true ∨ ∃ j, j < 12 ∧ frB T nw j S = true ∧ Q = clr S j) := by
  refine Ct.of (tl := T_Se_takeEachOff) (by decide) tk_Se_takeEachOff cls_ok hSt (Nat.le_of_ble_eq_true rfl) (fun V G E C => ?_)
  generalize hgo : fro T nw S 12 = go
  have hgl : go < 4096 := by rw [← hgo]; exact fro_lt T nw S 12
  have L : ∀ i, i ≤ 12 → ∀ hc, FrS [24] [23] h hc → (∀ j, hc.1 24 j = if j < i ∧ (frB T nw j S ∧ (h.1 24 j = -1 ∨ nI g < h.1 24 j)) then nI g else h.1 24 j) → (∀ Q, rB hc Q = true ↔ rB h Q = true ∨ ∃ j, j < i ∧ frB T nw j S = true ∧ Q = clr S j) → V 14 [some (.ref 7), some (.int (nI S)), some (.int (nI g)), some (.int (nI go)), some (.int (nI i))] [] hc := by
    refine loopUp 12 (fun i hi ih => ?_) ?_
    · intro hc hf hb hr
      repeat (first | refine G.sx (fun _ => false) rfl rfl rfl ?_ | refine G.gox (fun _ => false) rfl rfl rfl ?_ | refine G.getx (fun _ => false) rfl rfl rfl rfl ?_)
      refine G.br rfl rfl (fun c1 => absurd c1 (nI_ge (b := 12) hi (by omega))) (fun _ => ?_)
      repeat (first | refine G.sx (fun _ => false) rfl rfl rfl ?_ | refine G.gox (fun _ => false) rfl rfl rfl ?_ | refine G.getx (fun _ => false) rfl rfl rfl rfl ?_)
      refine G.br rfl rfl (fun c1 => ?_) (fun c1 => ?_)
      · have c1 : frB T nw i S = false := by
          rw [bit_at (by omega) (by omega)] at c1
          unfold frB
          rw [hgo]
          simpa using c1
        repeat (first | refine G.sx (fun _ => false) rfl rfl rfl ?_ | refine G.gox (fun _ => false) rfl rfl rfl ?_ | refine G.getx (fun _ => false) rfl rfl rfl rfl ?_)
        refine G.go rfl ?_
        have e2 := ih hc hf (fun j => ?_) (fun Q => ?_)
        · rw [← nI_1] at e2
          exact e2
        · rw [hb j]
          by_cases e : j = i
          · subst e; simp [c1]
          · simp only [show (j < i + 1) = (j < i) from propext ⟨fun q => by omega, fun q => by omega⟩]
        · rw [hr Q]
          constructor
          · rintro (q | ⟨j, q1, q2⟩)
            · exact Or.inl q
            · exact Or.inr ⟨j, by omega, q2⟩
          · rintro (q | ⟨j, q1, q2, q3⟩)
            · exact Or.inl q
            · refine Or.inr ⟨j, ?_, q2, q3⟩
              by_cases e : j = i
              · subst e; rw [c1] at q2; cases q2
              · omega
      · have c1 : frB T nw i S = true := by
          have c1 := (bit_at (by omega) (by omega)).mp c1
          unfold frB
          rw [hgo]
          exact c1
        have hbi : hc.1 24 i = h.1 24 i := by rw [hb i, if_neg (by omega)]
        have J : ∀ hd, FrS [24] [23] h hd → (∀ j, hd.1 24 j = if j < i + 1 ∧ (frB T nw j S ∧ (h.1 24 j = -1 ∨ nI g < h.1 24 j)) then nI g else h.1 24 j) → hd.2 23 = hc.2 23 → V 61 [some (.ref 7), some (.int (nI S)), some (.int (nI g)), some (.int (nI go)), some (.int (nI i))] [] hd := by
          intro hd hf2 hb2 h23
          repeat (first | refine G.sx (fun q => Nat.beq q 70) rfl rfl rfl ?_ | refine G.gox (fun q => Nat.beq q 70) rfl rfl rfl ?_ | refine G.getx (fun q => Nat.beq q 70) rfl rfl rfl rfl ?_)
          show V 70 _ [.int (nI S &&& ((1 : Int32) <<< (nI i &&& 31) ^^^ (-1))), .ref 7] _
          rw [not_1 hS hi]
          refine C.cv [.int (nI (clr S i))] [] rfl cw_Se_60 (d1 := 1) (by omega) (by omega) rfl rfl rfl (c_Se_reach hSt hd (clr S i) (clr_lt hS)) (by decide) (fun r h' hq => ?_)
          obtain ⟨rfl, rfl⟩ := hq
          repeat (first | refine G.sx (fun _ => false) rfl rfl rfl ?_ | refine G.gox (fun _ => false) rfl rfl rfl ?_ | refine G.getx (fun _ => false) rfl rfl rfl rfl ?_)
          refine G.go rfl ?_
          have e2 := ih (rch hd (clr S i)) (hf2.upL (by decide) _ _) hb2 (fun Q => ?_)
          · rw [← nI_1] at e2
            exact e2
          · rw [rB_rch, Bool.or_eq_true, decide_eq_true_iff]
            have e3 : rB hd Q = rB hc Q := by unfold rB; rw [h23]
            rw [e3, hr Q]
            constructor
            · rintro ((q | ⟨j, q1, q2⟩) | q)
              · exact Or.inl q
              · exact Or.inr ⟨j, by omega, q2⟩
              · exact Or.inr ⟨i, by omega, c1, q⟩
            · rintro (q | ⟨j, q1, q2, q3⟩)
              · exact Or.inl (Or.inl q)
              · by_cases e : j = i
                · subst e; exact Or.inr q3
                · exact Or.inl (Or.inr ⟨j, by omega, q2, q3⟩)
        have yes : (h.1 24 i = -1 ∨ nI g < h.1 24 i) → V 53 [some (.ref 7), some (.int (nI S)), some (.int (nI g)), some (.int (nI go)), some (.int (nI i))] [] hc := by
          intro hy
          repeat (first | refine G.sx (fun _ => false) rfl rfl rfl ?_ | refine G.gox (fun _ => false) rfl rfl rfl ?_ | refine G.getx (fun _ => false) rfl rfl rfl rfl ?_)
          refine G.iasn rfl rfl hi (by decide) ?_
          refine J _ (hf.upI (by decide) _ _) (fun j => ?_) rfl
          by_cases e : j = i
          · subst e
            rw [up_eq, if_pos ⟨by omega, c1, hy⟩]
          · rw [up_ne _ _ _ _ e, hb j]
            simp only [show (j < i + 1) = (j < i) from propext ⟨fun q => by omega, fun q => by omega⟩]
        repeat (first | refine G.sx (fun _ => false) rfl rfl rfl ?_ | refine G.gox (fun _ => false) rfl rfl rfl ?_ | refine G.getx (fun _ => false) rfl rfl rfl rfl ?_)
        refine G.ialn rfl rfl hi (by decide) ?_
        rw [hbi]
        repeat (first | refine G.sx (fun _ => false) rfl rfl rfl ?_ | refine G.gox (fun _ => false) rfl rfl rfl ?_ | refine G.getx (fun _ => false) rfl rfl rfl rfl ?_)
        refine G.br rfl rfl (fun c2 => yes (Or.inl c2)) (fun c2 => ?_)
        repeat (first | refine G.sx (fun _ => false) rfl rfl rfl ?_ | refine G.gox (fun _ => false) rfl rfl rfl ?_ | refine G.getx (fun _ => false) rfl rfl rfl rfl ?_)
        refine G.ialn rfl rfl hi (by decide) ?_
        rw [hbi]
        refine G.br rfl rfl (fun c3 => ?_) (fun c3 => yes (Or.inr (Int32.not_le.mp c3)))
        refine J hc hf (fun j => ?_) rfl
        rw [hb j]
        by_cases e : j = i
        · subst e
          rw [if_neg (by omega), if_neg]
          rintro ⟨-, -, q | q⟩
          · exact c2 q
          · exact absurd c3 (Int32.not_le.mpr q)
        · simp only [show (j < i + 1) = (j < i) from propext ⟨fun q => by omega, fun q => by omega⟩]
    · intro hc hf hb hr
      repeat (first | refine G.sx (fun _ => false) rfl rfl rfl ?_ | refine G.gox (fun _ => false) rfl rfl rfl ?_ | refine G.getx (fun _ => false) rfl rfl rfl rfl ?_)
      refine G.br rfl rfl (fun _ => ?_) (fun c1 => absurd (by decide) c1)
      refine E.rv rfl rfl ⟨rfl, hf, fun j hj => ?_, hr⟩
      rw [hb j]
      simp only [hj, true_and]
  repeat (first | refine G.sx (fun _ => false) rfl rfl rfl ?_ | refine G.gox (fun _ => false) rfl rfl rfl ?_ | refine G.getx (fun _ => false) rfl rfl rfl rfl ?_)
  refine C.cv [.int (nI S), .int (nI 12)] [] rfl cw_Se_78 (d1 := 3) (by omega) (by omega) rfl rfl rfl (c_Ba_freeOnes hSt hn h10 S 12 hS (by omega) hT) (by decide) (fun r h' hq => ?_)
  obtain ⟨rfl, rfl⟩ := hq
  rw [hgo]
  repeat (first | refine G.sx (fun q => Nat.beq q 14) rfl rfl rfl ?_ | refine G.gox (fun q => Nat.beq q 14) rfl rfl rfl ?_ | refine G.getx (fun q => Nat.beq q 14) rfl rfl rfl rfl ?_)
  exact L 0 (by omega) h' FrS.rf (fun j => by simp) (fun Q => by simp)
/-- S is what can be left when k items of A have gone, each free then -/
def RcN (fr : Nat → Nat → Bool) (A : Nat) : Nat → Nat → Prop
  | 0, S => S = A
  | k + 1, S => ∃ S' i, RcN fr A k S' ∧ fr i S' = true ∧ S = clr S' i
theorem pcN_clr {S i : Nat} (hS : S < 4096) (hi : i < 12) (hb : S.testBit i = true) : ∀ k, pcN (clr S i) k + (if i < k then 1 else 0) = pcN S k
  | 0 => by simp [pcN]
  | k + 1 => by
    have ih := pcN_clr hS hi hb k
    unfold pcN
    rw [clr_bit hS hi]
    by_cases e : k = i
    · subst e
      simp [hb] at ih ⊢
      exact ih
    · by_cases e2 : i < k
      · simp [e, e2, show i < k + 1 by omega] at ih ⊢
        split <;> omega
      · simp [e, e2, show ¬ i < k + 1 by omega] at ih ⊢
        split <;> omega
theorem RcN_le {T : Nat → Nat → Nat} {nw A : Nat} (hA : A < 4096) : ∀ {k S : Nat}, RcN (frB T nw) A k S → S ≤ A ∧ pcN S 12 + k = pcN A 12
  | 0, S, h => by
    have h : S = A := h
    subst h; exact ⟨Nat.le_refl _, by omega⟩
  | k + 1, S, ⟨S', i, h1, h2, h3⟩ => by
    obtain ⟨q1, q2⟩ := RcN_le hA h1
    obtain ⟨q3, q4⟩ := frB_lt h2
    have q5 := clr_self_lt (S := S') (by omega) q3 q4
    have q6 := pcN_clr (S := S') (by omega) q3 q4 12
    rw [if_pos q3] at q6
    rw [h3]
    exact ⟨by omega, by omega⟩
theorem pcN_le (B : Nat) : ∀ k, pcN B k ≤ k
  | 0 => Nat.le_refl _
  | k + 1 => by
    have := pcN_le B k
    unfold pcN
    split <;> omega
/-- v is the least number of items that go before item i can, as far as the sets above L tell -/
def BfL (T : Nat → Nat → Nat) (nw A L : Nat) (v : Int32) (i : Nat) : Prop := (v = -1 ∧ ∀ k S, L < S → RcN (frB T nw) A k S → frB T nw i S = false) ∨ ∃ k, v = nI k ∧ k ≤ 12 ∧ (∃ S, L < S ∧ RcN (frB T nw) A k S ∧ frB T nw i S = true) ∧ ∀ k' S, L < S → RcN (frB T nw) A k' S → frB T nw i S = true → k ≤ k'
theorem m1_ne {k : Nat} (hk : k < 2 ^ 31) : nI k ≠ -1 := fun e => by
  have h1 := nI_pos hk
  rw [e] at h1
  exact h1 (by decide)
set_option maxHeartbeats 1000000 in
theorem c_Se_findBefore (hSt : StOk St) {h : Hp} {T : Nat → Nat → Nat} {n : Nat} {it : Nat → Nat} {nw : Nat} (hI : ItI h n it) (hn : h.1 3 0 = nI nw) (h10 : nw ≤ 10) (hT : TbI h 0 T) (hA : allB it n < 4096) : Ct l y_Se_findBefore prog_7_method_6_code 3 none (rmD 5) D cls cA slC St ad [.ref 7] h (fun r h' => r = none ∧ FrS [24] [23] h h' ∧ ∀ i, i < 12 → BfL T nw (allB it n) 0 (h'.1 24 i) i) := by
  generalize hA0 : allB it n = A at hA
  refine Ct.of (tl := T_Se_findBefore) (by decide) tk_Se_findBefore cls_ok hSt (Nat.le_of_ble_eq_true rfl) (fun V G E C => ?_)
  have Lp : ∀ L, L ≤ A → ∀ hc, FrS [24] [23] h hc → (∀ i, i < 12 → BfL T nw A L (hc.1 24 i) i) → (∀ Q, Q < 4096 → (rB hc Q = true ↔ Q = A ∨ ∃ k S i, L < S ∧ RcN (frB T nw) A k S ∧ frB T nw i S = true ∧ Q = clr S i)) → V 31 [some (.ref 7), some (.int (nI A)), some (.int (nI L))] [] hc := by
    intro L
    induction L with
    | zero =>
      intro _ hc hf hb hr
      repeat (first | refine G.sx (fun _ => false) rfl rfl rfl ?_ | refine G.gox (fun _ => false) rfl rfl rfl ?_ | refine G.getx (fun _ => false) rfl rfl rfl rfl ?_)
      refine G.br rfl rfl (fun _ => ?_) (fun c1 => absurd (by decide) c1)
      exact E.rv rfl rfl ⟨rfl, hf, hb⟩
    | succ L ih =>
      intro hL hc hf hb hr
      have hnc : hc.1 3 0 = nI nw := by rw [hf.1 3 (by decide)]; exact hn
      have hTc := hT.frS hf (by decide)
      have rc : rB hc (L + 1) = true ↔ ∃ k, RcN (frB T nw) A k (L + 1) := by
        rw [hr (L + 1) (by omega)]
        constructor
        · rintro (q | ⟨k, S, i, q1, q2, q3, q4⟩)
          · exact ⟨0, q⟩
          · exact ⟨k + 1, S, i, q2, q3, q4⟩
        · rintro ⟨k, hk⟩
          cases k with
          | zero => exact Or.inl hk
          | succ k =>
            obtain ⟨S, i, q1, q2, q3⟩ := hk
            have q4 := RcN_le hA q1
            have q5 := frB_lt q2
            have q6 := clr_self_lt (S := S) (by omega) q5.1 q5.2
            exact Or.inr ⟨k, S, i, by omega, q1, q2, q3⟩
      repeat (first | refine G.sx (fun _ => false) rfl rfl rfl ?_ | refine G.gox (fun _ => false) rfl rfl rfl ?_ | refine G.getx (fun _ => false) rfl rfl rfl rfl ?_)
      refine G.br rfl rfl (fun c1 => absurd c1 (nI_nle (by omega) (by omega))) (fun _ => ?_)
      repeat (first | refine G.sx (fun _ => false) rfl rfl rfl ?_ | refine G.gox (fun _ => false) rfl rfl rfl ?_ | refine G.getx (fun _ => false) rfl rfl rfl rfl ?_)
      refine C.cv [.int (nI (L + 1))] [] rfl cw_Se_64 (d1 := 1) (by omega) (by omega) rfl rfl rfl (c_Se_isReached hSt hc (L + 1) (by omega)) (by decide) (fun r h' hq => ?_)
      obtain ⟨rfl, rfl⟩ := hq
      have J : ∀ hd, FrS [24] [23] h hd → (∀ i, i < 12 → BfL T nw A L (hd.1 24 i) i) → (∀ Q, Q < 4096 → (rB hd Q = true ↔ Q = A ∨ ∃ k S i, L < S ∧ RcN (frB T nw) A k S ∧ frB T nw i S = true ∧ Q = clr S i)) → V 57 [some (.ref 7), some (.int (nI A)), some (.int (nI (L + 1)))] [] hd := by
        intro hd q1 q2 q3
        have e2 := ih (by omega) hd q1 q2 q3
        rw [← pk_m1 L] at e2
        repeat (first | refine G.sx (fun _ => false) rfl rfl rfl ?_ | refine G.gox (fun _ => false) rfl rfl rfl ?_ | refine G.getx (fun _ => false) rfl rfl rfl rfl ?_)
        refine G.go rfl ?_
        exact e2
      by_cases hq : rB h' (L + 1) = true
      · rw [if_pos hq]
        obtain ⟨k, hk⟩ := rc.mp hq
        have hk2 := RcN_le hA hk
        have hp := pcN_le A 12
        refine G.br rfl rfl (fun c1 => absurd c1 (by decide)) (fun _ => ?_)
        repeat (first | refine G.sx (fun _ => false) rfl rfl rfl ?_ | refine G.gox (fun _ => false) rfl rfl rfl ?_ | refine G.getx (fun _ => false) rfl rfl rfl rfl ?_)
        refine C.cs [.int (nI A)] [.int (nI (L + 1)), .ref 7] rfl cw_Se_68 (d1 := 1) (by omega) (by omega) rfl (c_Ji_bitCount hSt h' A hA) (Nat.le_of_ble_eq_true rfl) (fun r h'' hq2 => ?_)
        obtain ⟨rfl, rfl⟩ := hq2
        repeat (first | refine G.sx (fun _ => false) rfl rfl rfl ?_ | refine G.gox (fun _ => false) rfl rfl rfl ?_ | refine G.getx (fun _ => false) rfl rfl rfl rfl ?_)
        refine C.cs [.int (nI (L + 1))] [.int (nI (pcN A 12)), .int (nI (L + 1)), .ref 7] rfl cw_Se_68 (d1 := 1) (by omega) (by omega) rfl (c_Ji_bitCount hSt h'' (L + 1) (by omega)) (Nat.le_of_ble_eq_true rfl) (fun r h3 hq2 => ?_)
        obtain ⟨rfl, rfl⟩ := hq2
        repeat (first | refine G.sx (fun q => Nat.beq q 54) rfl rfl rfl ?_ | refine G.gox (fun q => Nat.beq q 54) rfl rfl rfl ?_ | refine G.getx (fun q => Nat.beq q 54) rfl rfl rfl rfl ?_)
        show V 54 _ [.int (nI (pcN A 12) - nI (pcN (L + 1) 12)), .int (nI (L + 1)), .ref 7] _
        rw [pk_sub (by omega), show pcN A 12 - pcN (L + 1) 12 = k by omega]
        refine C.cv [.int (nI (L + 1)), .int (nI k)] [] rfl cw_Se_74 (d1 := 4) (by omega) (by omega) rfl rfl rfl (c_Se_takeEachOff hSt hnc h10 hTc (L + 1) k (by omega) (by omega)) (by decide) (fun r hd hq2 => ?_)
        obtain ⟨rfl, g1, g2, g3⟩ := hq2
        refine J hd (hf.tr g1) (fun i hi => ?_) (fun Q hQ => ?_)
        · rw [g2 i hi]
          have lo : ∀ S, L < S → S = L + 1 ∨ L + 1 < S := fun S q => by omega
          have kk : ∀ k', RcN (frB T nw) A k' (L + 1) → k' = k := fun k' q => by have := RcN_le hA q; omega
          rcases hb i hi with ⟨b1, b2⟩ | ⟨k0, b1, b0, ⟨S0, b3, b4, b5⟩, b6⟩
          · by_cases hfr : frB T nw i (L + 1) = true
            · rw [if_pos ⟨hfr, Or.inl b1⟩]
              refine Or.inr ⟨k, rfl, by omega, ⟨L + 1, by omega, hk, hfr⟩, fun k' S q1 q2 q3 => ?_⟩
              rcases lo S q1 with rfl | q4
              · rw [kk k' q2]; exact Nat.le_refl _
              · rw [b2 k' S q4 q2] at q3; cases q3
            · rw [if_neg (fun q => hfr q.1)]
              refine Or.inl ⟨b1, fun k' S q1 q2 => ?_⟩
              rcases lo S q1 with rfl | q4
              · simpa using hfr
              · exact b2 k' S q4 q2
          · by_cases hfr : frB T nw i (L + 1) = true ∧ k < k0
            · rw [if_pos ⟨hfr.1, Or.inr (by rw [b1]; exact nI_lt hfr.2 (by omega))⟩]
              refine Or.inr ⟨k, rfl, by omega, ⟨L + 1, by omega, hk, hfr.1⟩, fun k' S q1 q2 q3 => ?_⟩
              rcases lo S q1 with rfl | q4
              · rw [kk k' q2]; exact Nat.le_refl _
              · have := b6 k' S q4 q2 q3; omega
            · rw [if_neg]
              · refine Or.inr ⟨k0, b1, b0, ⟨S0, by omega, b4, b5⟩, fun k' S q1 q2 q3 => ?_⟩
                rcases lo S q1 with rfl | q4
                · rw [kk k' q2]
                  rcases Nat.lt_or_ge k k0 with z | z
                  · exact absurd ⟨q3, z⟩ hfr
                  · exact z
                · exact b6 k' S q4 q2 q3
              · rintro ⟨z1, z2 | z2⟩
                · rw [b1] at z2; exact m1_ne (by omega) z2
                · rw [b1] at z2
                  refine hfr ⟨z1, ?_⟩
                  exact (nI_ltI (by omega) (by omega)).mp z2
        · rw [g3 Q, hr Q hQ]
          constructor
          · rintro ((q | ⟨k', S, i, q1, q2⟩) | ⟨j, q1, q2, q3⟩)
            · exact Or.inl q
            · exact Or.inr ⟨k', S, i, by omega, q2⟩
            · exact Or.inr ⟨k, L + 1, j, by omega, hk, q2, q3⟩
          · rintro (q | ⟨k', S, i, q1, q2, q3, q4⟩)
            · exact Or.inl (Or.inl q)
            · by_cases e : S = L + 1
              · subst e
                exact Or.inr ⟨i, (frB_lt q3).1, q3, q4⟩
              · exact Or.inl (Or.inr ⟨k', S, i, by omega, q2, q3, q4⟩)
      · rw [if_neg hq]
        refine G.br rfl rfl (fun _ => ?_) (fun c1 => absurd rfl c1)
        have no : ∀ k', ¬ RcN (frB T nw) A k' (L + 1) := fun k' q => hq (rc.mpr ⟨k', q⟩)
        refine J h' hf (fun i hi => ?_) (fun Q hQ => ?_)
        · rcases hb i hi with ⟨b1, b2⟩ | ⟨k0, b1, b0, ⟨S0, b3, b4, b5⟩, b6⟩
          · refine Or.inl ⟨b1, fun k' S q1 q2 => ?_⟩
            by_cases e : S = L + 1
            · subst e; exact absurd q2 (no k')
            · exact b2 k' S (by omega) q2
          · refine Or.inr ⟨k0, b1, b0, ⟨S0, by omega, b4, b5⟩, fun k' S q1 q2 q3 => ?_⟩
            by_cases e : S = L + 1
            · subst e; exact absurd q2 (no k')
            · exact b6 k' S (by omega) q2 q3
        · rw [hr Q hQ]
          constructor
          · rintro (q | ⟨k', S, i, q1, q2⟩)
            · exact Or.inl q
            · exact Or.inr ⟨k', S, i, by omega, q2⟩
          · rintro (q | ⟨k', S, i, q1, q2, q3⟩)
            · exact Or.inl q
            · by_cases e : S = L + 1
              · subst e; exact absurd q2 (no k')
              · exact Or.inr ⟨k', S, i, by omega, q2, q3⟩
  repeat (first | refine G.sx (fun _ => false) rfl rfl rfl ?_ | refine G.gox (fun _ => false) rfl rfl rfl ?_ | refine G.getx (fun _ => false) rfl rfl rfl rfl ?_)
  refine C.cv [] [] rfl cw_Se_45 (d1 := 1) (by omega) (by omega) rfl rfl rfl (c_It_all hSt hI) (by decide) (fun r h' hq => ?_)
  obtain ⟨rfl, rfl⟩ := hq
  rw [hA0]
  repeat (first | refine G.sx (fun _ => false) rfl rfl rfl ?_ | refine G.gox (fun _ => false) rfl rfl rfl ?_ | refine G.getx (fun _ => false) rfl rfl rfl rfl ?_)
  refine C.cs [.ref 24, .int (-1)] [] rfl cw_Se_51 (d1 := 1) (by omega) (by omega) rfl (c_Ja_fillI hSt h' (a := 24) rfl (by decide) (-1)) (by decide) (fun r h1 hq => ?_)
  obtain ⟨rfl, rfl⟩ := hq
  repeat (first | refine G.sx (fun _ => false) rfl rfl rfl ?_ | refine G.gox (fun _ => false) rfl rfl rfl ?_ | refine G.getx (fun _ => false) rfl rfl rfl rfl ?_)
  refine C.cs [.ref 23, .long 0] [] rfl cw_Se_57 (d1 := 1) (by omega) (by omega) rfl (c_Ja_fillJ hSt _ (a := 23) rfl (by decide) 0) (by decide) (fun r h2 hq => ?_)
  obtain ⟨rfl, rfl⟩ := hq
  repeat (first | refine G.sx (fun _ => false) rfl rfl rfl ?_ | refine G.gox (fun _ => false) rfl rfl rfl ?_ | refine G.getx (fun _ => false) rfl rfl rfl rfl ?_)
  refine C.cv [.int (nI A)] [] rfl cw_Se_60 (d1 := 1) (by omega) (by omega) rfl rfl rfl (c_Se_reach hSt _ A hA) (by decide) (fun r h3 hq => ?_)
  obtain ⟨rfl, rfl⟩ := hq
  repeat (first | refine G.sx (fun q => Nat.beq q 31) rfl rfl rfl ?_ | refine G.gox (fun q => Nat.beq q 31) rfl rfl rfl ?_ | refine G.getx (fun q => Nat.beq q 31) rfl rfl rfl rfl ?_)
  have top : ∀ k S, A < S → ¬ RcN (frB T nw) A k S := fun k S q1 q2 => by have := RcN_le hA q2; omega
  refine Lp A (Nat.le_refl _) _ ?_ (fun i hi => ?_) (fun Q hQ => ?_)
  · refine FrS.upL ?_ (by decide) _ _
    refine ⟨fun q hq => ?_, fun q hq => ?_⟩
    · show (setI h' 24 _).1 q = _
      exact setI_ne _ _ (fun e => hq (by rw [e]; decide))
    · exact setL_ne _ _ (fun e => hq (by rw [e]; decide))
  · refine Or.inl ⟨?_, fun k S q1 q2 => absurd q2 (top k S q1)⟩
    show (setI h' 24 (fun j => if j < 12 then -1 else h'.1 24 j)).1 24 i = -1
    rw [setI_at, if_pos hi]
  · rw [rB_rch, Bool.or_eq_true, decide_eq_true_iff]
    constructor
    · rintro (q | q)
      · exfalso
        unfold rB at q
        rw [setL_at, if_pos (by omega), lbit_bv (Nat.mod_lt _ (by omega))] at q
        simp at q
      · exact Or.inl q
    · rintro (q | ⟨k, S, i, q1, q2, -⟩)
      · exact Or.inr q
      · exact absurd q2 (top k S q1)
theorem c_Se_leastBefore (hSt : StOk St) {h : Hp} {T : Nat → Nat → Nat} {n : Nat} {it : Nat → Nat} {nw : Nat} (hI : ItI h n it) (hn : h.1 3 0 = nI nw) (h10 : nw ≤ 10) (hT : TbI h 0 T) (hA : allB it n < 4096) (hk : h.1 7 5 = 0 ∨ h.1 7 5 = 1 ∧ ∀ i, i < 12 → BfL T nw (allB it n) 0 (h.1 24 i) i) (i : Nat) (hi : i < 12) : Ct l y_Se_leastBefore prog_7_method_5_code 2 (some .int) (rmD 6) D cls cA slC St ad [.ref 7, .int (nI i)] h (fun r h' => r = some (.int (h'.1 24 i)) ∧ (∀ i, i < 12 → BfL T nw (allB it n) 0 (h'.1 24 i) i) ∧ FrS [7, 24] [23] h h' ∧ h'.1 7 5 = 1 ∧ h'.1 7 6 = h.1 7 6 ∧ h'.1 7 7 = h.1 7 7) := by
  refine Ct.of (tl := T_Se_leastBefore) (by decide) tk_Se_leastBefore cls_ok hSt (Nat.le_of_ble_eq_true rfl) (fun V G E C => ?_)
  have J : ∀ hc, (∀ i, i < 12 → BfL T nw (allB it n) 0 (hc.1 24 i) i) → FrS [7, 24] [23] h hc → hc.1 7 5 = 1 → hc.1 7 6 = h.1 7 6 → hc.1 7 7 = h.1 7 7 → V 16 [some (.ref 7), some (.int (nI i))] [] hc := by
    intro hc q1 q2 q3 q4 q5
    repeat (first | refine G.sx (fun _ => false) rfl rfl rfl ?_ | refine G.gox (fun _ => false) rfl rfl rfl ?_ | refine G.getx (fun _ => false) rfl rfl rfl rfl ?_)
    refine G.ialn rfl rfl hi (by decide) ?_
    exact E.ri rfl (Or.inl rfl) ⟨rfl, q1, q2, q3, q4, q5⟩
  repeat (first | refine G.sx (fun _ => false) rfl rfl rfl ?_ | refine G.gox (fun _ => false) rfl rfl rfl ?_ | refine G.getx (fun _ => false) rfl rfl rfl rfl ?_)
  rcases hk with hk | ⟨hk, hb⟩
  · refine G.br rfl rfl (fun c1 => absurd hk c1) (fun _ => ?_)
    repeat (first | refine G.sx (fun _ => false) rfl rfl rfl ?_ | refine G.gox (fun _ => false) rfl rfl rfl ?_ | refine G.getx (fun _ => false) rfl rfl rfl rfl ?_)
    refine C.cv [] [] rfl cw_Se_42 (d1 := 5) (by omega) (by omega) rfl rfl rfl (c_Se_findBefore hSt hI hn h10 hT hA) (by decide) (fun r h' hq => ?_)
    obtain ⟨rfl, g1, g2⟩ := hq
    repeat (first | refine G.sx (fun _ => false) rfl rfl rfl ?_ | refine G.gox (fun _ => false) rfl rfl rfl ?_ | refine G.getx (fun _ => false) rfl rfl rfl rfl ?_)
    refine G.putz rfl rfl rfl (Or.inr rfl) ?_
    refine J _ (fun i hi => ?_) ((g1.more (by decide) (fun _ q => q)).upI (by decide) _ _) (up_eq _ _ _ _) ?_ ?_
    · rw [up_off _ _ _ _ (by decide)]; exact g2 i hi
    · rw [up_ne _ _ _ _ (by decide), g1.1 7 (by decide)]
    · rw [up_ne _ _ _ _ (by decide), g1.1 7 (by decide)]
  · refine G.br rfl rfl (fun c1 => ?_) (fun c1 => absurd (hk.symm.trans c1) (by decide))
    exact J h hb FrS.rf hk rfl rfl
end Se2
