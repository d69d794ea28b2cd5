/-! The reference: barsOf, reckonBars, isItem, has, partsOf, allParts, allItems, isFree, wayOut, hasBox -/
section MoD
variable {l : Launch} {D : va_G} {cA : Nat → ClassId} {ad : Nat → Nat} {St : (Nat → Prop) → State → Heap → Prop}
/-- the parts whose boxes are met by boxes of part p -/
def bfM (own : Nat → Nat) (nb : Nat) (M : Nat → Nat → Bool) (p : Nat) : Nat := foF (fun j => anyB (fun a => anyB (fun b => decide (own a = p ∧ own b = j ∧ own b ≠ p) && M a b) nb) nb) 12 12 0 0 0
theorem bfM_lt (own : Nat → Nat) (nb : Nat) (M : Nat → Nat → Bool) (p : Nat) : bfM own nb M p < 4096 := foF_lt rfl (Nat.lt_of_sub_eq_succ rfl)
theorem bfM_bit (own : Nat → Nat) (nb : Nat) (M : Nat → Nat → Bool) (p j : Nat) : (bfM own nb M p).testBit j = true ↔ j < 12 ∧ ∃ a b, a < nb ∧ b < nb ∧ own a = p ∧ own b = j ∧ own b ≠ p ∧ M a b = true := by
  unfold bfM
  rw [foF_bit (by omega)]
  simp only [Nat.zero_testBit, Bool.false_or, Nat.zero_le, decide_true, Bool.true_and, Nat.zero_add, Bool.and_eq_true, decide_eq_true_eq, anyB_iff]
  constructor
  · rintro ⟨h1, a, h3, b, h4, ⟨h5, h6, h7⟩, h8⟩
    exact ⟨h1, a, b, h3, h4, h5, h6, h7, h8⟩
  · rintro ⟨h1, a, b, h3, h4, h5, h6, h7, h8⟩
    exact ⟨h1, a, h3, b, h4, ⟨h5, h6, h7⟩, h8⟩
/-- the bits that the pairs ahead of (a, b) have given -/
def InB (own : Nat → Nat) (nb : Nat) (M : Nat → Nat → Bool) (p a b B : Nat) : Prop := B < 4096 ∧ ∀ j, B.testBit j = true ↔ ∃ a' b', (a' < a ∧ b' < nb ∨ a' = a ∧ b' < b) ∧ own a' = p ∧ own b' = j ∧ own b' ≠ p ∧ M a' b' = true
theorem InB.skip {own : Nat → Nat} {nb : Nat} {M : Nat → Nat → Bool} {p a b B : Nat} (h : InB own nb M p a b B) (hx : own a ≠ p ∨ own b = p ∨ B.testBit (own b) = true ∨ M a b = false) : InB own nb M p a (b + 1) B := by
  refine ⟨h.1, fun j => ?_⟩
  rw [h.2 j]
  constructor
  · rintro ⟨a', b', z, r⟩
    exact ⟨a', b', by omega, r⟩
  · rintro ⟨a', b', z, r1, r2, r3, r4⟩
    by_cases e : a' = a ∧ b' = b
    · obtain ⟨rfl, rfl⟩ := e
      rcases hx with q | q | q | q
      · exact absurd r1 q
      · exact absurd q r3
      · rw [r2] at q
        exact (h.2 j).mp q
      · rw [q] at r4; cases r4
    · exact ⟨a', b', by omega, r1, r2, r3, r4⟩
theorem InB.add {own : Nat → Nat} {nb : Nat} {M : Nat → Nat → Bool} {p a b B : Nat} (h : InB own nb M p a b B) (h1 : own a = p) (h2 : own b ≠ p) (h3 : M a b = true) (h12 : own b < 12) : InB own nb M p a (b + 1) (B ||| 2 ^ own b) := by
  refine ⟨or_lt h.1 (pw_lt h12), fun j => ?_⟩
  rw [Nat.testBit_or, Nat.testBit_two_pow, Bool.or_eq_true, h.2 j, decide_eq_true_eq]
  constructor
  · rintro (⟨a', b', z, r⟩ | e)
    · exact ⟨a', b', by omega, r⟩
    · exact ⟨a, b, by omega, h1, e, h2, h3⟩
  · rintro ⟨a', b', z, r1, r2, r3, r4⟩
    by_cases e : a' = a ∧ b' = b
    · obtain ⟨rfl, rfl⟩ := e
      exact Or.inr r2
    · exact Or.inl ⟨a', b', by omega, r1, r2, r3, r4⟩
theorem InB.next {own : Nat → Nat} {nb : Nat} {M : Nat → Nat → Bool} {p a B : Nat} (h : InB own nb M p a nb B) : InB own nb M p (a + 1) 0 B := by
  refine ⟨h.1, fun j => ?_⟩
  rw [h.2 j]
  constructor
  · rintro ⟨a', b', z, r⟩
    exact ⟨a', b', by omega, r⟩
  · rintro ⟨a', b', z, r⟩
    exact ⟨a', b', by omega, r⟩
theorem InB.all {own : Nat → Nat} {nb : Nat} {M : Nat → Nat → Bool} {p B : Nat} (h : InB own nb M p nb 0 B) (h12 : ∀ b, b < nb → own b < 12) : B = bfM own nb M p := by
  apply Nat.eq_of_testBit_eq
  intro j
  rw [Bool.eq_iff_iff, h.2 j, bfM_bit]
  constructor
  · rintro ⟨a', b', z, r1, r2, r3, r4⟩
    exact ⟨by rw [← r2]; exact h12 b' (by omega), a', b', by omega, by omega, r1, r2, r3, r4⟩
  · rintro ⟨-, a', b', z1, z2, r⟩
    exact ⟨a', b', by omega, r⟩
theorem bit_0 {B i : Nat} (hB : B < 2 ^ 31) (hi : i < 32) : (nI B >>> (nI i &&& 31) &&& 1 = 0) ↔ B.testBit i = false := by
  rw [shr_n hB hi, show (1 : Int32) = nI 1 from rfl, nI_and, Nat.and_one_is_mod, show (0 : Int32) = nI 0 from rfl, nI_eq (by omega) (by omega), Nat.testBit_eq_decide_div_mod_eq, decide_eq_false_iff_not]
  omega
theorem c_Mo_barsOf (hSt : StOk St) {g : Hp} {nb : Nat} {own : Nat → Nat} (hO : OwI g nb own) (p w : Nat) (hp : p < 12) (hw : w < 10) : Ct l y_Mo_barsOf prog_11_method_12_code 7 (some .int) (rmD 3) D cls cA slM St ad [.ref 0, .int (nI p), .int (nI w)] g (fun r g' => r = some (.int (nI (bfM own nb (fun a b => swM g own a b w) p))) ∧ g' = g) := by
  obtain ⟨hn, h40, ho⟩ := id hO
  refine Ct.of (tl := T_Mo_barsOf) (by decide) tk_Mo_barsOf cls_ok hSt (Nat.le_of_ble_eq_true rfl) (fun V G E C => ?_)
  have L : ∀ a, a ≤ nb → ∀ B, InB own nb (fun a b => swM g own a b w) p a 0 B → V 5 [some (.ref 0), some (.int (nI p)), some (.int (nI w)), some (.int (nI B)), some (.int (nI a)), none, none] [] g := by
    refine loopUp nb (fun a ha iha => ?_) ?_
    · intro B hB
      obtain ⟨oa1, oa2⟩ := ho a ha
      have L2 : ∀ b, b ≤ nb → ∀ B, InB own nb (fun a b => swM g own a b w) p a b B → V 17 [some (.ref 0), some (.int (nI p)), some (.int (nI w)), some (.int (nI B)), some (.int (nI a)), some (.int (nI b)), none] [] g := by
        refine loopUp nb (fun b hb ihb => ?_) ?_
        · intro B hB
          obtain ⟨ob1, ob2⟩ := ho b hb
          have hB1 := hB.1
          have J : ∀ B' (o : Option Value) (B0 : Int32), InB own nb (fun a b => swM g own a b w) p a (b + 1) B' → V 101 [some (.ref 0), some (.int (nI p)), some (.int (nI w)), some (.int B0), some (.int (nI a)), some (.int (nI b)), o] [.int (nI B')] g := by
            intro B' o B0 hB'
            have i1 := ihb B' hB'
            rw [← nI_1] at i1
            repeat (first | refine G.sx (fun _ => false) rfl rfl rfl ?_ | refine G.gox (fun _ => false) rfl rfl rfl ?_ | refine G.getx (fun _ => false) rfl rfl rfl rfl ?_)
            refine G.go rfl ?_
            refine G.le _ ?_ i1
            repeat (first | exact leL_0 | refine leL_c rfl ?_ | refine leL_n ?_)
          have X0 : InB own nb (fun a b => swM g own a b w) p a (b + 1) B → V 66 [some (.ref 0), some (.int (nI p)), some (.int (nI w)), some (.int (nI B)), some (.int (nI a)), some (.int (nI b)), none] [] g := by
            intro hx
            repeat (first | refine G.sx (fun _ => false) rfl rfl rfl ?_ | refine G.gox (fun _ => false) rfl rfl rfl ?_ | refine G.getx (fun _ => false) rfl rfl rfl rfl ?_)
            refine G.br rfl rfl (fun c1 => ?_) (fun c1 => absurd rfl c1)
            repeat (first | refine G.sx (fun q => Nat.beq q 101) rfl rfl rfl ?_ | refine G.gox (fun q => Nat.beq q 101) rfl rfl rfl ?_ | refine G.getx (fun q => Nat.beq q 101) rfl rfl rfl rfl ?_)
            exact J B _ _ hx
          repeat (first | refine G.sx (fun _ => false) rfl rfl rfl ?_ | refine G.gox (fun _ => false) rfl rfl rfl ?_ | refine G.getx (fun _ => false) rfl rfl rfl rfl ?_)
          refine G.br rfl rfl (fun c1 => absurd c1 (by rw [hn]; exact nI_ge hb (by omega))) (fun c1 => ?_)
          repeat (first | refine G.sx (fun _ => false) rfl rfl rfl ?_ | refine G.gox (fun _ => false) rfl rfl rfl ?_ | refine G.getx (fun _ => false) rfl rfl rfl rfl ?_)
          refine G.ialn rfl rfl (by omega) (by decide) ?_
          rw [oa1]
          repeat (first | refine G.sx (fun _ => false) rfl rfl rfl ?_ | refine G.gox (fun _ => false) rfl rfl rfl ?_ | refine G.getx (fun _ => false) rfl rfl rfl rfl ?_)
          refine G.br rfl rfl (fun c2 => X0 (hB.skip (Or.inl (fun q => c2 (by rw [q]))))) (fun c2 => ?_)
          have c2 : own a = p := (nI_eq (by omega) (by omega)).mp c2
          repeat (first | refine G.sx (fun _ => false) rfl rfl rfl ?_ | refine G.gox (fun _ => false) rfl rfl rfl ?_ | refine G.getx (fun _ => false) rfl rfl rfl rfl ?_)
          refine G.ialn rfl rfl (by omega) (by decide) ?_
          rw [ob1]
          repeat (first | refine G.sx (fun _ => false) rfl rfl rfl ?_ | refine G.gox (fun _ => false) rfl rfl rfl ?_ | refine G.getx (fun _ => false) rfl rfl rfl rfl ?_)
          refine G.br rfl rfl (fun c3 => X0 (hB.skip (Or.inr (Or.inl ((nI_eq (by omega) (by omega)).mp c3))))) (fun c3 => ?_)
          have c3 : own b ≠ p := fun q => c3 (by rw [q])
          repeat (first | refine G.sx (fun _ => false) rfl rfl rfl ?_ | refine G.gox (fun _ => false) rfl rfl rfl ?_ | refine G.getx (fun _ => false) rfl rfl rfl rfl ?_)
          refine G.ialn rfl rfl (by omega) (by decide) ?_
          rw [ob1]
          repeat (first | refine G.sx (fun _ => false) rfl rfl rfl ?_ | refine G.gox (fun _ => false) rfl rfl rfl ?_ | refine G.getx (fun _ => false) rfl rfl rfl rfl ?_)
          refine G.br rfl rfl (fun c4 => X0 (hB.skip (Or.inr (Or.inr (Or.inl (by
            cases e : B.testBit (own b) with
            | true => rfl
            | false => exact absurd ((bit_0 (by omega) (by omega)).mpr e) c4)))))) (fun c4 => ?_)
          repeat (first | refine G.sx (fun _ => false) rfl rfl rfl ?_ | refine G.gox (fun _ => false) rfl rfl rfl ?_ | refine G.getx (fun _ => false) rfl rfl rfl rfl ?_)
          refine G.br rfl rfl (fun c5 => absurd c5 (by decide)) (fun _ => ?_)
          repeat (first | refine G.sx (fun _ => false) rfl rfl rfl ?_ | refine G.gox (fun _ => false) rfl rfl rfl ?_ | refine G.getx (fun _ => false) rfl rfl rfl rfl ?_)
          refine C.cv [.int (nI a), .int (nI b), .int (nI w)] [] rfl cw_Mo_87 (d1 := 2) (by omega) (by omega) rfl rfl rfl (c_Mo_sweeps hSt hO a b w ha hb hw) (by decide) (fun r h1 hq => ?_)
          obtain ⟨rfl, rfl⟩ := hq
          refine G.br rfl rfl (fun c5 => ?_) (fun c5 => ?_)
          · have c5 : swM h1 own a b w = false := by simpa using i01.mp c5
            repeat (first | refine G.sx (fun q => Nat.beq q 101) rfl rfl rfl ?_ | refine G.gox (fun q => Nat.beq q 101) rfl rfl rfl ?_ | refine G.getx (fun q => Nat.beq q 101) rfl rfl rfl rfl ?_)
            exact J B _ _ (hB.skip (Or.inr (Or.inr (Or.inr c5))))
          · have c5 : swM h1 own a b w = true := Decidable.not_not.mp (fun q => c5 (i01.mpr q))
            repeat (first | refine G.sx (fun _ => false) rfl rfl rfl ?_ | refine G.gox (fun _ => false) rfl rfl rfl ?_ | refine G.getx (fun _ => false) rfl rfl rfl rfl ?_)
            refine G.ialn rfl rfl (by omega) (by decide) ?_
            rw [ob1]
            repeat (first | refine G.sx (fun q => Nat.beq q 101) rfl rfl rfl ?_ | refine G.gox (fun q => Nat.beq q 101) rfl rfl rfl ?_ | refine G.getx (fun q => Nat.beq q 101) rfl rfl rfl rfl ?_)
            have e1 : nI B ||| (1 : Int32) <<< (nI (own b) &&& 31) = nI (B ||| 2 ^ own b) := by rw [one_shl (by omega), nI_or]
            show V 101 _ [.int (nI B ||| (1 : Int32) <<< (nI (own b) &&& 31))] _
            rw [e1]
            exact J _ _ _ (hB.add c2 c3 c5 ob2)
        · intro B hB
          repeat (first | refine G.sx (fun _ => false) rfl rfl rfl ?_ | refine G.gox (fun _ => false) rfl rfl rfl ?_ | refine G.getx (fun _ => false) rfl rfl rfl rfl ?_)
          refine G.br rfl rfl (fun c1 => ?_) (fun c1 => absurd (by rw [hn]; exact nI_le (Nat.le_refl nb) (by omega)) c1)
          have i1 := iha B hB.next
          rw [← nI_1] at i1
          repeat (first | refine G.sx (fun _ => false) rfl rfl rfl ?_ | refine G.gox (fun _ => false) rfl rfl rfl ?_ | refine G.getx (fun _ => false) rfl rfl rfl rfl ?_)
          refine G.go rfl ?_
          refine G.le _ ?_ i1
          repeat (first | exact leL_0 | refine leL_c rfl ?_ | refine leL_n ?_)
      repeat (first | refine G.sx (fun _ => false) rfl rfl rfl ?_ | refine G.gox (fun _ => false) rfl rfl rfl ?_ | refine G.getx (fun _ => false) rfl rfl rfl rfl ?_)
      refine G.br rfl rfl (fun c1 => absurd c1 (by rw [hn]; exact nI_ge ha (by omega))) (fun c1 => ?_)
      repeat (first | refine G.sx (fun q => Nat.beq q 17) rfl rfl rfl ?_ | refine G.gox (fun q => Nat.beq q 17) rfl rfl rfl ?_ | refine G.getx (fun q => Nat.beq q 17) rfl rfl rfl rfl ?_)
      exact L2 0 (Nat.zero_le _) B hB
    · intro B hB
      repeat (first | refine G.sx (fun _ => false) rfl rfl rfl ?_ | refine G.gox (fun _ => false) rfl rfl rfl ?_ | refine G.getx (fun _ => false) rfl rfl rfl rfl ?_)
      refine G.br rfl rfl (fun c1 => ?_) (fun c1 => absurd (by rw [hn]; exact nI_le (Nat.le_refl nb) (by omega)) c1)
      repeat (first | refine G.sx (fun _ => false) rfl rfl rfl ?_ | refine G.gox (fun _ => false) rfl rfl rfl ?_ | refine G.getx (fun _ => false) rfl rfl rfl rfl ?_)
      refine E.ri rfl (Or.inl rfl) ⟨?_, rfl⟩
      rw [hB.all (fun b hb => (ho b hb).2)]
  repeat (first | refine G.sx (fun q => Nat.beq q 5) rfl rfl rfl ?_ | refine G.gox (fun q => Nat.beq q 5) rfl rfl rfl ?_ | refine G.getx (fun q => Nat.beq q 5) rfl rfl rfl rfl ?_)
  exact L 0 (Nat.zero_le _) 0 ⟨Nat.lt_of_sub_eq_succ rfl, fun j => by
    simp only [Nat.zero_testBit, Bool.false_eq_true, false_iff]
    rintro ⟨a', b', z, -⟩
    omega⟩
/-- the reference's parts and groups -/
def GrI (g : Hp) (n : Nat) (it : Nat → Nat) : Prop := g.1 0 1 = nI n ∧ n ≤ 12 ∧ ∀ i, i < n → g.1 4 i = nI (it i) ∧ it i ≤ i
theorem c_Mo_isItem (hSt : StOk St) {g : Hp} {n : Nat} {it : Nat → Nat} (hI : GrI g n it) (p : Nat) (hp : p < n) : Ct l y_Mo_isItem prog_11_method_16_code 2 (some .boolean) (rmD 1) D cls cA slM St ad [.ref 0, .int (nI p)] g (fun r g' => r = some (.int (if it p = p then 1 else 0)) ∧ g' = g) := by
  obtain ⟨hn, n12, hit⟩ := hI
  have q := hit p hp
  refine Ct.of (tl := T_Mo_isItem) (by decide) tk_Mo_isItem cls_ok hSt (Nat.le_of_ble_eq_true rfl) (fun V G E C => ?_)
  repeat (first | refine G.sx (fun _ => false) rfl rfl rfl ?_ | refine G.gox (fun _ => false) rfl rfl rfl ?_ | refine G.getx (fun _ => false) rfl rfl rfl rfl ?_)
  refine G.ialn rfl rfl (by omega) (by decide) ?_
  rw [q.1]
  repeat (first | refine G.sx (fun _ => false) rfl rfl rfl ?_ | refine G.gox (fun _ => false) rfl rfl rfl ?_ | refine G.getx (fun _ => false) rfl rfl rfl rfl ?_)
  refine G.br rfl rfl (fun c1 => ?_) (fun c1 => ?_)
  · repeat (first | refine G.sx (fun _ => false) rfl rfl rfl ?_ | refine G.gox (fun _ => false) rfl rfl rfl ?_ | refine G.getx (fun _ => false) rfl rfl rfl rfl ?_)
    refine E.ri rfl (Or.inr ⟨rfl, Or.inl rfl⟩) ⟨?_, rfl⟩
    rw [if_neg (fun z => c1 (by rw [z]))]
  · repeat (first | refine G.sx (fun _ => false) rfl rfl rfl ?_ | refine G.gox (fun _ => false) rfl rfl rfl ?_ | refine G.getx (fun _ => false) rfl rfl rfl rfl ?_)
    refine E.ri rfl (Or.inr ⟨rfl, Or.inr rfl⟩) ⟨?_, rfl⟩
    rw [if_pos ((nI_eq (by omega) (by omega)).mp c1)]
theorem c_Mo_has (hSt : StOk St) (g : Hp) (B k : Nat) (hB : B < 2 ^ 31) (hk : k < 32) : Ct l y_Mo_has prog_11_method_22_code 2 (some .boolean) (rmD 1) D cls cA slM St ad [.int (nI B), .int (nI k)] g (fun r g' => r = some (.int (if B.testBit k then 1 else 0)) ∧ g' = g) := by
  refine Ct.of (tl := T_Mo_has) (by decide) tk_Mo_has cls_ok hSt (Nat.le_of_ble_eq_true rfl) (fun V G E C => ?_)
  repeat (first | refine G.sx (fun _ => false) rfl rfl rfl ?_ | refine G.gox (fun _ => false) rfl rfl rfl ?_ | refine G.getx (fun _ => false) rfl rfl rfl rfl ?_)
  refine G.br rfl rfl (fun c1 => ?_) (fun c1 => ?_)
  · repeat (first | refine G.sx (fun _ => false) rfl rfl rfl ?_ | refine G.gox (fun _ => false) rfl rfl rfl ?_ | refine G.getx (fun _ => false) rfl rfl rfl rfl ?_)
    refine E.ri rfl (Or.inr ⟨rfl, Or.inl rfl⟩) ⟨?_, rfl⟩
    rw [if_neg (fun z => c1 ((bit_at hB hk).mpr z))]
  · repeat (first | refine G.sx (fun _ => false) rfl rfl rfl ?_ | refine G.gox (fun _ => false) rfl rfl rfl ?_ | refine G.getx (fun _ => false) rfl rfl rfl rfl ?_)
    refine E.ri rfl (Or.inr ⟨rfl, Or.inr rfl⟩) ⟨?_, rfl⟩
    rw [if_pos ((bit_at hB hk).mp c1)]
/-- the parts of one item -/
def ppM (it : Nat → Nat) (i : Nat) : Nat → Nat
  | 0 => 0
  | p + 1 => if it p = i then ppM it i p ||| 2 ^ p else ppM it i p
/-- the items, part by part -/
def aiM (it : Nat → Nat) : Nat → Nat
  | 0 => 0
  | p + 1 => if it p = p then aiM it p ||| 2 ^ p else aiM it p
theorem c_Mo_partsOf (hSt : StOk St) {g : Hp} {n : Nat} {it : Nat → Nat} (hI : GrI g n it) (i : Nat) (hi : i < 12) : Ct l y_Mo_partsOf prog_11_method_17_code 4 (some .int) (rmD 1) D cls cA slM St ad [.ref 0, .int (nI i)] g (fun r g' => r = some (.int (nI (ppM it i n))) ∧ g' = g) := by
  obtain ⟨hn, hn12, hit⟩ := hI
  refine Ct.of (tl := T_Mo_partsOf) (by decide) tk_Mo_partsOf cls_ok hSt (Nat.le_of_ble_eq_true rfl) (fun V G E C => ?_)
  have L : ∀ p, p ≤ n → V 4 [some (.ref 0), some (.int (nI i)), some (.int (nI (ppM it i p))), some (.int (nI p))] [] g := by
    refine loopUp n (fun p hp ih => ?_) ?_
    · repeat (first | refine G.sx (fun _ => false) rfl rfl rfl ?_ | refine G.gox (fun _ => false) rfl rfl rfl ?_ | refine G.getx (fun _ => false) rfl rfl rfl rfl ?_)
      refine G.br rfl rfl (fun c1 => absurd c1 (by rw [hn]; exact nI_ge hp (by omega))) (fun c1 => ?_)
      repeat (first | refine G.sx (fun _ => false) rfl rfl rfl ?_ | refine G.gox (fun _ => false) rfl rfl rfl ?_ | refine G.getx (fun _ => false) rfl rfl rfl rfl ?_)
      refine G.ialn rfl rfl (by omega) (by decide) ?_
      rw [(hit p hp).1]
      have hip := (hit p hp).2
      repeat (first | refine G.sx (fun _ => false) rfl rfl rfl ?_ | refine G.gox (fun _ => false) rfl rfl rfl ?_ | refine G.getx (fun _ => false) rfl rfl rfl rfl ?_)
      refine G.br rfl rfl (fun c2 => ?_) (fun c2 => ?_)
      · have c2 : it p ≠ i := fun q => c2 (by rw [q])
        repeat (first | refine G.sx (fun _ => false) rfl rfl rfl ?_ | refine G.gox (fun _ => false) rfl rfl rfl ?_ | refine G.getx (fun _ => false) rfl rfl rfl rfl ?_)
        refine G.go rfl ?_
        have e1 : ppM it i (p + 1) = ppM it i p := by simp [ppM, c2]
        rw [e1, ← nI_1] at ih
        exact ih
      · have c2 : it p = i := (nI_eq (by omega) (by omega)).mp c2
        repeat (first | refine G.sx (fun _ => false) rfl rfl rfl ?_ | refine G.gox (fun _ => false) rfl rfl rfl ?_ | refine G.getx (fun _ => false) rfl rfl rfl rfl ?_)
        refine G.go rfl ?_
        have e1 : nI (ppM it i p) ||| (1 : Int32) <<< (nI p &&& 31) = nI (ppM it i (p + 1)) := by
          rw [one_shl (by omega), nI_or]
          simp [ppM, c2]
        rw [← e1, ← nI_1] at ih
        exact ih
    · repeat (first | refine G.sx (fun _ => false) rfl rfl rfl ?_ | refine G.gox (fun _ => false) rfl rfl rfl ?_ | refine G.getx (fun _ => false) rfl rfl rfl rfl ?_)
      refine G.br rfl rfl (fun c1 => ?_) (fun c1 => absurd (by rw [hn]; exact nI_le (Nat.le_refl n) (by omega)) c1)
      repeat (first | refine G.sx (fun _ => false) rfl rfl rfl ?_ | refine G.gox (fun _ => false) rfl rfl rfl ?_ | refine G.getx (fun _ => false) rfl rfl rfl rfl ?_)
      exact E.ri rfl (Or.inl rfl) ⟨rfl, rfl⟩
  repeat (first | refine G.sx (fun q => Nat.beq q 4) rfl rfl rfl ?_ | refine G.gox (fun q => Nat.beq q 4) rfl rfl rfl ?_ | refine G.getx (fun q => Nat.beq q 4) rfl rfl rfl rfl ?_)
  exact L 0 (Nat.zero_le _)
theorem c_Mo_allParts (hSt : StOk St) {g : Hp} {n : Nat} {it : Nat → Nat} (hI : GrI g n it) (B : Nat) (hB : B < 4096) : Ct l y_Mo_allParts prog_11_method_18_code 4 (some .int) (rmD 1) D cls cA slM St ad [.ref 0, .int (nI B)] g (fun r g' => r = some (.int (nI (pOf it B n))) ∧ g' = g) := by
  obtain ⟨hn, hn12, hit⟩ := hI
  refine Ct.of (tl := T_Mo_allParts) (by decide) tk_Mo_allParts cls_ok hSt (Nat.le_of_ble_eq_true rfl) (fun V G E C => ?_)
  have L : ∀ p, p ≤ n → V 4 [some (.ref 0), some (.int (nI B)), some (.int (nI (pOf it B p))), some (.int (nI p))] [] g := by
    refine loopUp n (fun p hp ih => ?_) ?_
    · repeat (first | refine G.sx (fun _ => false) rfl rfl rfl ?_ | refine G.gox (fun _ => false) rfl rfl rfl ?_ | refine G.getx (fun _ => false) rfl rfl rfl rfl ?_)
      refine G.br rfl rfl (fun c1 => absurd c1 (by rw [hn]; exact nI_ge hp (by omega))) (fun c1 => ?_)
      repeat (first | refine G.sx (fun _ => false) rfl rfl rfl ?_ | refine G.gox (fun _ => false) rfl rfl rfl ?_ | refine G.getx (fun _ => false) rfl rfl rfl rfl ?_)
      refine G.ialn rfl rfl (by omega) (by decide) ?_
      rw [(hit p hp).1]
      have hip := (hit p hp).2
      repeat (first | refine G.sx (fun _ => false) rfl rfl rfl ?_ | refine G.gox (fun _ => false) rfl rfl rfl ?_ | refine G.getx (fun _ => false) rfl rfl rfl rfl ?_)
      refine G.br rfl rfl (fun c2 => ?_) (fun c2 => ?_)
      · rw [bit_at (by omega) (by omega)] at c2
        repeat (first | refine G.sx (fun _ => false) rfl rfl rfl ?_ | refine G.gox (fun _ => false) rfl rfl rfl ?_ | refine G.getx (fun _ => false) rfl rfl rfl rfl ?_)
        refine G.go rfl ?_
        have e1 : pOf it B (p + 1) = pOf it B p := by simp [pOf, c2]
        rw [e1, ← nI_1] at ih
        exact ih
      · have c3 := (bit_at (by omega) (by omega)).mp c2
        repeat (first | refine G.sx (fun _ => false) rfl rfl rfl ?_ | refine G.gox (fun _ => false) rfl rfl rfl ?_ | refine G.getx (fun _ => false) rfl rfl rfl rfl ?_)
        refine G.go rfl ?_
        have e1 : nI (pOf it B p) ||| (1 : Int32) <<< (nI p &&& 31) = nI (pOf it B (p + 1)) := by
          rw [one_shl (by omega), nI_or]
          simp [pOf, c3]
        rw [← e1, ← nI_1] at ih
        exact ih
    · repeat (first | refine G.sx (fun _ => false) rfl rfl rfl ?_ | refine G.gox (fun _ => false) rfl rfl rfl ?_ | refine G.getx (fun _ => false) rfl rfl rfl rfl ?_)
      refine G.br rfl rfl (fun c1 => ?_) (fun c1 => absurd (by rw [hn]; exact nI_le (Nat.le_refl n) (by omega)) c1)
      repeat (first | refine G.sx (fun _ => false) rfl rfl rfl ?_ | refine G.gox (fun _ => false) rfl rfl rfl ?_ | refine G.getx (fun _ => false) rfl rfl rfl rfl ?_)
      exact E.ri rfl (Or.inl rfl) ⟨rfl, rfl⟩
  repeat (first | refine G.sx (fun q => Nat.beq q 4) rfl rfl rfl ?_ | refine G.gox (fun q => Nat.beq q 4) rfl rfl rfl ?_ | refine G.getx (fun q => Nat.beq q 4) rfl rfl rfl rfl ?_)
  exact L 0 (Nat.zero_le _)
theorem c_Mo_allItems (hSt : StOk St) {g : Hp} {n : Nat} {it : Nat → Nat} (hI : GrI g n it) : Ct l y_Mo_allItems prog_11_method_19_code 3 (some .int) (rmD 2) D cls cA slM St ad [.ref 0] g (fun r g' => r = some (.int (nI (aiM it n))) ∧ g' = g) := by
  obtain ⟨hn, hn12, hit⟩ := id hI
  refine Ct.of (tl := T_Mo_allItems) (by decide) tk_Mo_allItems cls_ok hSt (Nat.le_of_ble_eq_true rfl) (fun V G E C => ?_)
  have L : ∀ p, p ≤ n → V 4 [some (.ref 0), some (.int (nI (aiM it p))), some (.int (nI p))] [] g := by
    refine loopUp n (fun p hp ih => ?_) ?_
    · repeat (first | refine G.sx (fun _ => false) rfl rfl rfl ?_ | refine G.gox (fun _ => false) rfl rfl rfl ?_ | refine G.getx (fun _ => false) rfl rfl rfl rfl ?_)
      refine G.br rfl rfl (fun c1 => absurd c1 (by rw [hn]; exact nI_ge hp (by omega))) (fun c1 => ?_)
      repeat (first | refine G.sx (fun _ => false) rfl rfl rfl ?_ | refine G.gox (fun _ => false) rfl rfl rfl ?_ | refine G.getx (fun _ => false) rfl rfl rfl rfl ?_)
      refine C.cv [.int (nI p)] [] rfl cw_Mo_98 (d1 := 1) (by omega) (by omega) rfl rfl rfl (c_Mo_isItem hSt hI p hp) (by decide) (fun r h1 hq => ?_)
      obtain ⟨rfl, rfl⟩ := hq
      refine G.br rfl rfl (fun c2 => ?_) (fun c2 => ?_)
      · have c2 : it p ≠ p := i01.mp c2
        repeat (first | refine G.sx (fun _ => false) rfl rfl rfl ?_ | refine G.gox (fun _ => false) rfl rfl rfl ?_ | refine G.getx (fun _ => false) rfl rfl rfl rfl ?_)
        refine G.go rfl ?_
        have e1 : aiM it (p + 1) = aiM it p := by simp [aiM, c2]
        rw [e1, ← nI_1] at ih
        exact ih
      · have c2 : it p = p := Decidable.not_not.mp (fun q => c2 (i01.mpr q))
        repeat (first | refine G.sx (fun _ => false) rfl rfl rfl ?_ | refine G.gox (fun _ => false) rfl rfl rfl ?_ | refine G.getx (fun _ => false) rfl rfl rfl rfl ?_)
        refine G.go rfl ?_
        have e1 : nI (aiM it p) ||| (1 : Int32) <<< (nI p &&& 31) = nI (aiM it (p + 1)) := by
          rw [one_shl (by omega), nI_or]
          simp [aiM, c2]
        rw [← e1, ← nI_1] at ih
        exact ih
    · repeat (first | refine G.sx (fun _ => false) rfl rfl rfl ?_ | refine G.gox (fun _ => false) rfl rfl rfl ?_ | refine G.getx (fun _ => false) rfl rfl rfl rfl ?_)
      refine G.br rfl rfl (fun c1 => ?_) (fun c1 => absurd (by rw [hn]; exact nI_le (Nat.le_refl n) (by omega)) c1)
      repeat (first | refine G.sx (fun _ => false) rfl rfl rfl ?_ | refine G.gox (fun _ => false) rfl rfl rfl ?_ | refine G.getx (fun _ => false) rfl rfl rfl rfl ?_)
      exact E.ri rfl (Or.inl rfl) ⟨rfl, rfl⟩
  repeat (first | refine G.sx (fun q => Nat.beq q 4) rfl rfl rfl ?_ | refine G.gox (fun q => Nat.beq q 4) rfl rfl rfl ?_ | refine G.getx (fun q => Nat.beq q 4) rfl rfl rfl rfl ?_)
  exact L 0 (Nat.zero_le _)
end MoD
