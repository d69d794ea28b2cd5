/-! The reference: out -/
section MoM
variable {l : Launch} {D : va_G} {cA : Nat → ClassId} {ad : Nat → Nat} {St : (Nat → Prop) → State → Heap → Prop}
/-- what is asked of item i as the last one gone of the set m -/
def rcQ (f : Nat → Nat → Option Nat) (A : Nat) (T : Nat → Bool) (m i : Nat) : Bool := (m.testBit i && A.testBit i && T (m ^^^ 2 ^ i)) && (f i (clrS A (m ^^^ 2 ^ i))).isSome
/-- the sets of gone items that can be reached, of those before m -/
def rcT (f : Nat → Nat → Option Nat) (A n : Nat) : Nat → Nat → Bool
  | 0, _ => false
  | m + 1, s => if s = m then (decide (m = 0) || anyB (rcQ f A (rcT f A n m) m) n) else rcT f A n m s
/-- whether the item q can be the next one behind the set m -/
def obQ (f : Nat → Nat → Option Nat) (A n q m : Nat) : Bool := rcT f A n (m + 1) m && !m.testBit q && (f q (clrS A m)).isSome
/-- the least number of others gone before item q, of the sets before m -/
def obM (f : Nat → Nat → Option Nat) (A n q : Nat) : Nat → Int32
  | 0 => -1
  | m + 1 => if obQ f A n q m then (if obM f A n q m < 0 ∨ nI (pcN m 12) < obM f A n q m then nI (pcN m 12) else obM f A n q m) else obM f A n q m
theorem xor_bit_lt {m i : Nat} (h : m.testBit i = true) : m ^^^ 2 ^ i < m := by
  have e : (m ^^^ 2 ^ i) &&& m = m ^^^ 2 ^ i := by
    apply Nat.eq_of_testBit_eq
    intro j
    rw [Nat.testBit_and, Nat.testBit_xor, Nat.testBit_two_pow]
    by_cases e : i = j
    · subst e; simp [h]
    · simp [e]
  refine Nat.lt_of_le_of_ne (by rw [← e]; exact Nat.and_le_right) (fun z => ?_)
  have z := congrArg (fun q => Nat.testBit q i) z
  simp [h] at z
theorem two_n {n : Nat} (hn : n ≤ 12) : 2 ^ n ≤ 4096 := by
  have := Nat.pow_le_pow_right (show 0 < 2 by omega) hn
  omega
set_option maxHeartbeats 2000000 in
theorem c_Mo_out (hSt : StOk St) {g : Hp} {n : Nat} {it : Nat → Nat} {nb : Nat} {own : Nat → Nat} {ns : Nat} (hM : MdI g n it nb own ns) (p : Int32) : Ct l y_Mo_out prog_11_method_39_code 8 (some .int) (rmD 5) D cls cA slM St ad [.ref 0, .int p] g (fun r g' => g.1 0 14 = 0 ∧ r = some (.int 0) ∧ g' = upI g 0 0 1 ∨ ¬ g.1 0 14 = 0 ∧ (¬ pOM g p ∧ r = some (.int 0) ∧ g' = upI g 0 0 2 ∨ pOM g p ∧ ∃ q f9 f13, p = nI q ∧ q < n ∧ g' = setI (setI (std (upI g 0 0 0)) 9 f9) 13 f13 ∧ r = some (.int (obM (woG (std g) n it nb own ns) (aiM it n) n (it q) (2 ^ n))))) := by
  have n12 := hM.1.2.1
  have hA := aiM_lt (it := it) n n12
  generalize hAA : aiM it n = A at hA
  generalize hff : woG (std g) n it nb own ns = f
  have hfl : ∀ k B w, f k B = some w → w < 2 ^ 31 := fun k B w e => by rw [← hff] at e; exact woG_lt hM.2.2.2 e
  have hfs : ∀ k B, ¬ (oI (f k B) < 0) → (f k B).isSome = true := fun k B c => by
    cases e : f k B with
    | none => exact absurd ((oI_ge (fun w e => hfl k B w e)).mpr e) c
    | some w => rfl
  refine Ct.of (tl := T_Mo_out) (by decide) tk_Mo_out cls_ok hSt (Nat.le_of_ble_eq_true rfl) (fun V G E C => ?_)
  repeat (first | refine G.sx (fun _ => false) rfl rfl rfl ?_ | refine G.gox (fun _ => false) rfl rfl rfl ?_ | refine G.getx (fun _ => false) rfl rfl rfl rfl ?_)
  refine C.cv [] [] rfl cw_Mo_136 (d1 := 1) (by omega) (by omega) rfl rfl rfl (c_Mo_notRun hSt g) (by decide) (fun r h1 hq => ?_)
  rcases hq with ⟨r0, rfl, rfl⟩ | ⟨r0, rfl, rfl⟩
  · refine G.br rfl rfl (fun c1 => absurd c1 (by decide)) (fun _ => ?_)
    repeat (first | refine G.sx (fun _ => false) rfl rfl rfl ?_ | refine G.gox (fun _ => false) rfl rfl rfl ?_ | refine G.getx (fun _ => false) rfl rfl rfl rfl ?_)
    exact E.ri rfl (Or.inl rfl) (Or.inl ⟨r0, rfl, rfl⟩)
  refine G.br rfl rfl (fun _ => ?_) (fun c1 => absurd rfl c1)
  have e01 : (upI g 0 0 0).1 0 1 = g.1 0 1 := up_ne _ _ _ _ (by decide)
  have K1 : ¬ pOM g p → V 22 [some (.ref 0), some (.int p), none, none, none, none, none, none] [.ref 0] (upI g 0 0 0) := by
    intro hx
    repeat (first | refine G.sx (fun _ => false) rfl rfl rfl ?_ | refine G.gox (fun _ => false) rfl rfl rfl ?_ | refine G.getx (fun _ => false) rfl rfl rfl rfl ?_)
    refine G.put rfl rfl rfl ?_
    rw [upI_2]
    repeat (first | refine G.sx (fun _ => false) rfl rfl rfl ?_ | refine G.gox (fun _ => false) rfl rfl rfl ?_ | refine G.getx (fun _ => false) rfl rfl rfl rfl ?_)
    refine G.br rfl rfl (fun c2 => absurd c2 (by rw [up_eq]; decide)) (fun c2 => ?_)
    repeat (first | refine G.sx (fun _ => false) rfl rfl rfl ?_ | refine G.gox (fun _ => false) rfl rfl rfl ?_ | refine G.getx (fun _ => false) rfl rfl rfl rfl ?_)
    exact E.ri rfl (Or.inl rfl) (Or.inr ⟨r0, Or.inl ⟨hx, rfl, rfl⟩⟩)
  repeat (first | refine G.sx (fun _ => false) rfl rfl rfl ?_ | refine G.gox (fun _ => false) rfl rfl rfl ?_ | refine G.getx (fun _ => false) rfl rfl rfl rfl ?_)
  refine G.br rfl rfl (fun c1 => K1 (fun z => absurd z.1 (Int32.not_le.mpr c1))) (fun c1 => ?_)
  repeat (first | refine G.sx (fun q => Nat.beq q 19) rfl rfl rfl ?_ | refine G.gox (fun q => Nat.beq q 19) rfl rfl rfl ?_ | refine G.getx (fun q => Nat.beq q 19) rfl rfl rfl rfl ?_)
  show V 19 _ [.int ((upI g 0 0 0).1 0 1), .int p, .ref 0] _
  rw [e01]
  refine G.br rfl rfl (fun c2 => ?_) (fun c2 => K1 (fun z => c2 z.2))
  have hp : pOM g p := ⟨Int32.not_lt.mp c1, c2⟩
  obtain ⟨q, rfl, hq⟩ := Ok_ex hM.1.1 (by omega) hp
  obtain ⟨gq1, gq2⟩ := hM.1.2.2 q hq
  generalize hiq : it q = u at gq1 gq2
  repeat (first | refine G.sx (fun _ => false) rfl rfl rfl ?_ | refine G.gox (fun _ => false) rfl rfl rfl ?_ | refine G.getx (fun _ => false) rfl rfl rfl rfl ?_)
  refine G.put rfl rfl rfl ?_
  rw [upI_2]
  repeat (first | refine G.sx (fun _ => false) rfl rfl rfl ?_ | refine G.gox (fun _ => false) rfl rfl rfl ?_ | refine G.getx (fun _ => false) rfl rfl rfl rfl ?_)
  refine G.br rfl rfl (fun _ => ?_) (fun c4 => absurd (by rw [up_eq]; decide) c4)
  repeat (first | refine G.sx (fun _ => false) rfl rfl rfl ?_ | refine G.gox (fun _ => false) rfl rfl rfl ?_ | refine G.getx (fun _ => false) rfl rfl rfl rfl ?_)
  refine C.cv [] [] rfl cw_Mo_95 (d1 := 1) (by omega) (by omega) rfl rfl rfl (c_Mo_stand hSt (upI g 0 0 0)) (by decide) (fun r h1 hq => ?_)
  obtain ⟨rfl, rfl⟩ := hq
  have hMs : MdI (std (upI g 0 0 0)) n it nb own ns := (hM.up0 (by decide) (by decide) (by decide)).stL
  repeat (first | refine G.sx (fun _ => false) rfl rfl rfl ?_ | refine G.gox (fun _ => false) rfl rfl rfl ?_ | refine G.getx (fun _ => false) rfl rfl rfl rfl ?_)
  refine C.cv [] [] rfl cw_Mo_109 (d1 := 4) (by omega) (by omega) rfl rfl rfl (c_Mo_reckon hSt hMs) (by decide) (fun r h1 hq => ?_)
  obtain ⟨rfl, f9, rfl, hB9⟩ := hq
  have hM1 : ∀ f13, MdI (setI (setI (std (upI g 0 0 0)) 9 f9) 13 f13) n it nb own ns := fun f13 => by
    obtain ⟨⟨a1, a2, a3⟩, ⟨b1, b2, b3⟩, c, d⟩ := hMs.st9 (f9 := f9)
    exact ⟨⟨by rw [setI_ne _ _ (by decide)]; exact a1, a2, fun i hi => by rw [setI_ne _ _ (by decide)]; exact a3 i hi⟩, ⟨by rw [setI_ne _ _ (by decide)]; exact b1, b2, fun i hi => by rw [setI_ne _ _ (by decide)]; exact b3 i hi⟩, by rw [setI_ne _ _ (by decide)]; exact c, d⟩
  have hB1 : ∀ f13, BrF ((setI (setI (std (upI g 0 0 0)) 9 f9) 13 f13).1 9) n (6 + ns) (fun p w => bfM own nb (fun a b => swM (std g) own a b w) p) := fun f13 => by rw [setI_ne _ _ (by decide), setI_at]; exact hB9
  have hg4 : (setI (std (upI g 0 0 0)) 9 f9).1 4 q = nI u := by
    rw [setI_ne (std (upI g 0 0 0)) (k := 9) (j := 4) f9 (by decide), ← gq1]
    show (upI g 0 0 0).1 4 q = g.1 4 q
    rw [up_off _ _ _ _ (by decide)]
  show V 47 _ [] (setI (std (upI g 0 0 0)) 9 f9)
  generalize hH : setI (std (upI g 0 0 0)) 9 f9 = H at hM1 hB1 hg4 ⊢
  have hM0 : MdI H n it nb own ns := by have := hM1 (H.1 13); rw [setI_id] at this; exact this
  repeat (first | refine G.sx (fun _ => false) rfl rfl rfl ?_ | refine G.gox (fun _ => false) rfl rfl rfl ?_ | refine G.getx (fun _ => false) rfl rfl rfl rfl ?_)
  refine C.cv [] [] rfl cw_Mo_115 (d1 := 2) (by omega) (by omega) rfl rfl rfl (c_Mo_allItems hSt hM0.1) (by decide) (fun r h1 hq => ?_)
  obtain ⟨rfl, rfl⟩ := hq
  rw [hAA]
  repeat (first | refine G.sx (fun _ => false) rfl rfl rfl ?_ | refine G.gox (fun _ => false) rfl rfl rfl ?_ | refine G.getx (fun _ => false) rfl rfl rfl rfl ?_)
  refine G.ialn rfl rfl (by omega) (by decide) ?_
  rw [hg4]
  have u12 : u < 12 := by omega
  have tn := two_n n12
  have L : ∀ m, m ≤ 2 ^ n → ∀ f13 : Nat → Int32, (∀ s, s < m → f13 s = if rcT f A n m s then 1 else 0) → ∀ o6 o7, V 65 [some (.ref 0), some (.int (nI q)), some (.int (nI A)), some (.int (nI u)), some (.int (obM f A n u m)), some (.int (nI m)), o6, o7] [] (setI h1 13 f13) := by
    refine loopUp (2 ^ n) (fun m hm ih => ?_) ?_
    · intro f13 hf o6 o7
      rw [← nI_1] at ih
      generalize hT : rcT f A n m = T at hf
      have hTm : ∀ s, s < m → rcT f A n (m + 1) s = T s := fun s hs => by
        rw [← hT]
        show (if s = m then _ else _) = _
        rw [if_neg (by omega)]
      have hTe : rcT f A n (m + 1) m = (decide (m = 0) || anyB (rcQ f A T m) n) := by
        rw [← hT]
        show (if m = m then _ else _) = _
        rw [if_pos rfl]
      have hM1 := hM1
      have hB1 := hB1
      repeat (first | refine G.sx (fun q => Nat.beq q 72) rfl rfl rfl ?_ | refine G.gox (fun q => Nat.beq q 72) rfl rfl rfl ?_ | refine G.getx (fun q => Nat.beq q 72) rfl rfl rfl rfl ?_)
      show V 72 _ [.int ((setI h1 13 f13).1 0 1), .int 1, .int (nI m)] _
      rw [(hM1 f13).1.1]
      repeat (first | refine G.sx (fun q => Nat.beq q 73) rfl rfl rfl ?_ | refine G.gox (fun q => Nat.beq q 73) rfl rfl rfl ?_ | refine G.getx (fun q => Nat.beq q 73) rfl rfl rfl rfl ?_)
      show V 73 _ [.int ((1 : Int32) <<< (nI n &&& 31)), .int (nI m)] _
      rw [one_shl (by omega)]
      refine G.br rfl rfl (fun c3 => absurd c3 (nI_ge hm (by omega))) (fun _ => ?_)
      have Inn : ∀ i, i ≤ n → ∀ f13 : Nat → Int32, (∀ s, s < m → f13 s = if T s then 1 else 0) → f13 m = (if (decide (m = 0) || anyB (rcQ f A T m) i) then 1 else 0) → ∀ o7, V 96 [some (.ref 0), some (.int (nI q)), some (.int (nI A)), some (.int (nI u)), some (.int (obM f A n u m)), some (.int (nI m)), some (.int (nI i)), o7] [] (setI h1 13 f13) := by
        refine loopUp n (fun i hi ihi => ?_) ?_
        · intro f13 hf hfm o7
          rw [← nI_1] at ihi
          have FJ : ∀ (v : Bool) o7, v = (decide (m = 0) || anyB (rcQ f A T m) (i + 1)) → V 192 [some (.ref 0), some (.int (nI q)), some (.int (nI A)), some (.int (nI u)), some (.int (obM f A n u m)), some (.int (nI m)), some (.int (nI i)), o7] [.int (if v then 1 else 0), .int (nI m), .ref 13] (setI h1 13 f13) := by
            intro v o7 hv
            refine G.zasn rfl rfl (by omega) (by decide) (by cases v; exact Or.inl rfl; exact Or.inr rfl) ?_
            rw [upI_setI]
            repeat (first | refine G.sx (fun _ => false) rfl rfl rfl ?_ | refine G.gox (fun _ => false) rfl rfl rfl ?_ | refine G.getx (fun _ => false) rfl rfl rfl rfl ?_)
            refine G.go rfl ?_
            refine ihi _ (fun s hs => ?_) ?_ _
            · unfold upd
              rw [if_neg (by omega)]
              exact hf s hs
            · unfold upd
              rw [if_pos rfl, hv]
          have F1 : ∀ o7, (decide (m = 0) || anyB (rcQ f A T m) (i + 1)) = true → V 187 [some (.ref 0), some (.int (nI q)), some (.int (nI A)), some (.int (nI u)), some (.int (obM f A n u m)), some (.int (nI m)), some (.int (nI i)), o7] [.int (nI m), .ref 13] (setI h1 13 f13) := by
            intro o7 e
            repeat (first | refine G.sx (fun q => Nat.beq q 192) rfl rfl rfl ?_ | refine G.gox (fun q => Nat.beq q 192) rfl rfl rfl ?_ | refine G.getx (fun q => Nat.beq q 192) rfl rfl rfl rfl ?_)
            exact FJ true _ e.symm
          have F0 : ∀ o7, (decide (m = 0) || anyB (rcQ f A T m) (i + 1)) = false → V 191 [some (.ref 0), some (.int (nI q)), some (.int (nI A)), some (.int (nI u)), some (.int (obM f A n u m)), some (.int (nI m)), some (.int (nI i)), o7] [.int (nI m), .ref 13] (setI h1 13 f13) := by
            intro o7 e
            repeat (first | refine G.sx (fun q => Nat.beq q 192) rfl rfl rfl ?_ | refine G.gox (fun q => Nat.beq q 192) rfl rfl rfl ?_ | refine G.getx (fun q => Nat.beq q 192) rfl rfl rfl rfl ?_)
            exact FJ false _ e.symm
          have M : ∀ (v : Bool) o7, v = (m.testBit i && A.testBit i && T (m ^^^ 2 ^ i)) → V 144 [some (.ref 0), some (.int (nI q)), some (.int (nI A)), some (.int (nI u)), some (.int (obM f A n u m)), some (.int (nI m)), some (.int (nI i)), o7] [.int (if v then 1 else 0)] (setI h1 13 f13) := by
            intro v o7 hv
            have hU : rcQ f A T m i = (v && (f i (clrS A (m ^^^ 2 ^ i))).isSome) := by rw [hv]; rfl
            repeat (first | refine G.sx (fun _ => false) rfl rfl rfl ?_ | refine G.gox (fun _ => false) rfl rfl rfl ?_ | refine G.getx (fun _ => false) rfl rfl rfl rfl ?_)
            refine G.zaln rfl rfl (by omega) (by decide) ?_
            rw [show (setI h1 13 f13).1 13 m = f13 m by rw [setI_at], hfm]
            refine G.br rfl rfl (fun c4 => F1 _ ?_) (fun c4 => ?_)
            · have c4 : (decide (m = 0) || anyB (rcQ f A T m) i) = true := by
                cases e : (decide (m = 0) || anyB (rcQ f A T m) i) with
                | true => rfl
                | false => rw [e] at c4; exact absurd rfl c4
              show (decide (m = 0) || (anyB (rcQ f A T m) i || rcQ f A T m i)) = true
              rw [← Bool.or_assoc, c4, Bool.true_or]
            have c4 : (decide (m = 0) || anyB (rcQ f A T m) i) = false := by
              cases e : (decide (m = 0) || anyB (rcQ f A T m) i) with
              | false => rfl
              | true => rw [e] at c4; exact absurd c4 (by decide)
            have hN : (decide (m = 0) || anyB (rcQ f A T m) (i + 1)) = (v && (f i (clrS A (m ^^^ 2 ^ i))).isSome) := by
              rw [← hU]
              show (decide (m = 0) || (anyB (rcQ f A T m) i || rcQ f A T m i)) = _
              rw [← Bool.or_assoc, c4, Bool.false_or]
            repeat (first | refine G.sx (fun _ => false) rfl rfl rfl ?_ | refine G.gox (fun _ => false) rfl rfl rfl ?_ | refine G.getx (fun _ => false) rfl rfl rfl rfl ?_)
            refine G.br rfl rfl (fun c5 => F0 _ ?_) (fun c5 => ?_)
            · rw [hN]
              cases e : v with
              | false => rfl
              | true => rw [e] at c5; exact absurd c5 (by decide)
            have c5 : v = true := by
              cases e : v with
              | true => rfl
              | false => rw [e] at c5; exact absurd rfl c5
            repeat (first | refine G.sx (fun q => Nat.beq q 181) rfl rfl rfl ?_ | refine G.gox (fun q => Nat.beq q 181) rfl rfl rfl ?_ | refine G.getx (fun q => Nat.beq q 181) rfl rfl rfl rfl ?_)
            show V 181 _ [.int (nI A &&& ((nI m ^^^ (1 : Int32) <<< (nI i &&& 31)) ^^^ (-1))), .int (nI i), .ref 0, .int (nI m), .ref 13] _
            rw [one_shl (by omega), nI_xor, not_g hA]
            refine C.cv [.int (nI i), .int (nI (clrS A (m ^^^ 2 ^ i)))] [.int (nI m), .ref 13] rfl cw_Mo_126 (d1 := 3) (by omega) (by omega) rfl rfl rfl (c_Mo_wayO hSt (hM1 f13) (hB1 f13) i (clrS A (m ^^^ 2 ^ i)) (by omega) (clrS_lt hA)) (Nat.le_of_ble_eq_true rfl) (fun r h2 hq => ?_)
            obtain ⟨rfl, rfl⟩ := hq
            rw [hff]
            refine G.br rfl rfl (fun c6 => F0 _ ?_) (fun c6 => F1 _ ?_)
            · rw [hN, (oI_ge (fun w e => hfl i _ w e)).mp c6, c5]
              rfl
            · rw [hN, c5, hfs i _ c6]
              rfl
          have M0 : ∀ o7, (m.testBit i && A.testBit i && T (m ^^^ 2 ^ i)) = false → V 143 [some (.ref 0), some (.int (nI q)), some (.int (nI A)), some (.int (nI u)), some (.int (obM f A n u m)), some (.int (nI m)), some (.int (nI i)), o7] [] (setI h1 13 f13) := by
            intro o7 e
            repeat (first | refine G.sx (fun q => Nat.beq q 144) rfl rfl rfl ?_ | refine G.gox (fun q => Nat.beq q 144) rfl rfl rfl ?_ | refine G.getx (fun q => Nat.beq q 144) rfl rfl rfl rfl ?_)
            exact M false _ e.symm
          repeat (first | refine G.sx (fun _ => false) rfl rfl rfl ?_ | refine G.gox (fun _ => false) rfl rfl rfl ?_ | refine G.getx (fun _ => false) rfl rfl rfl rfl ?_)
          refine G.br rfl rfl (fun c4 => absurd c4 (by rw [(hM1 f13).1.1]; exact nI_ge hi (by omega))) (fun _ => ?_)
          repeat (first | refine G.sx (fun _ => false) rfl rfl rfl ?_ | refine G.gox (fun _ => false) rfl rfl rfl ?_ | refine G.getx (fun _ => false) rfl rfl rfl rfl ?_)
          refine C.cs [.int (nI m), .int (nI i)] [] rfl cw_Mo_122 (d1 := 1) (by omega) (by omega) rfl (c_Mo_has hSt _ m i (by omega) (by omega)) (by decide) (fun r h2 hq => ?_)
          obtain ⟨rfl, rfl⟩ := hq
          refine G.br rfl rfl (fun c4 => M0 _ (by have := i01.mp c4; simp [this])) (fun c4 => ?_)
          have c4 : m.testBit i = true := Decidable.not_not.mp (fun z => c4 (i01.mpr z))
          repeat (first | refine G.sx (fun _ => false) rfl rfl rfl ?_ | refine G.gox (fun _ => false) rfl rfl rfl ?_ | refine G.getx (fun _ => false) rfl rfl rfl rfl ?_)
          refine C.cs [.int (nI A), .int (nI i)] [] rfl cw_Mo_122 (d1 := 1) (by omega) (by omega) rfl (c_Mo_has hSt _ A i (by omega) (by omega)) (by decide) (fun r h2 hq => ?_)
          obtain ⟨rfl, rfl⟩ := hq
          refine G.br rfl rfl (fun c5 => M0 _ (by have := i01.mp c5; simp [this])) (fun c5 => ?_)
          have c5 : A.testBit i = true := Decidable.not_not.mp (fun z => c5 (i01.mpr z))
          have hx := xor_bit_lt c4
          repeat (first | refine G.sx (fun q => Nat.beq q 135) rfl rfl rfl ?_ | refine G.gox (fun q => Nat.beq q 135) rfl rfl rfl ?_ | refine G.getx (fun q => Nat.beq q 135) rfl rfl rfl rfl ?_)
          show V 135 _ [.int (nI m ^^^ (1 : Int32) <<< (nI i &&& 31)), .ref 13] _
          rw [one_shl (by omega), nI_xor]
          refine G.zaln rfl rfl (by omega) (by decide) ?_
          rw [show (setI h1 13 f13).1 13 (m ^^^ 2 ^ i) = f13 (m ^^^ 2 ^ i) by rw [setI_at], hf _ hx]
          refine G.br rfl rfl (fun c6 => M0 _ (by have := i01.mp c6; simp [this])) (fun c6 => ?_)
          have c6 : T (m ^^^ 2 ^ i) = true := Decidable.not_not.mp (fun z => c6 (i01.mpr z))
          repeat (first | refine G.sx (fun q => Nat.beq q 144) rfl rfl rfl ?_ | refine G.gox (fun q => Nat.beq q 144) rfl rfl rfl ?_ | refine G.getx (fun q => Nat.beq q 144) rfl rfl rfl rfl ?_)
          exact M true _ (by rw [c4, c5, c6]; rfl)
        · intro f13 hf hfm o7
          rw [← hTe] at hfm
          have nx : ∀ o7 v, v = obM f A n u (m + 1) → V 259 [some (.ref 0), some (.int (nI q)), some (.int (nI A)), some (.int (nI u)), some (.int v), some (.int (nI m)), some (.int (nI n)), o7] [] (setI h1 13 f13) := by
            intro o7 v e
            rw [← e] at ih
            repeat (first | refine G.sx (fun _ => false) rfl rfl rfl ?_ | refine G.gox (fun _ => false) rfl rfl rfl ?_ | refine G.getx (fun _ => false) rfl rfl rfl rfl ?_)
            refine G.go rfl ?_
            refine ih f13 (fun s hs => ?_) _ _
            by_cases es : s = m
            · rw [es]; exact hfm
            · rw [hTm s (by omega)]; exact hf s (by omega)
          have hO : obM f A n u (m + 1) = if obQ f A n u m then (if obM f A n u m < 0 ∨ nI (pcN m 12) < obM f A n u m then nI (pcN m 12) else obM f A n u m) else obM f A n u m := rfl
          repeat (first | refine G.sx (fun _ => false) rfl rfl rfl ?_ | refine G.gox (fun _ => false) rfl rfl rfl ?_ | refine G.getx (fun _ => false) rfl rfl rfl rfl ?_)
          refine G.br rfl rfl (fun _ => ?_) (fun c4 => absurd (by rw [(hM1 f13).1.1]; exact nI_le (Nat.le_refl n) (by omega)) c4)
          repeat (first | refine G.sx (fun _ => false) rfl rfl rfl ?_ | refine G.gox (fun _ => false) rfl rfl rfl ?_ | refine G.getx (fun _ => false) rfl rfl rfl rfl ?_)
          refine G.zaln rfl rfl (by omega) (by decide) ?_
          rw [show (setI h1 13 f13).1 13 m = f13 m by rw [setI_at], hfm]
          refine G.br rfl rfl (fun c4 => nx _ _ ?_) (fun c4 => ?_)
          · have c4 := i01.mp c4
            rw [hO, if_neg (by unfold obQ; simp [c4])]
          have c4 : rcT f A n (m + 1) m = true := Decidable.not_not.mp (fun z => c4 (i01.mpr z))
          repeat (first | refine G.sx (fun _ => false) rfl rfl rfl ?_ | refine G.gox (fun _ => false) rfl rfl rfl ?_ | refine G.getx (fun _ => false) rfl rfl rfl rfl ?_)
          refine C.cs [.int (nI m), .int (nI u)] [] rfl cw_Mo_122 (d1 := 1) (by omega) (by omega) rfl (c_Mo_has hSt _ m u (by omega) (by omega)) (by decide) (fun r h2 hq => ?_)
          obtain ⟨rfl, rfl⟩ := hq
          refine G.br rfl rfl (fun c5 => nx _ _ ?_) (fun c5 => ?_)
          · have c5 : m.testBit u = true := Decidable.not_not.mp (fun z => c5 (i01.mpr z))
            rw [hO, if_neg (by unfold obQ; simp [c5])]
          have c5 : m.testBit u = false := by
            have := i01.mp c5
            simpa using this
          repeat (first | refine G.sx (fun q => Nat.beq q 226) rfl rfl rfl ?_ | refine G.gox (fun q => Nat.beq q 226) rfl rfl rfl ?_ | refine G.getx (fun q => Nat.beq q 226) rfl rfl rfl rfl ?_)
          show V 226 _ [.int (nI A &&& (nI m ^^^ (-1))), .int (nI u), .ref 0] _
          rw [not_g hA]
          refine C.cv [.int (nI u), .int (nI (clrS A m))] [] rfl cw_Mo_126 (d1 := 3) (by omega) (by omega) rfl rfl rfl (c_Mo_wayO hSt (hM1 f13) (hB1 f13) u (clrS A m) (by omega) (clrS_lt hA)) (by decide) (fun r h2 hq => ?_)
          obtain ⟨rfl, rfl⟩ := hq
          rw [hff]
          refine G.br rfl rfl (fun c6 => nx _ _ ?_) (fun c6 => ?_)
          · rw [hO, if_neg (by unfold obQ; simp [(oI_ge (fun w e => hfl u _ w e)).mp c6])]
          have c6 := hfs u _ c6
          rw [if_pos (show obQ f A n u m = true by unfold obQ; rw [c4, c5, c6]; rfl)] at hO
          have S : (obM f A n u m < 0 ∨ nI (pcN m 12) < obM f A n u m) → V 247 [some (.ref 0), some (.int (nI q)), some (.int (nI A)), some (.int (nI u)), some (.int (obM f A n u m)), some (.int (nI m)), some (.int (nI n)), o7] [] (setI h1 13 f13) := by
            intro hx
            rw [if_pos hx] at hO
            repeat (first | refine G.sx (fun _ => false) rfl rfl rfl ?_ | refine G.gox (fun _ => false) rfl rfl rfl ?_ | refine G.getx (fun _ => false) rfl rfl rfl rfl ?_)
            refine C.cs [.int (nI m)] [] rfl cw_Mo_155 (d1 := 2) (by omega) (by omega) rfl (c_Mo_size hSt _ m (by omega)) (by decide) (fun r h2 hq => ?_)
            obtain ⟨rfl, rfl⟩ := hq
            repeat (first | refine G.sx (fun q => Nat.beq q 259) rfl rfl rfl ?_ | refine G.gox (fun q => Nat.beq q 259) rfl rfl rfl ?_ | refine G.getx (fun q => Nat.beq q 259) rfl rfl rfl rfl ?_)
            exact nx _ _ hO.symm
          repeat (first | refine G.sx (fun _ => false) rfl rfl rfl ?_ | refine G.gox (fun _ => false) rfl rfl rfl ?_ | refine G.getx (fun _ => false) rfl rfl rfl rfl ?_)
          refine G.br rfl rfl (fun c7 => S (Or.inl c7)) (fun c7 => ?_)
          repeat (first | refine G.sx (fun _ => false) rfl rfl rfl ?_ | refine G.gox (fun _ => false) rfl rfl rfl ?_ | refine G.getx (fun _ => false) rfl rfl rfl rfl ?_)
          refine C.cs [.int (nI m)] [] rfl cw_Mo_155 (d1 := 2) (by omega) (by omega) rfl (c_Mo_size hSt _ m (by omega)) (by decide) (fun r h2 hq => ?_)
          obtain ⟨rfl, rfl⟩ := hq
          repeat (first | refine G.sx (fun _ => false) rfl rfl rfl ?_ | refine G.gox (fun _ => false) rfl rfl rfl ?_ | refine G.getx (fun _ => false) rfl rfl rfl rfl ?_)
          refine G.br rfl rfl (fun c8 => ?_) (fun c8 => S (Or.inr (Int32.not_le.mp c8)))
          rw [if_neg (fun z => z.elim c7 (fun z => absurd z (Int32.not_lt.mpr c8)))] at hO
          repeat (first | refine G.sx (fun q => Nat.beq q 259) rfl rfl rfl ?_ | refine G.gox (fun q => Nat.beq q 259) rfl rfl rfl ?_ | refine G.getx (fun q => Nat.beq q 259) rfl rfl rfl rfl ?_)
          exact nx _ _ hO.symm
      by_cases m0 : m = 0
      · repeat (first | refine G.sx (fun _ => false) rfl rfl rfl ?_ | refine G.gox (fun _ => false) rfl rfl rfl ?_ | refine G.getx (fun _ => false) rfl rfl rfl rfl ?_)
        refine G.br rfl rfl (fun c4 => absurd (by rw [m0]; rfl) c4) (fun _ => ?_)
        repeat (first | refine G.sx (fun _ => false) rfl rfl rfl ?_ | refine G.gox (fun _ => false) rfl rfl rfl ?_ | refine G.getx (fun _ => false) rfl rfl rfl rfl ?_)
        refine G.zasn rfl rfl (by omega) (by decide) (Or.inr rfl) ?_
        rw [upI_setI]
        repeat (first | refine G.sx (fun q => Nat.beq q 96) rfl rfl rfl ?_ | refine G.gox (fun q => Nat.beq q 96) rfl rfl rfl ?_ | refine G.getx (fun q => Nat.beq q 96) rfl rfl rfl rfl ?_)
        refine Inn 0 (Nat.zero_le _) _ (fun s hs => by omega) ?_ _
        unfold upd
        rw [if_pos rfl, decide_eq_true m0]
        rfl
      · repeat (first | refine G.sx (fun _ => false) rfl rfl rfl ?_ | refine G.gox (fun _ => false) rfl rfl rfl ?_ | refine G.getx (fun _ => false) rfl rfl rfl rfl ?_)
        refine G.br rfl rfl (fun _ => ?_) (fun c4 => absurd ((nI_eq (b := 0) (by omega) (by omega)).mp c4) m0)
        repeat (first | refine G.sx (fun _ => false) rfl rfl rfl ?_ | refine G.gox (fun _ => false) rfl rfl rfl ?_ | refine G.getx (fun _ => false) rfl rfl rfl rfl ?_)
        refine G.zasn rfl rfl (by omega) (by decide) (Or.inl rfl) ?_
        rw [upI_setI]
        repeat (first | refine G.sx (fun q => Nat.beq q 96) rfl rfl rfl ?_ | refine G.gox (fun q => Nat.beq q 96) rfl rfl rfl ?_ | refine G.getx (fun q => Nat.beq q 96) rfl rfl rfl rfl ?_)
        refine Inn 0 (Nat.zero_le _) _ (fun s hs => ?_) ?_ _
        · unfold upd
          rw [if_neg (by omega)]
          exact hf s hs
        · unfold upd
          rw [if_pos rfl, decide_eq_false m0]
          rfl
    · intro f13 hf o6 o7
      repeat (first | refine G.sx (fun q => Nat.beq q 72) rfl rfl rfl ?_ | refine G.gox (fun q => Nat.beq q 72) rfl rfl rfl ?_ | refine G.getx (fun q => Nat.beq q 72) rfl rfl rfl rfl ?_)
      show V 72 _ [.int ((setI h1 13 f13).1 0 1), .int 1, .int (nI (2 ^ n))] _
      rw [(hM1 f13).1.1]
      repeat (first | refine G.sx (fun q => Nat.beq q 73) rfl rfl rfl ?_ | refine G.gox (fun q => Nat.beq q 73) rfl rfl rfl ?_ | refine G.getx (fun q => Nat.beq q 73) rfl rfl rfl rfl ?_)
      show V 73 _ [.int ((1 : Int32) <<< (nI n &&& 31)), .int (nI (2 ^ n))] _
      rw [one_shl (by omega)]
      refine G.br rfl rfl (fun _ => ?_) (fun c3 => absurd (nI_le (Nat.le_refl _) (by omega)) c3)
      repeat (first | refine G.sx (fun _ => false) rfl rfl rfl ?_ | refine G.gox (fun _ => false) rfl rfl rfl ?_ | refine G.getx (fun _ => false) rfl rfl rfl rfl ?_)
      exact E.ri rfl (Or.inl rfl) (Or.inr ⟨r0, Or.inr ⟨hp, q, f9, f13, rfl, hq, by rw [hH], by rw [hiq]⟩⟩)
  have L0 := L 0 (Nat.zero_le _) (h1.1 13) (fun s hs => by omega)
  rw [setI_id] at L0
  repeat (first | refine G.sx (fun q => Nat.beq q 65) rfl rfl rfl ?_ | refine G.gox (fun q => Nat.beq q 65) rfl rfl rfl ?_ | refine G.getx (fun q => Nat.beq q 65) rfl rfl rfl rfl ?_)
  exact L0 _ _
end MoM
