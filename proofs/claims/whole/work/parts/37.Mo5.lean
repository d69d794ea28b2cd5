/-! The reference: hasBox, reckonBars, isFree, wayOut, free, group, clamp -/
section MoE
variable {l : Launch} {D : va_G} {cA : Nat → ClassId} {ad : Nat → Nat} {St : (Nat → Prop) → State → Heap → Prop}
theorem c_Mo_hasBox (hSt : StOk St) {g : Hp} {nb : Nat} {own : Nat → Nat} (hO : OwI g nb own) (p : Nat) (hp : p < 12) : Ct l y_Mo_hasBox prog_11_method_43_code 4 (some .boolean) (rmD 1) D cls cA slM St ad [.ref 0, .int (nI p)] g (fun r g' => r = some (.int (if anyB (fun i => decide (own i = p)) nb then 1 else 0)) ∧ g' = g) := by
  obtain ⟨hn, h40, ho⟩ := hO
  refine Ct.of (tl := T_Mo_hasBox) (by decide) tk_Mo_hasBox cls_ok hSt (Nat.le_of_ble_eq_true rfl) (fun V G E C => ?_)
  have L : ∀ i, i ≤ nb → V 4 [some (.ref 0), some (.int (nI p)), some (.int (if anyB (fun i => decide (own i = p)) i then 1 else 0)), some (.int (nI i))] [] g := by
    refine loopUp nb (fun i hi ih => ?_) ?_
    · rw [← nI_1] at ih
      have ob := ho i hi
      repeat (first | refine G.sx (fun _ => false) rfl rfl rfl ?_ | refine G.gox (fun _ => false) rfl rfl rfl ?_ | refine G.getx (fun _ => false) rfl rfl rfl rfl ?_)
      refine G.br rfl rfl (fun c1 => absurd c1 (by rw [hn]; exact nI_ge hi (by omega))) (fun c1 => ?_)
      repeat (first | refine G.sx (fun _ => false) rfl rfl rfl ?_ | refine G.gox (fun _ => false) rfl rfl rfl ?_ | refine G.getx (fun _ => false) rfl rfl rfl rfl ?_)
      refine G.br rfl rfl (fun c2 => ?_) (fun c2 => ?_)
      · have c2 : anyB (fun i => decide (own i = p)) i = true := Decidable.not_not.mp (fun q => c2 (i01.mpr q))
        rw [show anyB (fun i => decide (own i = p)) (i + 1) = true by simp [anyB, c2], if_pos rfl] at ih
        repeat (first | refine G.sx (fun _ => false) rfl rfl rfl ?_ | refine G.gox (fun _ => false) rfl rfl rfl ?_ | refine G.getx (fun _ => false) rfl rfl rfl rfl ?_)
        refine G.go rfl ?_
        exact ih
      · have c2 : anyB (fun i => decide (own i = p)) i = false := by simpa using i01.mp c2
        repeat (first | refine G.sx (fun _ => false) rfl rfl rfl ?_ | refine G.gox (fun _ => false) rfl rfl rfl ?_ | refine G.getx (fun _ => false) rfl rfl rfl rfl ?_)
        refine G.ialn rfl rfl (by omega) (by decide) ?_
        rw [ob.1]
        repeat (first | refine G.sx (fun _ => false) rfl rfl rfl ?_ | refine G.gox (fun _ => false) rfl rfl rfl ?_ | refine G.getx (fun _ => false) rfl rfl rfl rfl ?_)
        refine G.br rfl rfl (fun c3 => ?_) (fun c3 => ?_)
        · have c3 : own i ≠ p := fun q => c3 (by rw [q])
          rw [show anyB (fun i => decide (own i = p)) (i + 1) = false by simp [anyB, c2, c3], if_neg (by decide)] at ih
          repeat (first | refine G.sx (fun _ => false) rfl rfl rfl ?_ | refine G.gox (fun _ => false) rfl rfl rfl ?_ | refine G.getx (fun _ => false) rfl rfl rfl rfl ?_)
          refine G.go rfl ?_
          exact ih
        · have c3 : own i = p := (nI_eq (by omega) (by omega)).mp c3
          rw [show anyB (fun i => decide (own i = p)) (i + 1) = true by simp [anyB, c3], if_pos rfl] at ih
          repeat (first | refine G.sx (fun _ => false) rfl rfl rfl ?_ | refine G.gox (fun _ => false) rfl rfl rfl ?_ | refine G.getx (fun _ => false) rfl rfl rfl rfl ?_)
          refine G.go rfl ?_
          exact ih
    · repeat (first | refine G.sx (fun _ => false) rfl rfl rfl ?_ | refine G.gox (fun _ => false) rfl rfl rfl ?_ | refine G.getx (fun _ => false) rfl rfl rfl rfl ?_)
      refine G.br rfl rfl (fun c1 => ?_) (fun c1 => absurd (by rw [hn]; exact nI_le (Nat.le_refl nb) (by omega)) c1)
      repeat (first | refine G.sx (fun _ => false) rfl rfl rfl ?_ | refine G.gox (fun _ => false) rfl rfl rfl ?_ | refine G.getx (fun _ => false) rfl rfl rfl rfl ?_)
      refine E.ri rfl (Or.inr ⟨rfl, ?_⟩) ⟨rfl, rfl⟩
      by_cases e : anyB (fun i => decide (own i = p)) nb = true
      · rw [if_pos e]; exact Or.inr rfl
      · rw [if_neg e]; exact Or.inl rfl
  repeat (first | refine G.sx (fun q => Nat.beq q 4) rfl rfl rfl ?_ | refine G.gox (fun q => Nat.beq q 4) rfl rfl rfl ?_ | refine G.getx (fun q => Nat.beq q 4) rfl rfl rfl rfl ?_)
  exact L 0 (Nat.zero_le _)
/-- the table that the reference reckons -/
def BrF (f : Nat → Int32) (n nw : Nat) (bf : Nat → Nat → Nat) : Prop := ∀ p w, p < n → w < nw → f (10 * p + w) = nI (bf p w)
theorem OwI.st {g : Hp} {nb : Nat} {own : Nat → Nat} {f : Nat → Int32} (hO : OwI g nb own) : OwI (setI g 9 f) nb own := by
  obtain ⟨h1, h2, h3⟩ := hO
  exact ⟨by rw [setI_ne _ _ (by decide)]; exact h1, h2, fun i hi => by rw [setI_ne _ _ (by decide)]; exact h3 i hi⟩
theorem ix10 (b : Nat) : (10 : Int32) * nI b = nI (10 * b) := (Int32.ofNat_mul 10 b).symm
theorem c_Mo_reckonBars (hSt : StOk St) {g : Hp} {n : Nat} (hn : g.1 0 1 = nI n) (n12 : n ≤ 12) {nb : Nat} {own : Nat → Nat} (hO : OwI g nb own) {ns : Nat} (hs : g.1 0 5 = nI ns) (h4 : ns ≤ 4) : Ct l y_Mo_reckonBars prog_11_method_13_code 3 none (rmD 4) D cls cA slM St ad [.ref 0] g (fun r g' => r = none ∧ ∃ f, g' = setI g 9 f ∧ BrF f n (6 + ns) (fun p w => bfM own nb (fun a b => swM g own a b w) p)) := by
  refine Ct.of (tl := T_Mo_reckonBars) (by decide) tk_Mo_reckonBars cls_ok hSt (Nat.le_of_ble_eq_true rfl) (fun V G E C => ?_)
  have L : ∀ p, p ≤ n → ∀ f, (∀ p' w', p' < p → w' < 6 + ns → f (10 * p' + w') = nI (bfM own nb (fun a b => swM g own a b w') p')) → V 2 [some (.ref 0), some (.int (nI p)), none] [] (setI g 9 f) := by
    refine loopUp n (fun p hp ihp => ?_) ?_
    · intro f hf
      have L2 : ∀ w, w ≤ 6 + ns → ∀ f, (∀ p' w', (p' < p ∧ w' < 6 + ns ∨ p' = p ∧ w' < w) → f (10 * p' + w') = nI (bfM own nb (fun a b => swM g own a b w') p')) → V 12 [some (.ref 0), some (.int (nI p)), some (.int (nI w))] [] (setI g 9 f) := by
        refine loopUp (6 + ns) (fun w hw ihw => ?_) ?_
        · intro f hf
          have e5 : (setI g 9 f).1 0 5 = nI ns := by rw [setI_ne _ _ (by decide)]; exact hs
          repeat (first | refine G.sx (fun q => Nat.beq q 20) rfl rfl rfl ?_ | refine G.gox (fun q => Nat.beq q 20) rfl rfl rfl ?_ | refine G.getx (fun q => Nat.beq q 20) rfl rfl rfl rfl ?_)
          show V 20 _ [.int (nI 6 + (setI g 9 f).1 0 5), .int (nI w)] _
          rw [e5, nI_add]
          refine G.br rfl rfl (fun c1 => absurd c1 (nI_ge hw (by omega))) (fun c1 => ?_)
          repeat (first | refine G.sx (fun q => Nat.beq q 33) rfl rfl rfl ?_ | refine G.gox (fun q => Nat.beq q 33) rfl rfl rfl ?_ | refine G.getx (fun q => Nat.beq q 33) rfl rfl rfl rfl ?_)
          show V 33 _ [.int (10 * nI p + nI w), .ref 9] _
          rw [ix10, nI_add]
          repeat (first | refine G.sx (fun _ => false) rfl rfl rfl ?_ | refine G.gox (fun _ => false) rfl rfl rfl ?_ | refine G.getx (fun _ => false) rfl rfl rfl rfl ?_)
          refine C.cv [.int (nI p), .int (nI w)] [.int (nI (10 * p + w)), .ref 9] rfl cw_Mo_91 (d1 := 3) (by omega) (by omega) rfl rfl rfl (c_Mo_barsOf hSt (hO.st (f := f)) p w (by omega) (by omega)) (Nat.le_of_ble_eq_true rfl) (fun r h1 hq => ?_)
          obtain ⟨rfl, rfl⟩ := hq
          refine G.iasn rfl rfl (by omega) (by decide) ?_
          rw [upI_setI]
          have i1 := ihw (upd f (10 * p + w) (nI (bfM own nb (fun a b => swM g own a b w) p))) (fun p' w' z => by
            unfold upd
            by_cases e : 10 * p' + w' = 10 * p + w
            · have e1 : p' = p := by omega
              have e2 : w' = w := by omega
              rw [if_pos e, e1, e2]
            · rw [if_neg e]
              exact hf p' w' (by omega))
          rw [← nI_1] at i1
          repeat (first | refine G.sx (fun _ => false) rfl rfl rfl ?_ | refine G.gox (fun _ => false) rfl rfl rfl ?_ | refine G.getx (fun _ => false) rfl rfl rfl rfl ?_)
          refine G.go rfl ?_
          exact i1
        · intro f hf
          have e5 : (setI g 9 f).1 0 5 = nI ns := by rw [setI_ne _ _ (by decide)]; exact hs
          repeat (first | refine G.sx (fun q => Nat.beq q 20) rfl rfl rfl ?_ | refine G.gox (fun q => Nat.beq q 20) rfl rfl rfl ?_ | refine G.getx (fun q => Nat.beq q 20) rfl rfl rfl rfl ?_)
          show V 20 _ [.int (nI 6 + (setI g 9 f).1 0 5), .int (nI (6 + ns))] _
          rw [e5, nI_add]
          refine G.br rfl rfl (fun c1 => ?_) (fun c1 => absurd (nI_le (Nat.le_refl _) (by omega)) c1)
          have i1 := ihp f (fun p' w' z1 z2 => hf p' w' (by omega))
          rw [← nI_1] at i1
          repeat (first | refine G.sx (fun _ => false) rfl rfl rfl ?_ | refine G.gox (fun _ => false) rfl rfl rfl ?_ | refine G.getx (fun _ => false) rfl rfl rfl rfl ?_)
          refine G.go rfl ?_
          refine G.le _ ?_ i1
          repeat (first | exact leL_0 | refine leL_c rfl ?_ | refine leL_n ?_)
      repeat (first | refine G.sx (fun _ => false) rfl rfl rfl ?_ | refine G.gox (fun _ => false) rfl rfl rfl ?_ | refine G.getx (fun _ => false) rfl rfl rfl rfl ?_)
      refine G.br rfl rfl (fun c1 => absurd c1 (by rw [setI_ne _ _ (by decide), hn]; exact nI_ge hp (by omega))) (fun c1 => ?_)
      repeat (first | refine G.sx (fun q => Nat.beq q 12) rfl rfl rfl ?_ | refine G.gox (fun q => Nat.beq q 12) rfl rfl rfl ?_ | refine G.getx (fun q => Nat.beq q 12) rfl rfl rfl rfl ?_)
      exact L2 0 (Nat.zero_le _) f (fun p' w' z => hf p' w' (by omega) (by omega))
    · intro f hf
      repeat (first | refine G.sx (fun _ => false) rfl rfl rfl ?_ | refine G.gox (fun _ => false) rfl rfl rfl ?_ | refine G.getx (fun _ => false) rfl rfl rfl rfl ?_)
      refine G.br rfl rfl (fun c1 => ?_) (fun c1 => absurd (by rw [setI_ne _ _ (by decide), hn]; exact nI_le (Nat.le_refl n) (by omega)) c1)
      exact E.rv rfl rfl ⟨rfl, f, rfl, fun p w h1 h2 => hf p w h1 h2⟩
  have L0 := L 0 (Nat.zero_le _) (g.1 9) (fun p' w' z => absurd z (by omega))
  rw [setI_id] at L0
  repeat (first | refine G.sx (fun q => Nat.beq q 2) rfl rfl rfl ?_ | refine G.gox (fun q => Nat.beq q 2) rfl rfl rfl ?_ | refine G.getx (fun q => Nat.beq q 2) rfl rfl rfl rfl ?_)
  exact L0
/-- item i is free of those others along way w, by the reference's table -/
def ifM (bf : Nat → Nat → Nat) (it : Nat → Nat) (n i w B : Nat) : Bool := !anyB (fun p => decide (it p = i) && !(bf p w &&& pOf it (clr B i) n == 0)) n
theorem c_Mo_isFree (hSt : StOk St) {g : Hp} {n : Nat} {it : Nat → Nat} (hI : GrI g n it) {nw : Nat} (h10 : nw ≤ 10) {bf : Nat → Nat → Nat} (hB : BrF (g.1 9) n nw bf) (hb : ∀ p w, bf p w < 4096) (i w B : Nat) (hi : i < 12) (hw : w < nw) (hBB : B < 4096) : Ct l y_Mo_isFree prog_11_method_20_code 7 (some .boolean) (rmD 2) D cls cA slM St ad [.ref 0, .int (nI i), .int (nI w), .int (nI B)] g (fun r g' => r = some (.int (if ifM bf it n i w B then 1 else 0)) ∧ g' = g) := by
  obtain ⟨hn, n12, hit⟩ := id hI
  refine Ct.of (tl := T_Mo_isFree) (by decide) tk_Mo_isFree cls_ok hSt (Nat.le_of_ble_eq_true rfl) (fun V G E C => ?_)
  generalize hph : (fun p => decide (it p = i) && !(bf p w &&& pOf it (clr B i) n == 0)) = ph
  have L : ∀ p, p ≤ n → V 19 [some (.ref 0), some (.int (nI i)), some (.int (nI w)), some (.int (nI B)), some (.int (nI (pOf it (clr B i) n))), some (.int (if anyB ph p then 0 else 1)), some (.int (nI p))] [] g := by
    refine loopUp n (fun p hp ih => ?_) ?_
    · rw [← nI_1] at ih
      obtain ⟨q1, q2⟩ := hit p hp
      have hphp : ph p = (decide (it p = i) && !(bf p w &&& pOf it (clr B i) n == 0)) := by rw [← hph]
      have Z0 : ∀ o, anyB ph (p + 1) = true → V 66 [some (.ref 0), some (.int (nI i)), some (.int (nI w)), some (.int (nI B)), some (.int (nI (pOf it (clr B i) n))), o, some (.int (nI p))] [] g := by
        intro o e
        rw [e, if_pos rfl] at ih
        repeat (first | refine G.sx (fun _ => false) rfl rfl rfl ?_ | refine G.gox (fun _ => false) rfl rfl rfl ?_ | refine G.getx (fun _ => false) rfl rfl rfl rfl ?_)
        refine G.go rfl ?_
        exact ih
      have Z1 : ∀ o, anyB ph (p + 1) = false → V 62 [some (.ref 0), some (.int (nI i)), some (.int (nI w)), some (.int (nI B)), some (.int (nI (pOf it (clr B i) n))), o, some (.int (nI p))] [] g := by
        intro o e
        rw [e, if_neg (by decide)] at ih
        repeat (first | refine G.sx (fun _ => false) rfl rfl rfl ?_ | refine G.gox (fun _ => false) rfl rfl rfl ?_ | refine G.getx (fun _ => false) rfl rfl rfl rfl ?_)
        refine G.go rfl ?_
        exact ih
      repeat (first | refine G.sx (fun _ => false) rfl rfl rfl ?_ | refine G.gox (fun _ => false) rfl rfl rfl ?_ | refine G.getx (fun _ => false) rfl rfl rfl rfl ?_)
      refine G.br rfl rfl (fun c1 => absurd c1 (by rw [hn]; exact nI_ge hp (by omega))) (fun c1 => ?_)
      repeat (first | refine G.sx (fun _ => false) rfl rfl rfl ?_ | refine G.gox (fun _ => false) rfl rfl rfl ?_ | refine G.getx (fun _ => false) rfl rfl rfl rfl ?_)
      refine G.br rfl rfl (fun c2 => ?_) (fun c2 => ?_)
      · have c2 : anyB ph p = true := by
          cases e : anyB ph p with
          | true => rfl
          | false => rw [e] at c2; exact absurd c2 (by decide)
        exact Z0 _ (by simp [anyB, c2])
      · have c2 : anyB ph p = false := by
          cases e : anyB ph p with
          | false => rfl
          | true => rw [e] at c2; exact absurd rfl c2
        repeat (first | refine G.sx (fun _ => false) rfl rfl rfl ?_ | refine G.gox (fun _ => false) rfl rfl rfl ?_ | refine G.getx (fun _ => false) rfl rfl rfl rfl ?_)
        refine G.ialn rfl rfl (by omega) (by decide) ?_
        rw [q1]
        repeat (first | refine G.sx (fun _ => false) rfl rfl rfl ?_ | refine G.gox (fun _ => false) rfl rfl rfl ?_ | refine G.getx (fun _ => false) rfl rfl rfl rfl ?_)
        refine G.br rfl rfl (fun c3 => ?_) (fun c3 => ?_)
        · have c3 : it p ≠ i := fun q => c3 (by rw [q])
          exact Z1 _ (by simp [anyB, c2, hphp, c3])
        · have c3 : it p = i := (nI_eq (by omega) (by omega)).mp c3
          repeat (first | refine G.sx (fun q => Nat.beq q 55) rfl rfl rfl ?_ | refine G.gox (fun q => Nat.beq q 55) rfl rfl rfl ?_ | refine G.getx (fun q => Nat.beq q 55) rfl rfl rfl rfl ?_)
          show V 55 _ [.int (10 * nI p + nI w), .ref 9] _
          rw [ix10, nI_add]
          refine G.ialn rfl rfl (by omega) (by decide) ?_
          rw [hB p w hp hw]
          repeat (first | refine G.sx (fun _ => false) rfl rfl rfl ?_ | refine G.gox (fun _ => false) rfl rfl rfl ?_ | refine G.getx (fun _ => false) rfl rfl rfl rfl ?_)
          refine G.br rfl rfl (fun c4 => ?_) (fun c4 => ?_)
          · have c4 : (bf p w &&& pOf it (clr B i) n == 0) = false := by
              cases e : (bf p w &&& pOf it (clr B i) n == 0) with
              | false => rfl
              | true => exact absurd ((and0 (hb p w)).mpr e) c4
            exact Z0 _ (by simp only [anyB, c2, hphp, c3, c4]; decide)
          · have c4 : (bf p w &&& pOf it (clr B i) n == 0) = true := (and0 (hb p w)).mp c4
            exact Z1 _ (by simp only [anyB, c2, hphp, c3, c4]; decide)
    · repeat (first | refine G.sx (fun _ => false) rfl rfl rfl ?_ | refine G.gox (fun _ => false) rfl rfl rfl ?_ | refine G.getx (fun _ => false) rfl rfl rfl rfl ?_)
      refine G.br rfl rfl (fun c1 => ?_) (fun c1 => absurd (by rw [hn]; exact nI_le (Nat.le_refl n) (by omega)) c1)
      have e0 : ifM bf it n i w B = !anyB ph n := by unfold ifM; rw [hph]
      repeat (first | refine G.sx (fun _ => false) rfl rfl rfl ?_ | refine G.gox (fun _ => false) rfl rfl rfl ?_ | refine G.getx (fun _ => false) rfl rfl rfl rfl ?_)
      cases e : anyB ph n with
      | true => exact E.ri rfl (Or.inr ⟨rfl, Or.inl rfl⟩) ⟨by rw [e0, e]; rfl, rfl⟩
      | false => exact E.ri rfl (Or.inr ⟨rfl, Or.inr rfl⟩) ⟨by rw [e0, e]; rfl, rfl⟩
  repeat (first | refine G.sx (fun q => Nat.beq q 8) rfl rfl rfl ?_ | refine G.gox (fun q => Nat.beq q 8) rfl rfl rfl ?_ | refine G.getx (fun q => Nat.beq q 8) rfl rfl rfl rfl ?_)
  show V 8 _ [.int (nI B &&& ((1 : Int32) <<< (nI i &&& 31) ^^^ (-1))), .ref 0] _
  rw [not_1 hBB hi]
  refine C.cv [.int (nI (clr B i))] [] rfl cw_Mo_102 (d1 := 1) (by omega) (by omega) rfl rfl rfl (c_Mo_allParts hSt hI _ (clr_lt hBB)) (by decide) (fun r h1 hq => ?_)
  obtain ⟨rfl, rfl⟩ := hq
  repeat (first | refine G.sx (fun q => Nat.beq q 19) rfl rfl rfl ?_ | refine G.gox (fun q => Nat.beq q 19) rfl rfl rfl ?_ | refine G.getx (fun q => Nat.beq q 19) rfl rfl rfl rfl ?_)
  exact L 0 (Nat.zero_le _)
/-- the least way out -/
def woM (bf : Nat → Nat → Nat) (it : Nat → Nat) (n nw i B : Nat) : Option Nat := fstN (fun w => ifM bf it n i w B) nw 0
theorem nI_m1 (k : Nat) : nI (k + 1) + -1 = nI k := by rw [← nI_1, Int32.add_assoc, show (1 : Int32) + -1 = 0 by decide, Int32.add_zero]
theorem c_Mo_wayOut (hSt : StOk St) {g : Hp} {n : Nat} {it : Nat → Nat} (hI : GrI g n it) {ns : Nat} (hs : g.1 0 5 = nI ns) (h4 : ns ≤ 4) {bf : Nat → Nat → Nat} (hB : BrF (g.1 9) n (6 + ns) bf) (hb : ∀ p w, bf p w < 4096) (i B : Nat) (hi : i < 12) (hBB : B < 4096) : Ct l y_Mo_wayOut prog_11_method_21_code 5 (some .int) (rmD 3) D cls cA slM St ad [.ref 0, .int (nI i), .int (nI B)] g (fun r g' => r = some (.int (oI (woM bf it n (6 + ns) i B))) ∧ g' = g) := by
  refine Ct.of (tl := T_Mo_wayOut) (by decide) tk_Mo_wayOut cls_ok hSt (Nat.le_of_ble_eq_true rfl) (fun V G E C => ?_)
  have L : ∀ k, k ≤ 6 + ns → ∀ x : Int32, x = nI k + -1 → V 10 [some (.ref 0), some (.int (nI i)), some (.int (nI B)), some (.int (oI (fstN (fun w => ifM bf it n i w B) (6 + ns - k) k))), some (.int x)] [] g := by
    intro k
    induction k with
    | zero =>
      intro _ x hx
      repeat (first | refine G.sx (fun _ => false) rfl rfl rfl ?_ | refine G.gox (fun _ => false) rfl rfl rfl ?_ | refine G.getx (fun _ => false) rfl rfl rfl rfl ?_)
      refine G.br rfl rfl (fun c1 => ?_) (fun c1 => absurd (by rw [hx]; decide) c1)
      repeat (first | refine G.sx (fun _ => false) rfl rfl rfl ?_ | refine G.gox (fun _ => false) rfl rfl rfl ?_ | refine G.getx (fun _ => false) rfl rfl rfl rfl ?_)
      exact E.ri rfl (Or.inl rfl) ⟨rfl, rfl⟩
    | succ k ih =>
      intro hk x hx
      rw [nI_m1] at hx
      subst hx
      have i1 := ih (by omega) _ rfl
      rw [show 6 + ns - k = (6 + ns - (k + 1)) + 1 by omega] at i1
      simp only [fstN] at i1
      repeat (first | refine G.sx (fun _ => false) rfl rfl rfl ?_ | refine G.gox (fun _ => false) rfl rfl rfl ?_ | refine G.getx (fun _ => false) rfl rfl rfl rfl ?_)
      refine G.br rfl rfl (fun c1 => absurd c1 (nI_pos (by omega))) (fun c1 => ?_)
      repeat (first | refine G.sx (fun _ => false) rfl rfl rfl ?_ | refine G.gox (fun _ => false) rfl rfl rfl ?_ | refine G.getx (fun _ => false) rfl rfl rfl rfl ?_)
      refine C.cv [.int (nI i), .int (nI k), .int (nI B)] [] rfl cw_Mo_106 (d1 := 2) (by omega) (by omega) rfl rfl rfl (c_Mo_isFree hSt hI (by omega) hB hb i k B hi (by omega) hBB) (by decide) (fun r h1 hq => ?_)
      obtain ⟨rfl, rfl⟩ := hq
      refine G.br rfl rfl (fun c2 => ?_) (fun c2 => ?_)
      · have c2 : ¬ ifM bf it n i k B = true := i01.mp c2
        rw [if_neg c2] at i1
        repeat (first | refine G.sx (fun _ => false) rfl rfl rfl ?_ | refine G.gox (fun _ => false) rfl rfl rfl ?_ | refine G.getx (fun _ => false) rfl rfl rfl rfl ?_)
        refine G.go rfl ?_
        exact i1
      · have c2 : ifM bf it n i k B = true := Decidable.not_not.mp (fun q => c2 (i01.mpr q))
        rw [if_pos c2] at i1
        repeat (first | refine G.sx (fun _ => false) rfl rfl rfl ?_ | refine G.gox (fun _ => false) rfl rfl rfl ?_ | refine G.getx (fun _ => false) rfl rfl rfl rfl ?_)
        refine G.go rfl ?_
        exact i1
  repeat (first | refine G.sx (fun q => Nat.beq q 8) rfl rfl rfl ?_ | refine G.gox (fun q => Nat.beq q 8) rfl rfl rfl ?_ | refine G.getx (fun q => Nat.beq q 8) rfl rfl rfl rfl ?_)
  show V 8 _ [.int (nI 5 + g.1 0 5)] _
  rw [hs, nI_add]
  repeat (first | refine G.sx (fun q => Nat.beq q 10) rfl rfl rfl ?_ | refine G.gox (fun q => Nat.beq q 10) rfl rfl rfl ?_ | refine G.getx (fun q => Nat.beq q 10) rfl rfl rfl rfl ?_)
  have L0 := L (6 + ns) (Nat.le_refl _) (nI (5 + ns)) (by rw [show 6 + ns = 5 + ns + 1 by omega, nI_m1])
  rw [Nat.sub_self] at L0
  exact L0
end MoE
