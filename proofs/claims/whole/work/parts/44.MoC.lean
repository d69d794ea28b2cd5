/-! The reference: oneMore, twoMore, two -/
section MoL
variable {l : Launch} {D : va_G} {cA : Nat → ClassId} {ad : Nat → Nat} {St : (Nat → Prop) → State → Heap → Prop}
theorem icF_2 {g g' : Hp} (h : g.2 = g'.2) (own it : Nat → Nat) (i a : Nat) : icF g own it i a = icF g' own it i a := by
  funext b
  unfold icF ovM edG
  rw [h]
theorem icM_2 {g g' : Hp} (h : g.2 = g'.2) (own it : Nat → Nat) (nb i : Nat) : icM g own it nb i = icM g' own it nb i := by
  unfold icM
  rw [show (fun a => anyB (icF g own it i a) nb) = (fun a => anyB (icF g' own it i a) nb) from by funext a; rw [icF_2 h]]
theorem shG_2 {g g' : Hp} (h : g.2 = g'.2) (n : Nat) (it : Nat → Nat) (i w : Nat) (far : Int64) : (shG g n it i w far).2 = (shG g' n it i w far).2 := by
  unfold shG setL
  show va_up g.2 8 (shF (g.2 8) (g.2 3) it i w far (3 * n)) = va_up g'.2 8 (shF (g'.2 8) (g'.2 3) it i w far (3 * n))
  rw [h]
theorem woG_2 {g g' : Hp} (h : g.2 = g'.2) (n : Nat) (it : Nat → Nat) (nb : Nat) (own : Nat → Nat) (ns : Nat) : woG g n it nb own ns = woG g' n it nb own ns := by
  unfold woG
  rw [show (fun p w => bfM own nb (fun a b => swM g own a b w) p) = (fun p w => bfM own nb (fun a b => swM g' own a b w) p) from by
    funext p w
    rw [show (fun a b => swM g own a b w) = (fun a b => swM g' own a b w) from by
      funext a b
      unfold swM edG
      rw [h]]]
/-- what is asked of one small move of item i along way w -/
def sqM (chk : Hp → Bool) (g : Hp) (n : Nat) (it : Nat → Nat) (nb : Nat) (own : Nat → Nat) (i w : Nat) : Bool := icM (shG g n it i w 1) own it nb i && chk (shG g n it i w 1)
/-- some small move behind which chk holds -/
def smM (chk : Hp → Bool) (g : Hp) (n : Nat) (it : Nat → Nat) (nb : Nat) (own : Nat → Nat) : Bool := anyB (fun i => decide (it i = i) && anyB (sqM chk g n it nb own i) 6) n
theorem sqM_2 {chk : Hp → Bool} (hc : ∀ g g' : Hp, g.2 = g'.2 → chk g = chk g') {g g' : Hp} (h : g.2 = g'.2) (n : Nat) (it : Nat → Nat) (nb : Nat) (own : Nat → Nat) (i : Nat) : sqM chk g n it nb own i = sqM chk g' n it nb own i := by
  funext w
  unfold sqM
  rw [icM_2 (shG_2 h n it i w 1), hc _ _ (shG_2 h n it i w 1)]
theorem smM_2 {chk : Hp → Bool} (hc : ∀ g g' : Hp, g.2 = g'.2 → chk g = chk g') {g g' : Hp} (h : g.2 = g'.2) (n : Nat) (it : Nat → Nat) (nb : Nat) (own : Nat → Nat) : smM chk g n it nb own = smM chk g' n it nb own := by
  unfold smM
  rw [show (fun i => decide (it i = i) && anyB (sqM chk g n it nb own i) 6) = (fun i => decide (it i = i) && anyB (sqM chk g' n it nb own i) 6) from by funext i; rw [sqM_2 hc h]]
/-- some item is free as the boxes stand -/
def zmM (n : Nat) (it : Nat → Nat) (nb : Nat) (own : Nat → Nat) (ns : Nat) (g : Hp) : Bool := afM (woG g n it nb own ns) (aiM it n) n
theorem zmM_2 (n : Nat) (it : Nat → Nat) (nb : Nat) (own : Nat → Nat) (ns : Nat) (g g' : Hp) (h : g.2 = g'.2) : zmM n it nb own ns g = zmM n it nb own ns g' := by
  unfold zmM
  rw [woG_2 h]
def omM (n : Nat) (it : Nat → Nat) (nb : Nat) (own : Nat → Nat) (ns : Nat) (g : Hp) : Bool := smM (zmM n it nb own ns) g n it nb own
theorem omM_2 (n : Nat) (it : Nat → Nat) (nb : Nat) (own : Nat → Nat) (ns : Nat) (g g' : Hp) (h : g.2 = g'.2) : omM n it nb own ns g = omM n it nb own ns g' := smM_2 (zmM_2 n it nb own ns) h n it nb own
def tmM (n : Nat) (it : Nat → Nat) (nb : Nat) (own : Nat → Nat) (ns : Nat) (g : Hp) : Bool := smM (omM n it nb own ns) g n it nb own
theorem tmM_2 (n : Nat) (it : Nat → Nat) (nb : Nat) (own : Nat → Nat) (ns : Nat) (g g' : Hp) (h : g.2 = g'.2) : tmM n it nb own ns g = tmM n it nb own ns g' := smM_2 (omM_2 n it nb own ns) h n it nb own
theorem anyB_up {f : Nat → Bool} {a b : Nat} (h : anyB f a = true) (hab : a ≤ b) : anyB f b = true := by
  obtain ⟨i, h1, h2⟩ := (anyB_iff f a).mp h
  exact (anyB_iff f b).mpr ⟨i, by omega, h2⟩
theorem setI_2 (g : Hp) (k : Nat) (f f' : Nat → Int32) : setI (setI g k f) k f' = setI g k f' := by
  unfold setI
  refine Prod.ext ?_ rfl
  show va_up (va_up g.1 k f) k f' = va_up g.1 k f'
  funext j
  by_cases e : j = k
  · subst e
    rw [va_up_self, va_up_self]
  · rw [va_up_ne _ _ e, va_up_ne _ _ e, va_up_ne _ _ e]
theorem shG_M {g : Hp} {n : Nat} {it : Nat → Nat} {nb : Nat} {own : Nat → Nat} {ns : Nat} (hM : MdI g n it nb own ns) (i w : Nat) (far : Int64) : MdI (shG g n it i w far) n it nb own ns := hM
set_option maxHeartbeats 1000000 in
theorem c_Mo_oneMore (hSt : StOk St) {g : Hp} {n : Nat} {it : Nat → Nat} {nb : Nat} {own : Nat → Nat} {ns : Nat} (hM : MdI g n it nb own ns) (hon : ∀ a, a < nb → own a < n) : Ct l y_Mo_oneMore prog_11_method_34_code 4 (some .boolean) (rmD 6) D cls cA slM St ad [.ref 0] g (fun r g' => (∃ f9, g' = setI g 9 f9) ∧ r = some (.int (if omM n it nb own ns g then 1 else 0))) := by
  have n12 := hM.1.2.1
  refine Ct.of (tl := T_Mo_oneMore) (by decide) tk_Mo_oneMore cls_ok hSt (Nat.le_of_ble_eq_true rfl) (fun V G E C => ?_)
  generalize hP : sqM (zmM n it nb own ns) g n it nb own = P
  generalize hQ : (fun i => decide (it i = i) && anyB (P i) 6) = Q
  have hR : omM n it nb own ns g = anyB Q n := by
    unfold omM smM
    rw [hP, hQ]
  have hPw : ∀ i w, P i w = (icM (shG g n it i w 1) own it nb i && zmM n it nb own ns (shG g n it i w 1)) := fun i w => by rw [← hP]; rfl
  have hQi : ∀ i, Q i = (decide (it i = i) && anyB (P i) 6) := fun i => by rw [← hQ]
  have L : ∀ p, p ≤ n → ∀ f9 o3, V 4 [some (.ref 0), some (.int (if anyB Q p then 1 else 0)), some (.int (nI p)), o3] [] (setI g 9 f9) := by
    refine loopUp n (fun p hp ih => ?_) ?_
    · intro f9 o3
      rw [← nI_1] at ih
      have Z : ∀ f9 (B : Bool) o3, B = anyB Q (p + 1) → V 75 [some (.ref 0), some (.int (if B then 1 else 0)), some (.int (nI p)), o3] [] (setI g 9 f9) := by
        intro f9 B o3 e
        rw [← e] at ih
        repeat (first | refine G.sx (fun _ => false) rfl rfl rfl ?_ | refine G.gox (fun _ => false) rfl rfl rfl ?_ | refine G.getx (fun _ => false) rfl rfl rfl rfl ?_)
        refine G.go rfl ?_
        exact ih _ _
      have LI : ∀ w, w ≤ 6 → ∀ f9 (B : Bool), B = (anyB Q p || (decide (it p = p) && anyB (P p) w)) → V 14 [some (.ref 0), some (.int (if B then 1 else 0)), some (.int (nI p)), some (.int (nI w))] [] (setI g 9 f9) := by
        refine loopUp 6 (fun w hw ihw => ?_) ?_
        · intro f9 B hB
          rw [← nI_1] at ihw
          have hM9 : MdI (setI g 9 f9) n it nb own ns := hM.st9
          repeat (first | refine G.sx (fun _ => false) rfl rfl rfl ?_ | refine G.gox (fun _ => false) rfl rfl rfl ?_ | refine G.getx (fun _ => false) rfl rfl rfl rfl ?_)
          refine G.br rfl rfl (fun c1 => absurd c1 (nI_ge (b := 6) hw (by omega))) (fun _ => ?_)
          repeat (first | refine G.sx (fun _ => false) rfl rfl rfl ?_ | refine G.gox (fun _ => false) rfl rfl rfl ?_ | refine G.getx (fun _ => false) rfl rfl rfl rfl ?_)
          refine C.cv [.int (nI p)] [] rfl cw_Mo_98 (d1 := 1) (by omega) (by omega) rfl rfl rfl (c_Mo_isItem hSt hM9.1 p hp) (by decide) (fun r h1 hq => ?_)
          obtain ⟨rfl, rfl⟩ := hq
          refine G.br rfl rfl (fun c2 => ?_) (fun c2 => ?_)
          · have c2 := i01.mp c2
            exact Z _ _ _ (by rw [hB]; simp [anyB, hQi, c2])
          have c2 : it p = p := Decidable.not_not.mp (fun q => c2 (i01.mpr q))
          repeat (first | refine G.sx (fun _ => false) rfl rfl rfl ?_ | refine G.gox (fun _ => false) rfl rfl rfl ?_ | refine G.getx (fun _ => false) rfl rfl rfl rfl ?_)
          refine G.br rfl rfl (fun c3 => ?_) (fun c3 => ?_)
          · have c3 : B = true := by
              cases e : B with
              | true => rfl
              | false => rw [e] at c3; exact absurd rfl c3
            refine Z _ _ _ ?_
            rw [c3]
            rw [c3] at hB
            have hB := hB.symm
            rw [Bool.or_eq_true, Bool.and_eq_true] at hB
            show true = (anyB Q p || Q p)
            rcases hB with q | q
            · rw [q, Bool.true_or]
            · rw [hQi, q.1, anyB_up q.2 (by omega), Bool.and_self, Bool.or_true]
          have c3 : B = false := by
            cases e : B with
            | false => rfl
            | true => rw [e] at c3; exact absurd c3 (by decide)
          rw [c3] at hB
          have hB := hB.symm
          rw [Bool.or_eq_false_iff] at hB
          have hN : (anyB Q p || (decide (it p = p) && anyB (P p) (w + 1))) = P p w := by
            have h2 := hB.2
            rw [decide_eq_true c2, Bool.true_and] at h2
            rw [hB.1, decide_eq_true c2, Bool.true_and, Bool.false_or]
            show (anyB (P p) w || P p w) = P p w
            rw [h2, Bool.false_or]
          repeat (first | refine G.sx (fun _ => false) rfl rfl rfl ?_ | refine G.gox (fun _ => false) rfl rfl rfl ?_ | refine G.getx (fun _ => false) rfl rfl rfl rfl ?_)
          refine C.cv [.int (nI p), .int (nI w), .long 1] [] rfl cw_Mo_139 (d1 := 1) (by omega) (by omega) rfl rfl rfl (c_Mo_shift hSt hM9.1 p w (by omega) (by omega) 1) (by decide) (fun r h1 hq => ?_)
          obtain ⟨rfl, rfl⟩ := hq
          have hMs : ∀ f, MdI (setI (shG g n it p w 1) 9 f) n it nb own ns := fun f => (shG_M hM p w 1).st9
          have Y : ∀ f o1, V 59 [some (.ref 0), o1, some (.int (nI p)), some (.int (nI w))] [.int (if P p w then 1 else 0)] (setI (shG g n it p w 1) 9 f) := by
            intro f o1
            repeat (first | refine G.sx (fun _ => false) rfl rfl rfl ?_ | refine G.gox (fun _ => false) rfl rfl rfl ?_ | refine G.getx (fun _ => false) rfl rfl rfl rfl ?_)
            refine C.cv [.int (nI p), .int (nI w), .long (-1)] [] rfl cw_Mo_139 (d1 := 1) (by omega) (by omega) rfl rfl rfl (c_Mo_shift hSt (hMs f).1 p w (by omega) (by omega) (-1)) (by decide) (fun r h1 hq => ?_)
            obtain ⟨rfl, rfl⟩ := hq
            rw [shG_back]
            repeat (first | refine G.sx (fun _ => false) rfl rfl rfl ?_ | refine G.gox (fun _ => false) rfl rfl rfl ?_ | refine G.getx (fun _ => false) rfl rfl rfl rfl ?_)
            refine G.go rfl ?_
            exact ihw _ _ hN.symm
          have Y0 : ∀ f o1, P p w = false → V 58 [some (.ref 0), o1, some (.int (nI p)), some (.int (nI w))] [] (setI (shG g n it p w 1) 9 f) := by
            intro f o1 e
            have y := Y f o1
            rw [e, if_neg (by decide)] at y
            repeat (first | refine G.sx (fun q => Nat.beq q 59) rfl rfl rfl ?_ | refine G.gox (fun q => Nat.beq q 59) rfl rfl rfl ?_ | refine G.getx (fun q => Nat.beq q 59) rfl rfl rfl rfl ?_)
            exact y
          show V 39 _ [] (setI (shG g n it p w 1) 9 f9)
          repeat (first | refine G.sx (fun _ => false) rfl rfl rfl ?_ | refine G.gox (fun _ => false) rfl rfl rfl ?_ | refine G.getx (fun _ => false) rfl rfl rfl rfl ?_)
          refine C.cv [.int (nI p)] [] rfl cw_Mo_143 (d1 := 2) (by omega) (by omega) rfl rfl rfl (c_Mo_isClear hSt (hMs f9) hon p (by omega)) (by decide) (fun r h1 hq => ?_)
          obtain ⟨rfl, rfl⟩ := hq
          rw [icM_2 (show (setI (shG g n it p w 1) 9 f9).2 = (shG g n it p w 1).2 from rfl)]
          refine G.br rfl rfl (fun c4 => Y0 _ _ (by
            have c4 := i01.mp c4
            rw [hPw]
            simp [c4])) (fun c4 => ?_)
          have c4 : icM (shG g n it p w 1) own it nb p = true := Decidable.not_not.mp (fun q => c4 (i01.mpr q))
          repeat (first | refine G.sx (fun _ => false) rfl rfl rfl ?_ | refine G.gox (fun _ => false) rfl rfl rfl ?_ | refine G.getx (fun _ => false) rfl rfl rfl rfl ?_)
          refine C.cv [] [] rfl cw_Mo_146 (d1 := 5) (by omega) (by omega) rfl rfl rfl (c_Mo_anyFree hSt (hMs f9)) (by decide) (fun r h1 hq => ?_)
          obtain ⟨⟨f, rfl⟩, rfl⟩ := hq
          rw [setI_2]
          have e5 : afM (woG (setI (shG g n it p w 1) 9 f9) n it nb own ns) (aiM it n) n = zmM n it nb own ns (shG g n it p w 1) := zmM_2 n it nb own ns _ _ rfl
          rw [e5]
          refine G.br rfl rfl (fun c5 => Y0 _ _ (by
            have c5 := i01.mp c5
            rw [hPw]
            simp [c5])) (fun c5 => ?_)
          have c5 : zmM n it nb own ns (shG g n it p w 1) = true := Decidable.not_not.mp (fun q => c5 (i01.mpr q))
          have y := fun o1 => Y f o1
          rw [show P p w = true from by rw [hPw, c4, c5]; rfl, if_pos rfl] at y
          repeat (first | refine G.sx (fun q => Nat.beq q 59) rfl rfl rfl ?_ | refine G.gox (fun q => Nat.beq q 59) rfl rfl rfl ?_ | refine G.getx (fun q => Nat.beq q 59) rfl rfl rfl rfl ?_)
          exact y _
        · intro f9 B hB
          repeat (first | refine G.sx (fun _ => false) rfl rfl rfl ?_ | refine G.gox (fun _ => false) rfl rfl rfl ?_ | refine G.getx (fun _ => false) rfl rfl rfl rfl ?_)
          refine G.br rfl rfl (fun _ => ?_) (fun c1 => absurd (nI_le (a := 6) (Nat.le_refl 6) (by omega)) c1)
          exact Z _ _ _ (by rw [hB, ← hQi]; rfl)
      repeat (first | refine G.sx (fun _ => false) rfl rfl rfl ?_ | refine G.gox (fun _ => false) rfl rfl rfl ?_ | refine G.getx (fun _ => false) rfl rfl rfl rfl ?_)
      refine G.br rfl rfl (fun c1 => absurd c1 (by rw [(hM.st9 (f9 := f9)).1.1]; exact nI_ge hp (by omega))) (fun _ => ?_)
      repeat (first | refine G.sx (fun q => Nat.beq q 14) rfl rfl rfl ?_ | refine G.gox (fun q => Nat.beq q 14) rfl rfl rfl ?_ | refine G.getx (fun q => Nat.beq q 14) rfl rfl rfl rfl ?_)
      exact LI 0 (Nat.zero_le _) _ _ (by simp [anyB])
    · intro f9 o3
      repeat (first | refine G.sx (fun _ => false) rfl rfl rfl ?_ | refine G.gox (fun _ => false) rfl rfl rfl ?_ | refine G.getx (fun _ => false) rfl rfl rfl rfl ?_)
      refine G.br rfl rfl (fun _ => ?_) (fun c1 => absurd (by rw [(hM.st9 (f9 := f9)).1.1]; exact nI_le (Nat.le_refl n) (by omega)) c1)
      repeat (first | refine G.sx (fun _ => false) rfl rfl rfl ?_ | refine G.gox (fun _ => false) rfl rfl rfl ?_ | refine G.getx (fun _ => false) rfl rfl rfl rfl ?_)
      cases e : anyB Q n with
      | true => exact E.ri rfl (Or.inr ⟨rfl, Or.inr rfl⟩) ⟨⟨f9, rfl⟩, by rw [hR, e]⟩
      | false => exact E.ri rfl (Or.inr ⟨rfl, Or.inl rfl⟩) ⟨⟨f9, rfl⟩, by rw [hR, e]⟩
  have L0 := L 0 (Nat.zero_le _) (g.1 9)
  rw [setI_id] at L0
  repeat (first | refine G.sx (fun q => Nat.beq q 4) rfl rfl rfl ?_ | refine G.gox (fun q => Nat.beq q 4) rfl rfl rfl ?_ | refine G.getx (fun q => Nat.beq q 4) rfl rfl rfl rfl ?_)
  exact L0 _
set_option maxHeartbeats 1000000 in
theorem c_Mo_twoMore (hSt : StOk St) {g : Hp} {n : Nat} {it : Nat → Nat} {nb : Nat} {own : Nat → Nat} {ns : Nat} (hM : MdI g n it nb own ns) (hon : ∀ a, a < nb → own a < n) : Ct l y_Mo_twoMore prog_11_method_35_code 4 (some .boolean) (rmD 7) D cls cA slM St ad [.ref 0] g (fun r g' => (∃ f9, g' = setI g 9 f9) ∧ r = some (.int (if tmM n it nb own ns g then 1 else 0))) := by
  have n12 := hM.1.2.1
  refine Ct.of (tl := T_Mo_twoMore) (by decide) tk_Mo_twoMore cls_ok hSt (Nat.le_of_ble_eq_true rfl) (fun V G E C => ?_)
  generalize hP : sqM (omM n it nb own ns) g n it nb own = P
  generalize hQ : (fun i => decide (it i = i) && anyB (P i) 6) = Q
  have hR : tmM n it nb own ns g = anyB Q n := by
    unfold tmM smM
    rw [hP, hQ]
  have hPw : ∀ i w, P i w = (icM (shG g n it i w 1) own it nb i && omM n it nb own ns (shG g n it i w 1)) := fun i w => by rw [← hP]; rfl
  have hQi : ∀ i, Q i = (decide (it i = i) && anyB (P i) 6) := fun i => by rw [← hQ]
  have L : ∀ p, p ≤ n → ∀ f9 o3, V 4 [some (.ref 0), some (.int (if anyB Q p then 1 else 0)), some (.int (nI p)), o3] [] (setI g 9 f9) := by
    refine loopUp n (fun p hp ih => ?_) ?_
    · intro f9 o3
      rw [← nI_1] at ih
      have Z : ∀ f9 (B : Bool) o3, B = anyB Q (p + 1) → V 75 [some (.ref 0), some (.int (if B then 1 else 0)), some (.int (nI p)), o3] [] (setI g 9 f9) := by
        intro f9 B o3 e
        rw [← e] at ih
        repeat (first | refine G.sx (fun _ => false) rfl rfl rfl ?_ | refine G.gox (fun _ => false) rfl rfl rfl ?_ | refine G.getx (fun _ => false) rfl rfl rfl rfl ?_)
        refine G.go rfl ?_
        exact ih _ _
      have LI : ∀ w, w ≤ 6 → ∀ f9 (B : Bool), B = (anyB Q p || (decide (it p = p) && anyB (P p) w)) → V 14 [some (.ref 0), some (.int (if B then 1 else 0)), some (.int (nI p)), some (.int (nI w))] [] (setI g 9 f9) := by
        refine loopUp 6 (fun w hw ihw => ?_) ?_
        · intro f9 B hB
          rw [← nI_1] at ihw
          have hM9 : MdI (setI g 9 f9) n it nb own ns := hM.st9
          repeat (first | refine G.sx (fun _ => false) rfl rfl rfl ?_ | refine G.gox (fun _ => false) rfl rfl rfl ?_ | refine G.getx (fun _ => false) rfl rfl rfl rfl ?_)
          refine G.br rfl rfl (fun c1 => absurd c1 (nI_ge (b := 6) hw (by omega))) (fun _ => ?_)
          repeat (first | refine G.sx (fun _ => false) rfl rfl rfl ?_ | refine G.gox (fun _ => false) rfl rfl rfl ?_ | refine G.getx (fun _ => false) rfl rfl rfl rfl ?_)
          refine C.cv [.int (nI p)] [] rfl cw_Mo_98 (d1 := 1) (by omega) (by omega) rfl rfl rfl (c_Mo_isItem hSt hM9.1 p hp) (by decide) (fun r h1 hq => ?_)
          obtain ⟨rfl, rfl⟩ := hq
          refine G.br rfl rfl (fun c2 => ?_) (fun c2 => ?_)
          · have c2 := i01.mp c2
            exact Z _ _ _ (by rw [hB]; simp [anyB, hQi, c2])
          have c2 : it p = p := Decidable.not_not.mp (fun q => c2 (i01.mpr q))
          repeat (first | refine G.sx (fun _ => false) rfl rfl rfl ?_ | refine G.gox (fun _ => false) rfl rfl rfl ?_ | refine G.getx (fun _ => false) rfl rfl rfl rfl ?_)
          refine G.br rfl rfl (fun c3 => ?_) (fun c3 => ?_)
          · have c3 : B = true := by
              cases e : B with
              | true => rfl
              | false => rw [e] at c3; exact absurd rfl c3
            refine Z _ _ _ ?_
            rw [c3]
            rw [c3] at hB
            have hB := hB.symm
            rw [Bool.or_eq_true, Bool.and_eq_true] at hB
            show true = (anyB Q p || Q p)
            rcases hB with q | q
            · rw [q, Bool.true_or]
            · rw [hQi, q.1, anyB_up q.2 (by omega), Bool.and_self, Bool.or_true]
          have c3 : B = false := by
            cases e : B with
            | false => rfl
            | true => rw [e] at c3; exact absurd c3 (by decide)
          rw [c3] at hB
          have hB := hB.symm
          rw [Bool.or_eq_false_iff] at hB
          have hN : (anyB Q p || (decide (it p = p) && anyB (P p) (w + 1))) = P p w := by
            have h2 := hB.2
            rw [decide_eq_true c2, Bool.true_and] at h2
            rw [hB.1, decide_eq_true c2, Bool.true_and, Bool.false_or]
            show (anyB (P p) w || P p w) = P p w
            rw [h2, Bool.false_or]
          repeat (first | refine G.sx (fun _ => false) rfl rfl rfl ?_ | refine G.gox (fun _ => false) rfl rfl rfl ?_ | refine G.getx (fun _ => false) rfl rfl rfl rfl ?_)
          refine C.cv [.int (nI p), .int (nI w), .long 1] [] rfl cw_Mo_139 (d1 := 1) (by omega) (by omega) rfl rfl rfl (c_Mo_shift hSt hM9.1 p w (by omega) (by omega) 1) (by decide) (fun r h1 hq => ?_)
          obtain ⟨rfl, rfl⟩ := hq
          have hMs : ∀ f, MdI (setI (shG g n it p w 1) 9 f) n it nb own ns := fun f => (shG_M hM p w 1).st9
          have Y : ∀ f o1, V 59 [some (.ref 0), o1, some (.int (nI p)), some (.int (nI w))] [.int (if P p w then 1 else 0)] (setI (shG g n it p w 1) 9 f) := by
            intro f o1
            repeat (first | refine G.sx (fun _ => false) rfl rfl rfl ?_ | refine G.gox (fun _ => false) rfl rfl rfl ?_ | refine G.getx (fun _ => false) rfl rfl rfl rfl ?_)
            refine C.cv [.int (nI p), .int (nI w), .long (-1)] [] rfl cw_Mo_139 (d1 := 1) (by omega) (by omega) rfl rfl rfl (c_Mo_shift hSt (hMs f).1 p w (by omega) (by omega) (-1)) (by decide) (fun r h1 hq => ?_)
            obtain ⟨rfl, rfl⟩ := hq
            rw [shG_back]
            repeat (first | refine G.sx (fun _ => false) rfl rfl rfl ?_ | refine G.gox (fun _ => false) rfl rfl rfl ?_ | refine G.getx (fun _ => false) rfl rfl rfl rfl ?_)
            refine G.go rfl ?_
            exact ihw _ _ hN.symm
          have Y0 : ∀ f o1, P p w = false → V 58 [some (.ref 0), o1, some (.int (nI p)), some (.int (nI w))] [] (setI (shG g n it p w 1) 9 f) := by
            intro f o1 e
            have y := Y f o1
            rw [e, if_neg (by decide)] at y
            repeat (first | refine G.sx (fun q => Nat.beq q 59) rfl rfl rfl ?_ | refine G.gox (fun q => Nat.beq q 59) rfl rfl rfl ?_ | refine G.getx (fun q => Nat.beq q 59) rfl rfl rfl rfl ?_)
            exact y
          show V 39 _ [] (setI (shG g n it p w 1) 9 f9)
          repeat (first | refine G.sx (fun _ => false) rfl rfl rfl ?_ | refine G.gox (fun _ => false) rfl rfl rfl ?_ | refine G.getx (fun _ => false) rfl rfl rfl rfl ?_)
          refine C.cv [.int (nI p)] [] rfl cw_Mo_143 (d1 := 2) (by omega) (by omega) rfl rfl rfl (c_Mo_isClear hSt (hMs f9) hon p (by omega)) (by decide) (fun r h1 hq => ?_)
          obtain ⟨rfl, rfl⟩ := hq
          rw [icM_2 (show (setI (shG g n it p w 1) 9 f9).2 = (shG g n it p w 1).2 from rfl)]
          refine G.br rfl rfl (fun c4 => Y0 _ _ (by
            have c4 := i01.mp c4
            rw [hPw]
            simp [c4])) (fun c4 => ?_)
          have c4 : icM (shG g n it p w 1) own it nb p = true := Decidable.not_not.mp (fun q => c4 (i01.mpr q))
          repeat (first | refine G.sx (fun _ => false) rfl rfl rfl ?_ | refine G.gox (fun _ => false) rfl rfl rfl ?_ | refine G.getx (fun _ => false) rfl rfl rfl rfl ?_)
          refine C.cv [] [] rfl cw_Mo_149 (d1 := 6) (by omega) (by omega) rfl rfl rfl (c_Mo_oneMore hSt (hMs f9) hon) (by decide) (fun r h1 hq => ?_)
          obtain ⟨⟨f, rfl⟩, rfl⟩ := hq
          rw [setI_2]
          have e5 : (omM n it nb own ns (setI (shG g n it p w 1) 9 f9)) = omM n it nb own ns (shG g n it p w 1) := omM_2 n it nb own ns _ _ rfl
          rw [e5]
          refine G.br rfl rfl (fun c5 => Y0 _ _ (by
            have c5 := i01.mp c5
            rw [hPw]
            simp [c5])) (fun c5 => ?_)
          have c5 : omM n it nb own ns (shG g n it p w 1) = true := Decidable.not_not.mp (fun q => c5 (i01.mpr q))
          have y := fun o1 => Y f o1
          rw [show P p w = true from by rw [hPw, c4, c5]; rfl, if_pos rfl] at y
          repeat (first | refine G.sx (fun q => Nat.beq q 59) rfl rfl rfl ?_ | refine G.gox (fun q => Nat.beq q 59) rfl rfl rfl ?_ | refine G.getx (fun q => Nat.beq q 59) rfl rfl rfl rfl ?_)
          exact y _
        · intro f9 B hB
          repeat (first | refine G.sx (fun _ => false) rfl rfl rfl ?_ | refine G.gox (fun _ => false) rfl rfl rfl ?_ | refine G.getx (fun _ => false) rfl rfl rfl rfl ?_)
          refine G.br rfl rfl (fun _ => ?_) (fun c1 => absurd (nI_le (a := 6) (Nat.le_refl 6) (by omega)) c1)
          exact Z _ _ _ (by rw [hB, ← hQi]; rfl)
      repeat (first | refine G.sx (fun _ => false) rfl rfl rfl ?_ | refine G.gox (fun _ => false) rfl rfl rfl ?_ | refine G.getx (fun _ => false) rfl rfl rfl rfl ?_)
      refine G.br rfl rfl (fun c1 => absurd c1 (by rw [(hM.st9 (f9 := f9)).1.1]; exact nI_ge hp (by omega))) (fun _ => ?_)
      repeat (first | refine G.sx (fun q => Nat.beq q 14) rfl rfl rfl ?_ | refine G.gox (fun q => Nat.beq q 14) rfl rfl rfl ?_ | refine G.getx (fun q => Nat.beq q 14) rfl rfl rfl rfl ?_)
      exact LI 0 (Nat.zero_le _) _ _ (by simp [anyB])
    · intro f9 o3
      repeat (first | refine G.sx (fun _ => false) rfl rfl rfl ?_ | refine G.gox (fun _ => false) rfl rfl rfl ?_ | refine G.getx (fun _ => false) rfl rfl rfl rfl ?_)
      refine G.br rfl rfl (fun _ => ?_) (fun c1 => absurd (by rw [(hM.st9 (f9 := f9)).1.1]; exact nI_le (Nat.le_refl n) (by omega)) c1)
      repeat (first | refine G.sx (fun _ => false) rfl rfl rfl ?_ | refine G.gox (fun _ => false) rfl rfl rfl ?_ | refine G.getx (fun _ => false) rfl rfl rfl rfl ?_)
      cases e : anyB Q n with
      | true => exact E.ri rfl (Or.inr ⟨rfl, Or.inr rfl⟩) ⟨⟨f9, rfl⟩, by rw [hR, e]⟩
      | false => exact E.ri rfl (Or.inr ⟨rfl, Or.inl rfl⟩) ⟨⟨f9, rfl⟩, by rw [hR, e]⟩
  have L0 := L 0 (Nat.zero_le _) (g.1 9)
  rw [setI_id] at L0
  repeat (first | refine G.sx (fun q => Nat.beq q 4) rfl rfl rfl ?_ | refine G.gox (fun q => Nat.beq q 4) rfl rfl rfl ?_ | refine G.getx (fun q => Nat.beq q 4) rfl rfl rfl rfl ?_)
  exact L0 _
theorem std_2 (g : Hp) (f9 : Nat → Int32) : std (setI (std g) 9 f9) = setI (std g) 9 f9 := by
  have e : (fun j => if j < 36 then (0 : Int64) else (setI (std g) 9 f9).2 8 j) = (std g).2 8 := by
    funext j
    show (if j < 36 then (0 : Int64) else (std g).2 8 j) = (std g).2 8 j
    unfold std
    rw [setL_at]
    by_cases e : j < 36
    · rw [if_pos e, if_pos e]
    · rw [if_neg e]
  show setL (setI (std g) 9 f9) 8 (fun j => if j < 36 then (0 : Int64) else (setI (std g) 9 f9).2 8 j) = _
  rw [e]
  exact setL_id (setI (std g) 9 f9) 8
/-- the answer of two -/
def twM (n : Nat) (it : Nat → Nat) (nb : Nat) (own : Nat → Nat) (ns : Nat) (g : Hp) (k : Int32) : Int32 := if zmM n it nb own ns g then 1 else if 0 < k ∧ omM n it nb own ns g = true then 2 else if 1 < k ∧ tmM n it nb own ns g = true then 3 else 0
set_option maxHeartbeats 1000000 in
theorem c_Mo_two (hSt : StOk St) {g : Hp} {n : Nat} {it : Nat → Nat} {nb : Nat} {own : Nat → Nat} {ns : Nat} (hM : MdI g n it nb own ns) (hon : ∀ a, a < nb → own a < n) (k : Int32) : Ct l y_Mo_two prog_11_method_36_code 3 (some .int) (rmD 8) D cls cA slM St ad [.ref 0, .int k] g (fun r g' => g.1 0 14 = 0 ∧ r = some (.int 0) ∧ g' = upI g 0 0 1 ∨ ¬ g.1 0 14 = 0 ∧ (¬ (0 ≤ k ∧ k ≤ 2) ∧ r = some (.int 0) ∧ g' = upI g 0 0 2 ∨ (0 ≤ k ∧ k ≤ 2) ∧ (n = 0 ∧ r = some (.int 0) ∧ g' = upI g 0 0 0 ∨ n ≠ 0 ∧ ∃ f9, g' = setI (std (upI g 0 0 0)) 9 f9 ∧ r = some (.int (twM n it nb own ns (std g) k))))) := by
  have n12 := hM.1.2.1
  refine Ct.of (tl := T_Mo_two) (by decide) tk_Mo_two cls_ok hSt (Nat.le_of_ble_eq_true rfl) (fun V G E C => ?_)
  repeat (first | refine G.sx (fun _ => false) rfl rfl rfl ?_ | refine G.gox (fun _ => false) rfl rfl rfl ?_ | refine G.getx (fun _ => false) rfl rfl rfl rfl ?_)
  refine C.cv [] [] rfl cw_Mo_136 (d1 := 1) (by omega) (by omega) rfl rfl rfl (c_Mo_notRun hSt g) (by decide) (fun r h1 hq => ?_)
  rcases hq with ⟨r0, rfl, rfl⟩ | ⟨r0, rfl, rfl⟩
  · refine G.br rfl rfl (fun c1 => absurd c1 (by decide)) (fun _ => ?_)
    repeat (first | refine G.sx (fun _ => false) rfl rfl rfl ?_ | refine G.gox (fun _ => false) rfl rfl rfl ?_ | refine G.getx (fun _ => false) rfl rfl rfl rfl ?_)
    exact E.ri rfl (Or.inl rfl) (Or.inl ⟨r0, rfl, rfl⟩)
  refine G.br rfl rfl (fun _ => ?_) (fun c1 => absurd rfl c1)
  have K1 : ¬ (0 ≤ k ∧ k ≤ 2) → V 19 [some (.ref 0), some (.int k), none] [.ref 0] (upI g 0 0 0) := by
    intro hx
    repeat (first | refine G.sx (fun _ => false) rfl rfl rfl ?_ | refine G.gox (fun _ => false) rfl rfl rfl ?_ | refine G.getx (fun _ => false) rfl rfl rfl rfl ?_)
    refine G.put rfl rfl rfl ?_
    rw [upI_2]
    repeat (first | refine G.sx (fun _ => false) rfl rfl rfl ?_ | refine G.gox (fun _ => false) rfl rfl rfl ?_ | refine G.getx (fun _ => false) rfl rfl rfl rfl ?_)
    refine G.br rfl rfl (fun c2 => ?_) (fun c2 => absurd (by rw [up_eq]; decide) c2)
    repeat (first | refine G.sx (fun _ => false) rfl rfl rfl ?_ | refine G.gox (fun _ => false) rfl rfl rfl ?_ | refine G.getx (fun _ => false) rfl rfl rfl rfl ?_)
    exact E.ri rfl (Or.inl rfl) (Or.inr ⟨r0, Or.inl ⟨hx, rfl, rfl⟩⟩)
  repeat (first | refine G.sx (fun _ => false) rfl rfl rfl ?_ | refine G.gox (fun _ => false) rfl rfl rfl ?_ | refine G.getx (fun _ => false) rfl rfl rfl rfl ?_)
  refine G.br rfl rfl (fun c1 => K1 (fun z => absurd z.1 (Int32.not_le.mpr c1))) (fun c1 => ?_)
  repeat (first | refine G.sx (fun _ => false) rfl rfl rfl ?_ | refine G.gox (fun _ => false) rfl rfl rfl ?_ | refine G.getx (fun _ => false) rfl rfl rfl rfl ?_)
  refine G.br rfl rfl (fun c2 => ?_) (fun c2 => K1 (fun z => c2 z.2))
  have hk : 0 ≤ k ∧ k ≤ 2 := ⟨Int32.not_lt.mp c1, c2⟩
  repeat (first | refine G.sx (fun _ => false) rfl rfl rfl ?_ | refine G.gox (fun _ => false) rfl rfl rfl ?_ | refine G.getx (fun _ => false) rfl rfl rfl rfl ?_)
  refine G.put rfl rfl rfl ?_
  rw [upI_2]
  repeat (first | refine G.sx (fun _ => false) rfl rfl rfl ?_ | refine G.gox (fun _ => false) rfl rfl rfl ?_ | refine G.getx (fun _ => false) rfl rfl rfl rfl ?_)
  refine G.br rfl rfl (fun c3 => absurd c3 (by rw [up_eq]; decide)) (fun _ => ?_)
  repeat (first | refine G.sx (fun q => Nat.beq q 38) rfl rfl rfl ?_ | refine G.gox (fun q => Nat.beq q 38) rfl rfl rfl ?_ | refine G.getx (fun q => Nat.beq q 38) rfl rfl rfl rfl ?_)
  show V 38 _ [.int ((upI g 0 0 0).1 0 1)] _
  rw [up_ne _ _ _ _ (by decide), hM.1.1]
  refine G.br rfl rfl (fun c4 => ?_) (fun c4 => ?_)
  · have n0 : n ≠ 0 := fun z => c4 (by rw [z]; rfl)
    have hMs : MdI (std (upI g 0 0 0)) n it nb own ns := (hM.up0 (by decide) (by decide) (by decide)).stL
    have Fin : ∀ v f9 lv, v = twM n it nb own ns (std g) k → (some (Value.int v) = some (.int 0) ∨ True) → ∀ pc, (pc = 55 ∨ pc = 98) → V pc lv [.int v] (setI (std (upI g 0 0 0)) 9 f9) := by
      intro v f9 lv hv _ pc hpc
      rcases hpc with rfl | rfl
      · exact E.ri rfl (Or.inl rfl) (Or.inr ⟨r0, Or.inr ⟨hk, Or.inr ⟨n0, f9, rfl, by rw [hv]⟩⟩⟩)
      · exact E.ri rfl (Or.inl rfl) (Or.inr ⟨r0, Or.inr ⟨hk, Or.inr ⟨n0, f9, rfl, by rw [hv]⟩⟩⟩)
    repeat (first | refine G.sx (fun _ => false) rfl rfl rfl ?_ | refine G.gox (fun _ => false) rfl rfl rfl ?_ | refine G.getx (fun _ => false) rfl rfl rfl rfl ?_)
    refine C.cv [] [] rfl cw_Mo_95 (d1 := 1) (by omega) (by omega) rfl rfl rfl (c_Mo_stand hSt (upI g 0 0 0)) (by decide) (fun r h1 hq => ?_)
    obtain ⟨rfl, rfl⟩ := hq
    show V 47 _ [] (std (upI g 0 0 0))
    repeat (first | refine G.sx (fun _ => false) rfl rfl rfl ?_ | refine G.gox (fun _ => false) rfl rfl rfl ?_ | refine G.getx (fun _ => false) rfl rfl rfl rfl ?_)
    refine C.cv [] [] rfl cw_Mo_146 (d1 := 5) (by omega) (by omega) rfl rfl rfl (c_Mo_anyFree hSt hMs) (by decide) (fun r h1 hq => ?_)
    obtain ⟨⟨f9, rfl⟩, rfl⟩ := hq
    have e1 : afM (woG (std (upI g 0 0 0)) n it nb own ns) (aiM it n) n = zmM n it nb own ns (std g) := zmM_2 n it nb own ns _ _ rfl
    rw [e1]
    refine G.br rfl rfl (fun c5 => ?_) (fun c5 => ?_)
    · have c5 : ¬ zmM n it nb own ns (std g) = true := i01.mp c5
      have hM9 : ∀ f, MdI (setI (std (upI g 0 0 0)) 9 f) n it nb own ns := fun f => hMs.st9
      have J : ∀ v f9 lv, lk lv 0 = some (.ref 0) → lv.length = 3 → v = twM n it nb own ns (std g) k → V 88 lv [.int v] (setI (std (upI g 0 0 0)) 9 f9) := by
        intro v f9 lv hl h3 hv
        obtain ⟨x0, x1, x2, rfl⟩ : ∃ x0 x1 x2, lv = [x0, x1, x2] := by
          match lv, h3 with
          | [a, b, c], _ => exact ⟨a, b, c, rfl⟩
        have hl : x0 = some (.ref 0) := hl
        subst hl
        repeat (first | refine G.sx (fun _ => false) rfl rfl rfl ?_ | refine G.gox (fun _ => false) rfl rfl rfl ?_ | refine G.getx (fun _ => false) rfl rfl rfl rfl ?_)
        refine C.cv [] [] rfl cw_Mo_95 (d1 := 1) (by omega) (by omega) rfl rfl rfl (c_Mo_stand hSt (setI (std (upI g 0 0 0)) 9 f9)) (by decide) (fun r h1 hq => ?_)
        obtain ⟨rfl, rfl⟩ := hq
        show V 93 _ [] (std (setI (std (upI g 0 0 0)) 9 f9))
        rw [std_2]
        repeat (first | refine G.sx (fun _ => false) rfl rfl rfl ?_ | refine G.gox (fun _ => false) rfl rfl rfl ?_ | refine G.getx (fun _ => false) rfl rfl rfl rfl ?_)
        refine C.cv [] [] rfl cw_Mo_109 (d1 := 4) (by omega) (by omega) rfl rfl rfl (c_Mo_reckon hSt (hM9 f9)) (by decide) (fun r h1 hq => ?_)
        obtain ⟨rfl, f, rfl, -⟩ := hq
        rw [setI_2]
        repeat (first | refine G.sx (fun _ => false) rfl rfl rfl ?_ | refine G.gox (fun _ => false) rfl rfl rfl ?_ | refine G.getx (fun _ => false) rfl rfl rfl rfl ?_)
        exact Fin v f _ hv (Or.inr trivial) 98 (Or.inr rfl)
      have T2 : ∀ f, ¬ (0 < k ∧ omM n it nb own ns (std g) = true) → V 71 [some (.ref 0), some (.int k), none] [] (setI (std (upI g 0 0 0)) 9 f) := by
        intro f hx
        repeat (first | refine G.sx (fun _ => false) rfl rfl rfl ?_ | refine G.gox (fun _ => false) rfl rfl rfl ?_ | refine G.getx (fun _ => false) rfl rfl rfl rfl ?_)
        refine G.br rfl rfl (fun c6 => ?_) (fun c6 => ?_)
        · repeat (first | refine G.sx (fun q => Nat.beq q 88) rfl rfl rfl ?_ | refine G.gox (fun q => Nat.beq q 88) rfl rfl rfl ?_ | refine G.getx (fun q => Nat.beq q 88) rfl rfl rfl rfl ?_)
          refine J _ _ _ rfl rfl ?_
          unfold twM
          rw [if_neg c5, if_neg hx, if_neg (fun z => absurd z.1 (Int32.not_lt.mpr c6))]
        · repeat (first | refine G.sx (fun _ => false) rfl rfl rfl ?_ | refine G.gox (fun _ => false) rfl rfl rfl ?_ | refine G.getx (fun _ => false) rfl rfl rfl rfl ?_)
          refine C.cv [] [] rfl cw_Mo_152 (d1 := 7) (by omega) (by omega) rfl rfl rfl (c_Mo_twoMore hSt (hM9 f) hon) (by decide) (fun r h1 hq => ?_)
          obtain ⟨⟨f', rfl⟩, rfl⟩ := hq
          rw [setI_2]
          have e2 : tmM n it nb own ns (setI (std (upI g 0 0 0)) 9 f) = tmM n it nb own ns (std g) := tmM_2 n it nb own ns _ _ rfl
          rw [e2]
          refine G.br rfl rfl (fun c7 => ?_) (fun c7 => ?_)
          · repeat (first | refine G.sx (fun q => Nat.beq q 88) rfl rfl rfl ?_ | refine G.gox (fun q => Nat.beq q 88) rfl rfl rfl ?_ | refine G.getx (fun q => Nat.beq q 88) rfl rfl rfl rfl ?_)
            refine J _ _ _ rfl rfl ?_
            unfold twM
            rw [if_neg c5, if_neg hx, if_neg (fun z => i01.mp c7 z.2)]
          · repeat (first | refine G.sx (fun q => Nat.beq q 88) rfl rfl rfl ?_ | refine G.gox (fun q => Nat.beq q 88) rfl rfl rfl ?_ | refine G.getx (fun q => Nat.beq q 88) rfl rfl rfl rfl ?_)
            refine J _ _ _ rfl rfl ?_
            unfold twM
            rw [if_neg c5, if_neg hx, if_pos ⟨Int32.not_le.mp c6, Decidable.not_not.mp (fun q => c7 (i01.mpr q))⟩]
      repeat (first | refine G.sx (fun _ => false) rfl rfl rfl ?_ | refine G.gox (fun _ => false) rfl rfl rfl ?_ | refine G.getx (fun _ => false) rfl rfl rfl rfl ?_)
      refine G.br rfl rfl (fun c6 => T2 _ (fun z => absurd z.1 (Int32.not_lt.mpr c6))) (fun c6 => ?_)
      repeat (first | refine G.sx (fun _ => false) rfl rfl rfl ?_ | refine G.gox (fun _ => false) rfl rfl rfl ?_ | refine G.getx (fun _ => false) rfl rfl rfl rfl ?_)
      refine C.cv [] [] rfl cw_Mo_149 (d1 := 6) (by omega) (by omega) rfl rfl rfl (c_Mo_oneMore hSt (hM9 f9) hon) (by decide) (fun r h1 hq => ?_)
      obtain ⟨⟨f', rfl⟩, rfl⟩ := hq
      rw [setI_2]
      have e2 : omM n it nb own ns (setI (std (upI g 0 0 0)) 9 f9) = omM n it nb own ns (std g) := omM_2 n it nb own ns _ _ rfl
      rw [e2]
      refine G.br rfl rfl (fun c7 => T2 _ (fun z => i01.mp c7 z.2)) (fun c7 => ?_)
      repeat (first | refine G.sx (fun q => Nat.beq q 88) rfl rfl rfl ?_ | refine G.gox (fun q => Nat.beq q 88) rfl rfl rfl ?_ | refine G.getx (fun q => Nat.beq q 88) rfl rfl rfl rfl ?_)
      refine J _ _ _ rfl rfl ?_
      unfold twM
      rw [if_neg c5, if_pos ⟨Int32.not_le.mp c6, Decidable.not_not.mp (fun q => c7 (i01.mpr q))⟩]
    · have c5 : zmM n it nb own ns (std g) = true := Decidable.not_not.mp (fun q => c5 (i01.mpr q))
      repeat (first | refine G.sx (fun _ => false) rfl rfl rfl ?_ | refine G.gox (fun _ => false) rfl rfl rfl ?_ | refine G.getx (fun _ => false) rfl rfl rfl rfl ?_)
      exact Fin 1 f9 _ (by unfold twM; rw [if_pos c5]) (Or.inr trivial) 55 (Or.inl rfl)
  · have n0 : n = 0 := (nI_eq (b := 0) (by omega) (by omega)).mp c4
    repeat (first | refine G.sx (fun _ => false) rfl rfl rfl ?_ | refine G.gox (fun _ => false) rfl rfl rfl ?_ | refine G.getx (fun _ => false) rfl rfl rfl rfl ?_)
    exact E.ri rfl (Or.inl rfl) (Or.inr ⟨r0, Or.inr ⟨hk, Or.inl ⟨n0, rfl, rfl⟩⟩⟩)
end MoL
