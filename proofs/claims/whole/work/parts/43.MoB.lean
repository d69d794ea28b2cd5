/-! The reference: shift, isClear -/
section MoK
variable {l : Launch} {D : va_G} {cA : Nat → ClassId} {ad : Nat → Nat} {St : (Nat → Prop) → State → Heap → Prop}
/-- the moves after a shift of item i, for the places before m -/
def shF (mv wy : Nat → Int64) (it : Nat → Nat) (i w : Nat) (far : Int64) (m : Nat) : Nat → Int64 := fun j => if j < m ∧ it (j / 3) = i then mv j + far * wy (3 * w + j % 3) else mv j
theorem shF_up {mv wy : Nat → Int64} {it : Nat → Nat} {i w : Nat} {far : Int64} {p k : Nat} (hp : it p = i) (hk : k < 3) : vp_updL (shF mv wy it i w far (3 * p + k)) (3 * p + k) (shF mv wy it i w far (3 * p + k) (3 * p + k) + far * wy (3 * w + k)) = shF mv wy it i w far (3 * p + (k + 1)) := by
  funext j
  unfold vp_updL
  have e1 : (3 * p + k) / 3 = p := by omega
  have e2 : (3 * p + k) % 3 = k := by omega
  by_cases e : j = 3 * p + k
  · subst e
    rw [if_pos rfl]
    unfold shF
    rw [if_neg (fun z => absurd z.1 (by omega)), if_pos ⟨by omega, by rw [e1]; exact hp⟩, e2]
  · rw [if_neg e]
    unfold shF
    by_cases e3 : j < 3 * p + k ∧ it (j / 3) = i
    · rw [if_pos e3, if_pos ⟨by omega, e3.2⟩]
    · rw [if_neg e3, if_neg (fun z => e3 ⟨by omega, z.2⟩)]
theorem shF_skip {mv wy : Nat → Int64} {it : Nat → Nat} {i w : Nat} {far : Int64} {p : Nat} (hp : it p ≠ i) : shF mv wy it i w far (3 * p) = shF mv wy it i w far (3 * (p + 1)) := by
  funext j
  unfold shF
  by_cases e3 : j < 3 * p ∧ it (j / 3) = i
  · rw [if_pos e3, if_pos ⟨by omega, e3.2⟩]
  · rw [if_neg e3, if_neg]
    intro z
    by_cases e4 : j < 3 * p
    · exact e3 ⟨e4, z.2⟩
    · have : j / 3 = p := by omega
      rw [this] at z
      exact hp z.2
theorem shF_0 {mv wy : Nat → Int64} {it : Nat → Nat} {i w : Nat} {far : Int64} : shF mv wy it i w far (3 * 0) = mv := by
  funext j
  unfold shF
  rw [if_neg (fun z => absurd z.1 (by omega))]
/-- the heap after a shift -/
def shG (g : Hp) (n : Nat) (it : Nat → Nat) (i w : Nat) (far : Int64) : Hp := setL g 8 (shF (g.2 8) (g.2 3) it i w far (3 * n))
theorem shG_back (g : Hp) (n : Nat) (it : Nat → Nat) (i w : Nat) (f9 : Nat → Int32) : shG (setI (shG g n it i w 1) 9 f9) n it i w (-1) = setI g 9 f9 := by
  have e : shF ((shG g n it i w 1).2 8) ((shG g n it i w 1).2 3) it i w (-1) (3 * n) = g.2 8 := by
    funext j
    unfold shG
    rw [setL_at, setL_ne g (j := 3) (k := 8) _ (by decide)]
    unfold shF
    by_cases e3 : j < 3 * n ∧ it (j / 3) = i
    · rw [if_pos e3, if_pos e3, Int64.one_mul, Int64.neg_mul, Int64.one_mul, Int64.add_assoc, Int64.add_right_neg, Int64.add_zero]
    · rw [if_neg e3, if_neg e3]
  show setL (setI (shG g n it i w 1) 9 f9) 8 (shF ((shG g n it i w 1).2 8) ((shG g n it i w 1).2 3) it i w (-1) (3 * n)) = _
  rw [e]
  have e2 := setL_id g 8
  unfold setL at e2
  have e3 := congrArg Prod.snd e2
  unfold shG setL setI
  refine Prod.ext rfl ?_
  show va_up (va_up g.2 8 (shF (g.2 8) (g.2 3) it i w 1 (3 * n))) 8 (g.2 8) = g.2
  funext k
  by_cases ek : k = 8
  · subst ek
    rw [va_up_self]
  · rw [va_up_ne _ _ ek, va_up_ne _ _ ek]
theorem c_Mo_shift (hSt : StOk St) {g : Hp} {n : Nat} {it : Nat → Nat} (hI : GrI g n it) (i w : Nat) (hi : i < 12) (hw : w < 10) (far : Int64) : Ct l y_Mo_shift prog_11_method_32_code 7 none (rmD 1) D cls cA slM St ad [.ref 0, .int (nI i), .int (nI w), .long far] g (fun r g' => r = none ∧ g' = shG g n it i w far) := by
  obtain ⟨hn, n12, hg⟩ := hI
  refine Ct.of (tl := T_Mo_shift) (by decide) tk_Mo_shift cls_ok hSt (Nat.le_of_ble_eq_true rfl) (fun V G E C => ?_)
  have L : ∀ p, p ≤ n → ∀ o, V 3 [some (.ref 0), some (.int (nI i)), some (.int (nI w)), some (.long far), none, some (.int (nI p)), o] [] (setL g 8 (shF (g.2 8) (g.2 3) it i w far (3 * p))) := by
    refine loopUp n (fun p hp ih => ?_) ?_
    · intro o
      obtain ⟨g1, g2⟩ := hg p hp
      rw [← nI_1] at ih
      by_cases hpi : it p = i
      · have LI : ∀ k, k ≤ 3 → V 15 [some (.ref 0), some (.int (nI i)), some (.int (nI w)), some (.long far), none, some (.int (nI p)), some (.int (nI k))] [] (setL g 8 (shF (g.2 8) (g.2 3) it i w far (3 * p + k))) := by
          refine loopUp 3 (fun k hk ihk => ?_) ?_
          · rw [← nI_1] at ihk
            repeat (first | refine G.sx (fun _ => false) rfl rfl rfl ?_ | refine G.gox (fun _ => false) rfl rfl rfl ?_ | refine G.getx (fun _ => false) rfl rfl rfl rfl ?_)
            refine G.br rfl rfl (fun c1 => absurd c1 (nI_ge (b := 3) hk (by omega))) (fun _ => ?_)
            repeat (first | refine G.sx (fun _ => false) rfl rfl rfl ?_ | refine G.gox (fun _ => false) rfl rfl rfl ?_ | refine G.getx (fun _ => false) rfl rfl rfl rfl ?_)
            refine G.ialn rfl rfl (by omega) (by decide) ?_
            show V 28 _ [.int (g.1 4 p)] _
            rw [g1, hpi]
            repeat (first | refine G.sx (fun _ => false) rfl rfl rfl ?_ | refine G.gox (fun _ => false) rfl rfl rfl ?_ | refine G.getx (fun _ => false) rfl rfl rfl rfl ?_)
            refine G.br rfl rfl (fun c1 => absurd rfl c1) (fun _ => ?_)
            repeat (first | refine G.sx (fun q => Nat.beq q 54) rfl rfl rfl ?_ | refine G.gox (fun q => Nat.beq q 54) rfl rfl rfl ?_ | refine G.getx (fun q => Nat.beq q 54) rfl rfl rfl rfl ?_)
            show V 54 _ [.int (3 * nI p + nI k), .ref 8, .int (3 * nI p + nI k), .ref 8] _
            rw [ix3, nI_add]
            refine G.laln rfl rfl (by omega) (by decide) ?_
            repeat (first | refine G.sx (fun q => Nat.beq q 66) rfl rfl rfl ?_ | refine G.gox (fun q => Nat.beq q 66) rfl rfl rfl ?_ | refine G.getx (fun q => Nat.beq q 66) rfl rfl rfl rfl ?_)
            show V 66 _ [.int (3 * nI w + nI k), .ref 3, .long far, .long _, .int (nI (3 * p + k)), .ref 8] _
            rw [ix3, nI_add]
            refine G.laln rfl rfl (by omega) (by decide) ?_
            rw [setL_at, setL_ne g (j := 3) (k := 8) _ (by decide)]
            repeat (first | refine G.sx (fun _ => false) rfl rfl rfl ?_ | refine G.gox (fun _ => false) rfl rfl rfl ?_ | refine G.getx (fun _ => false) rfl rfl rfl rfl ?_)
            refine G.lasn rfl rfl (by omega) (by decide) ?_
            rw [upL_setL, shF_up hpi hk]
            repeat (first | refine G.sx (fun _ => false) rfl rfl rfl ?_ | refine G.gox (fun _ => false) rfl rfl rfl ?_ | refine G.getx (fun _ => false) rfl rfl rfl rfl ?_)
            refine G.go rfl ?_
            exact ihk
          · repeat (first | refine G.sx (fun _ => false) rfl rfl rfl ?_ | refine G.gox (fun _ => false) rfl rfl rfl ?_ | refine G.getx (fun _ => false) rfl rfl rfl rfl ?_)
            refine G.br rfl rfl (fun _ => ?_) (fun c1 => absurd (nI_le (a := 3) (Nat.le_refl 3) (by omega)) c1)
            repeat (first | refine G.sx (fun _ => false) rfl rfl rfl ?_ | refine G.gox (fun _ => false) rfl rfl rfl ?_ | refine G.getx (fun _ => false) rfl rfl rfl rfl ?_)
            refine G.go rfl ?_
            exact ih _
        repeat (first | refine G.sx (fun _ => false) rfl rfl rfl ?_ | refine G.gox (fun _ => false) rfl rfl rfl ?_ | refine G.getx (fun _ => false) rfl rfl rfl rfl ?_)
        refine G.br rfl rfl (fun c1 => absurd c1 (by show ¬ (setL g 8 _).1 0 1 ≤ nI p; rw [show (setL g 8 (shF (g.2 8) (g.2 3) it i w far (3 * p))).1 0 1 = nI n from hn]; exact nI_ge hp (by omega))) (fun _ => ?_)
        repeat (first | refine G.sx (fun q => Nat.beq q 15) rfl rfl rfl ?_ | refine G.gox (fun q => Nat.beq q 15) rfl rfl rfl ?_ | refine G.getx (fun q => Nat.beq q 15) rfl rfl rfl rfl ?_)
        exact LI 0 (Nat.zero_le _)
      · rw [← shF_skip hpi] at ih
        repeat (first | refine G.sx (fun _ => false) rfl rfl rfl ?_ | refine G.gox (fun _ => false) rfl rfl rfl ?_ | refine G.getx (fun _ => false) rfl rfl rfl rfl ?_)
        refine G.br rfl rfl (fun c1 => absurd c1 (by show ¬ (setL g 8 _).1 0 1 ≤ nI p; rw [show (setL g 8 (shF (g.2 8) (g.2 3) it i w far (3 * p))).1 0 1 = nI n from hn]; exact nI_ge hp (by omega))) (fun _ => ?_)
        repeat (first | refine G.sx (fun _ => false) rfl rfl rfl ?_ | refine G.gox (fun _ => false) rfl rfl rfl ?_ | refine G.getx (fun _ => false) rfl rfl rfl rfl ?_)
        refine G.br rfl rfl (fun c1 => absurd c1 (by decide)) (fun _ => ?_)
        repeat (first | refine G.sx (fun _ => false) rfl rfl rfl ?_ | refine G.gox (fun _ => false) rfl rfl rfl ?_ | refine G.getx (fun _ => false) rfl rfl rfl rfl ?_)
        refine G.ialn rfl rfl (by omega) (by decide) ?_
        show V 28 _ [.int (g.1 4 p)] _
        rw [g1]
        repeat (first | refine G.sx (fun _ => false) rfl rfl rfl ?_ | refine G.gox (fun _ => false) rfl rfl rfl ?_ | refine G.getx (fun _ => false) rfl rfl rfl rfl ?_)
        refine G.br rfl rfl (fun _ => ?_) (fun c1 => absurd ((nI_eq (by omega) (by omega)).mp c1) hpi)
        repeat (first | refine G.sx (fun _ => false) rfl rfl rfl ?_ | refine G.gox (fun _ => false) rfl rfl rfl ?_ | refine G.getx (fun _ => false) rfl rfl rfl rfl ?_)
        refine G.go rfl ?_
        exact ih _
    · intro o
      repeat (first | refine G.sx (fun _ => false) rfl rfl rfl ?_ | refine G.gox (fun _ => false) rfl rfl rfl ?_ | refine G.getx (fun _ => false) rfl rfl rfl rfl ?_)
      refine G.br rfl rfl (fun _ => ?_) (fun c1 => absurd (by show (setL g 8 _).1 0 1 ≤ nI n; rw [show (setL g 8 (shF (g.2 8) (g.2 3) it i w far (3 * n))).1 0 1 = nI n from hn]; exact nI_le (Nat.le_refl n) (by omega)) c1)
      exact E.rv rfl rfl ⟨rfl, rfl⟩
  have L0 := L 0 (Nat.zero_le _)
  rw [shF_0, setL_id] at L0
  repeat (first | refine G.sx (fun q => Nat.beq q 3) rfl rfl rfl ?_ | refine G.gox (fun q => Nat.beq q 3) rfl rfl rfl ?_ | refine G.getx (fun q => Nat.beq q 3) rfl rfl rfl rfl ?_)
  exact L0 _
/-- two boxes overlap in an axis, by their edges -/
def ovM (g : Hp) (own : Nat → Nat) (a b k : Nat) : Bool := decide (edG g own a k < edG g own b (k + 3)) && decide (edG g own b k < edG g own a (k + 3))
def icF (g : Hp) (own it : Nat → Nat) (i a b : Nat) : Bool := decide (it (own a) = i ∧ it (own b) ≠ i) && !anyB (fun k => !ovM g own a b k) 3
def icM (g : Hp) (own it : Nat → Nat) (nb i : Nat) : Bool := !anyB (fun a => anyB (icF g own it i a) nb) nb
set_option maxHeartbeats 1000000 in
theorem c_Mo_isClear (hSt : StOk St) {g : Hp} {n : Nat} {it : Nat → Nat} {nb : Nat} {own : Nat → Nat} {ns : Nat} (hM : MdI g n it nb own ns) (hon : ∀ a, a < nb → own a < n) (i : Nat) (hi : i < 12) : Ct l y_Mo_isClear prog_11_method_33_code 7 (some .boolean) (rmD 2) D cls cA slM St ad [.ref 0, .int (nI i)] g (fun r g' => r = some (.int (if icM g own it nb i then 1 else 0)) ∧ g' = g) := by
  obtain ⟨⟨hn, n12, hg⟩, hO, -, -⟩ := hM
  obtain ⟨hb0, h40, ho⟩ := id hO
  refine Ct.of (tl := T_Mo_isClear) (by decide) tk_Mo_isClear cls_ok hSt (Nat.le_of_ble_eq_true rfl) (fun V G E C => ?_)
  generalize hQ : (fun a => anyB (icF g own it i a) nb) = Q
  have L : ∀ a, a ≤ nb → ∀ o4 o5 o6, V 4 [some (.ref 0), some (.int (nI i)), some (.int (if anyB Q a then 0 else 1)), some (.int (nI a)), o4, o5, o6] [] g := by
    refine loopUp nb (fun a ha ih => ?_) ?_
    · intro o4 o5 o6
      rw [← nI_1] at ih
      obtain ⟨oa1, oa2⟩ := ho a ha
      obtain ⟨ga1, ga2⟩ := hg (own a) (hon a ha)
      have hQa : Q a = anyB (icF g own it i a) nb := by rw [← hQ]
      have LI : ∀ b, b ≤ nb → ∀ o5 o6, V 15 [some (.ref 0), some (.int (nI i)), some (.int (if anyB Q a || anyB (icF g own it i a) b then 0 else 1)), some (.int (nI a)), some (.int (nI b)), o5, o6] [] g := by
        refine loopUp nb (fun b hb ihb => ?_) ?_
        · intro o5 o6
          rw [← nI_1] at ihb
          obtain ⟨ob1, ob2⟩ := ho b hb
          obtain ⟨gb1, gb2⟩ := hg (own b) (hon b hb)
          have Z0 : ∀ o5 o6, icF g own it i a b = false → V 142 [some (.ref 0), some (.int (nI i)), some (.int (if anyB Q a || anyB (icF g own it i a) b then 0 else 1)), some (.int (nI a)), some (.int (nI b)), o5, o6] [] g := by
            intro o5 o6 e
            rw [show anyB (icF g own it i a) (b + 1) = anyB (icF g own it i a) b by simp [anyB, e]] at ihb
            repeat (first | refine G.sx (fun _ => false) rfl rfl rfl ?_ | refine G.gox (fun _ => false) rfl rfl rfl ?_ | refine G.getx (fun _ => false) rfl rfl rfl rfl ?_)
            refine G.go rfl ?_
            exact ihb _ _
          repeat (first | refine G.sx (fun _ => false) rfl rfl rfl ?_ | refine G.gox (fun _ => false) rfl rfl rfl ?_ | refine G.getx (fun _ => false) rfl rfl rfl rfl ?_)
          refine G.br rfl rfl (fun c1 => absurd c1 (by rw [hb0]; exact nI_ge hb (by omega))) (fun _ => ?_)
          repeat (first | refine G.sx (fun _ => false) rfl rfl rfl ?_ | refine G.gox (fun _ => false) rfl rfl rfl ?_ | refine G.getx (fun _ => false) rfl rfl rfl rfl ?_)
          refine G.ialn rfl rfl (by omega) (by decide) ?_
          rw [oa1]
          refine G.ialn rfl rfl oa2 (by decide) ?_
          rw [ga1]
          repeat (first | refine G.sx (fun _ => false) rfl rfl rfl ?_ | refine G.gox (fun _ => false) rfl rfl rfl ?_ | refine G.getx (fun _ => false) rfl rfl rfl rfl ?_)
          refine G.br rfl rfl (fun c1 => Z0 _ _ (by unfold icF; rw [decide_eq_false (fun z => c1 (by rw [z.1]))]; rfl)) (fun c1 => ?_)
          have c1 : it (own a) = i := (nI_eq (by omega) (by omega)).mp c1
          repeat (first | refine G.sx (fun _ => false) rfl rfl rfl ?_ | refine G.gox (fun _ => false) rfl rfl rfl ?_ | refine G.getx (fun _ => false) rfl rfl rfl rfl ?_)
          refine G.ialn rfl rfl (by omega) (by decide) ?_
          rw [ob1]
          refine G.ialn rfl rfl ob2 (by decide) ?_
          rw [gb1]
          repeat (first | refine G.sx (fun _ => false) rfl rfl rfl ?_ | refine G.gox (fun _ => false) rfl rfl rfl ?_ | refine G.getx (fun _ => false) rfl rfl rfl rfl ?_)
          refine G.br rfl rfl (fun c2 => Z0 _ _ (by unfold icF; rw [decide_eq_false (fun z => z.2 ((nI_eq (by omega) (by omega)).mp c2))]; rfl)) (fun c2 => ?_)
          have c2 : it (own b) ≠ i := fun z => c2 (by rw [z])
          have hF : icF g own it i a b = !anyB (fun k => !ovM g own a b k) 3 := by
            unfold icF
            rw [decide_eq_true ⟨c1, c2⟩, Bool.true_and]
          generalize hX : (fun k => !ovM g own a b k) = X at hF
          generalize hB0 : (anyB Q a || anyB (icF g own it i a) b) = B0 at ihb ⊢
          have LK : ∀ k, k ≤ 3 → V 61 [some (.ref 0), some (.int (nI i)), some (.int (if B0 then 0 else 1)), some (.int (nI a)), some (.int (nI b)), some (.int (if anyB X k then 0 else 1)), some (.int (nI k))] [] g := by
            refine loopUp 3 (fun k hk ihk => ?_) ?_
            · rw [← nI_1] at ihk
              have hXk : X k = !ovM g own a b k := by rw [← hX]
              have Y0 : ∀ o, anyB X (k + 1) = true → V 118 [some (.ref 0), some (.int (nI i)), some (.int (if B0 then 0 else 1)), some (.int (nI a)), some (.int (nI b)), o, some (.int (nI k))] [] g := by
                intro o e
                rw [e, if_pos rfl] at ihk
                repeat (first | refine G.sx (fun _ => false) rfl rfl rfl ?_ | refine G.gox (fun _ => false) rfl rfl rfl ?_ | refine G.getx (fun _ => false) rfl rfl rfl rfl ?_)
                refine G.go rfl ?_
                exact ihk
              repeat (first | refine G.sx (fun _ => false) rfl rfl rfl ?_ | refine G.gox (fun _ => false) rfl rfl rfl ?_ | refine G.getx (fun _ => false) rfl rfl rfl rfl ?_)
              refine G.br rfl rfl (fun c3 => absurd c3 (nI_ge (b := 3) hk (by omega))) (fun _ => ?_)
              repeat (first | refine G.sx (fun _ => false) rfl rfl rfl ?_ | refine G.gox (fun _ => false) rfl rfl rfl ?_ | refine G.getx (fun _ => false) rfl rfl rfl rfl ?_)
              refine G.br rfl rfl (fun c3 => ?_) (fun c3 => ?_)
              · have c3 : anyB X k = true := by
                  cases e : anyB X k with
                  | true => rfl
                  | false => rw [e] at c3; exact absurd c3 (by decide)
                exact Y0 _ (by simp [anyB, c3])
              have c3 : anyB X k = false := by
                cases e : anyB X k with
                | false => rfl
                | true => rw [e] at c3; exact absurd rfl c3
              repeat (first | refine G.sx (fun _ => false) rfl rfl rfl ?_ | refine G.gox (fun _ => false) rfl rfl rfl ?_ | refine G.getx (fun _ => false) rfl rfl rfl rfl ?_)
              refine C.cv [.int (nI a), .int (nI k)] [] rfl cw_Mo_83 (d1 := 1) (by omega) (by omega) rfl rfl rfl (c_Mo_edge hSt hO a k ha (by omega)) (by decide) (fun r h1 hq => ?_)
              obtain ⟨rfl, rfl⟩ := hq
              repeat (first | refine G.sx (fun q => Nat.beq q 86) rfl rfl rfl ?_ | refine G.gox (fun q => Nat.beq q 86) rfl rfl rfl ?_ | refine G.getx (fun q => Nat.beq q 86) rfl rfl rfl rfl ?_)
              show V 86 _ [.int (nI k + nI 3), .int (nI b), .ref 0, .long (edG h1 own a k)] _
              rw [nI_add]
              refine C.cv [.int (nI b), .int (nI (k + 3))] [.long (edG h1 own a k)] rfl cw_Mo_83 (d1 := 1) (by omega) (by omega) rfl rfl rfl (c_Mo_edge hSt hO b (k + 3) hb (by omega)) (Nat.le_of_ble_eq_true rfl) (fun r h2 hq => ?_)
              obtain ⟨rfl, rfl⟩ := hq
              repeat (first | refine G.sx (fun _ => false) rfl rfl rfl ?_ | refine G.gox (fun _ => false) rfl rfl rfl ?_ | refine G.getx (fun _ => false) rfl rfl rfl rfl ?_)
              refine G.br rfl rfl (fun c4 => Y0 _ (by
                have c4 := cmp_ge.mp c4
                simp [anyB, hXk, ovM, Int64.not_lt.mpr c4])) (fun c4 => ?_)
              have c4 := Int64.not_le.mp (fun q => c4 (cmp_ge.mpr q))
              repeat (first | refine G.sx (fun _ => false) rfl rfl rfl ?_ | refine G.gox (fun _ => false) rfl rfl rfl ?_ | refine G.getx (fun _ => false) rfl rfl rfl rfl ?_)
              refine C.cv [.int (nI b), .int (nI k)] [] rfl cw_Mo_83 (d1 := 1) (by omega) (by omega) rfl rfl rfl (c_Mo_edge hSt hO b k hb (by omega)) (by decide) (fun r h3 hq => ?_)
              obtain ⟨rfl, rfl⟩ := hq
              repeat (first | refine G.sx (fun q => Nat.beq q 107) rfl rfl rfl ?_ | refine G.gox (fun q => Nat.beq q 107) rfl rfl rfl ?_ | refine G.getx (fun q => Nat.beq q 107) rfl rfl rfl rfl ?_)
              show V 107 _ [.int (nI k + nI 3), .int (nI a), .ref 0, .long (edG h3 own b k)] _
              rw [nI_add]
              refine C.cv [.int (nI a), .int (nI (k + 3))] [.long (edG h3 own b k)] rfl cw_Mo_83 (d1 := 1) (by omega) (by omega) rfl rfl rfl (c_Mo_edge hSt hO a (k + 3) ha (by omega)) (Nat.le_of_ble_eq_true rfl) (fun r h4 hq => ?_)
              obtain ⟨rfl, rfl⟩ := hq
              repeat (first | refine G.sx (fun _ => false) rfl rfl rfl ?_ | refine G.gox (fun _ => false) rfl rfl rfl ?_ | refine G.getx (fun _ => false) rfl rfl rfl rfl ?_)
              refine G.br rfl rfl (fun c5 => Y0 _ (by
                have c5 := cmp_ge.mp c5
                simp [anyB, hXk, ovM, Int64.not_lt.mpr c5])) (fun c5 => ?_)
              have c5 := Int64.not_le.mp (fun q => c5 (cmp_ge.mpr q))
              rw [show anyB X (k + 1) = false by simp [anyB, c3, hXk, ovM, c4, c5], if_neg (show ¬ (false = true) by decide)] at ihk
              repeat (first | refine G.sx (fun _ => false) rfl rfl rfl ?_ | refine G.gox (fun _ => false) rfl rfl rfl ?_ | refine G.getx (fun _ => false) rfl rfl rfl rfl ?_)
              refine G.go rfl ?_
              exact ihk
            · repeat (first | refine G.sx (fun _ => false) rfl rfl rfl ?_ | refine G.gox (fun _ => false) rfl rfl rfl ?_ | refine G.getx (fun _ => false) rfl rfl rfl rfl ?_)
              refine G.br rfl rfl (fun _ => ?_) (fun c3 => absurd (nI_le (a := 3) (Nat.le_refl 3) (by omega)) c3)
              have eN : (anyB Q a || anyB (icF g own it i a) (b + 1)) = (B0 || !anyB X 3) := by
                rw [← hB0, ← hF]
                simp [anyB, Bool.or_assoc]
              rw [eN] at ihb
              repeat (first | refine G.sx (fun _ => false) rfl rfl rfl ?_ | refine G.gox (fun _ => false) rfl rfl rfl ?_ | refine G.getx (fun _ => false) rfl rfl rfl rfl ?_)
              refine G.br rfl rfl (fun c3 => ?_) (fun c3 => ?_)
              · have c3 : B0 = true := by
                  cases e : B0 with
                  | true => rfl
                  | false => rw [e] at c3; exact absurd c3 (by decide)
                rw [c3, Bool.true_or, if_pos rfl] at ihb
                repeat (first | refine G.sx (fun _ => false) rfl rfl rfl ?_ | refine G.gox (fun _ => false) rfl rfl rfl ?_ | refine G.getx (fun _ => false) rfl rfl rfl rfl ?_)
                refine G.go rfl ?_
                exact ihb _ _
              · have c3 : B0 = false := by
                  cases e : B0 with
                  | false => rfl
                  | true => rw [e] at c3; exact absurd rfl c3
                repeat (first | refine G.sx (fun _ => false) rfl rfl rfl ?_ | refine G.gox (fun _ => false) rfl rfl rfl ?_ | refine G.getx (fun _ => false) rfl rfl rfl rfl ?_)
                refine G.br rfl rfl (fun c4 => ?_) (fun c4 => ?_)
                · have c4 : anyB X 3 = false := by
                    cases e : anyB X 3 with
                    | false => rfl
                    | true => rw [e] at c4; exact absurd rfl c4
                  rw [c3, c4, if_pos (by decide)] at ihb
                  repeat (first | refine G.sx (fun _ => false) rfl rfl rfl ?_ | refine G.gox (fun _ => false) rfl rfl rfl ?_ | refine G.getx (fun _ => false) rfl rfl rfl rfl ?_)
                  refine G.go rfl ?_
                  exact ihb _ _
                · have c4 : anyB X 3 = true := by
                    cases e : anyB X 3 with
                    | true => rfl
                    | false => rw [e] at c4; exact absurd c4 (by decide)
                  rw [c3, c4, if_neg (by decide)] at ihb
                  repeat (first | refine G.sx (fun _ => false) rfl rfl rfl ?_ | refine G.gox (fun _ => false) rfl rfl rfl ?_ | refine G.getx (fun _ => false) rfl rfl rfl rfl ?_)
                  refine G.go rfl ?_
                  exact ihb _ _
          repeat (first | refine G.sx (fun q => Nat.beq q 61) rfl rfl rfl ?_ | refine G.gox (fun q => Nat.beq q 61) rfl rfl rfl ?_ | refine G.getx (fun q => Nat.beq q 61) rfl rfl rfl rfl ?_)
          exact LK 0 (Nat.zero_le _)
        · intro o5 o6
          repeat (first | refine G.sx (fun _ => false) rfl rfl rfl ?_ | refine G.gox (fun _ => false) rfl rfl rfl ?_ | refine G.getx (fun _ => false) rfl rfl rfl rfl ?_)
          refine G.br rfl rfl (fun _ => ?_) (fun c1 => absurd (by rw [hb0]; exact nI_le (Nat.le_refl nb) (by omega)) c1)
          rw [show anyB Q (a + 1) = (anyB Q a || anyB (icF g own it i a) nb) by rw [← hQa]; rfl] at ih
          repeat (first | refine G.sx (fun _ => false) rfl rfl rfl ?_ | refine G.gox (fun _ => false) rfl rfl rfl ?_ | refine G.getx (fun _ => false) rfl rfl rfl rfl ?_)
          refine G.go rfl ?_
          exact ih _ _ _
      repeat (first | refine G.sx (fun _ => false) rfl rfl rfl ?_ | refine G.gox (fun _ => false) rfl rfl rfl ?_ | refine G.getx (fun _ => false) rfl rfl rfl rfl ?_)
      refine G.br rfl rfl (fun c1 => absurd c1 (by rw [hb0]; exact nI_ge ha (by omega))) (fun _ => ?_)
      have L0 := LI 0 (Nat.zero_le _)
      rw [show (anyB Q a || anyB (icF g own it i a) 0) = anyB Q a by simp [anyB]] at L0
      repeat (first | refine G.sx (fun q => Nat.beq q 15) rfl rfl rfl ?_ | refine G.gox (fun q => Nat.beq q 15) rfl rfl rfl ?_ | refine G.getx (fun q => Nat.beq q 15) rfl rfl rfl rfl ?_)
      exact L0 _ _
    · intro o4 o5 o6
      repeat (first | refine G.sx (fun _ => false) rfl rfl rfl ?_ | refine G.gox (fun _ => false) rfl rfl rfl ?_ | refine G.getx (fun _ => false) rfl rfl rfl rfl ?_)
      refine G.br rfl rfl (fun _ => ?_) (fun c1 => absurd (by rw [hb0]; exact nI_le (Nat.le_refl nb) (by omega)) c1)
      have e0 : icM g own it nb i = !anyB Q nb := by unfold icM; rw [hQ]
      repeat (first | refine G.sx (fun _ => false) rfl rfl rfl ?_ | refine G.gox (fun _ => false) rfl rfl rfl ?_ | refine G.getx (fun _ => false) rfl rfl rfl rfl ?_)
      cases e : anyB Q nb with
      | true => exact E.ri rfl (Or.inr ⟨rfl, Or.inl rfl⟩) ⟨by rw [e0, e]; rfl, rfl⟩
      | false => exact E.ri rfl (Or.inr ⟨rfl, Or.inr rfl⟩) ⟨by rw [e0, e]; rfl, rfl⟩
  repeat (first | refine G.sx (fun q => Nat.beq q 4) rfl rfl rfl ?_ | refine G.gox (fun q => Nat.beq q 4) rfl rfl rfl ?_ | refine G.getx (fun q => Nat.beq q 4) rfl rfl rfl rfl ?_)
  exact L 0 (Nat.zero_le _) _ _ _
end MoK
