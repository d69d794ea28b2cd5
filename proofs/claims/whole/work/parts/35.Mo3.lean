/-! The reference: edge, sweeps -/
section MoC
variable {l : Launch} {D : va_G} {cA : Nat → ClassId} {ad : Nat → Nat} {St : (Nat → Prop) → State → Heap → Prop}
/-- the reference's boxes: their number and owners -/
def OwI (g : Hp) (nb : Nat) (own : Nat → Nat) : Prop := g.1 0 2 = nI nb ∧ nb ≤ 40 ∧ ∀ i, i < nb → g.1 1 i = nI (own i) ∧ own i < 12
theorem rem3 {k : Nat} (hk : k < 6) : nI k - nI k / 3 * 3 = nI (k % 3) := by
  rcases (show k = 0 ∨ k = 1 ∨ k = 2 ∨ k = 3 ∨ k = 4 ∨ k = 5 by omega) with rfl | rfl | rfl | rfl | rfl | rfl <;> decide
def edG (g : Hp) (own : Nat → Nat) (b k : Nat) : Int64 := g.2 2 (6 * b + k) + g.2 8 (3 * own b + k % 3)
theorem c_Mo_edge (hSt : StOk St) {g : Hp} {nb : Nat} {own : Nat → Nat} (hO : OwI g nb own) (b k : Nat) (hb : b < nb) (hk : k < 6) : Ct l y_Mo_edge prog_11_method_10_code 3 (some .long) (rmD 1) D cls cA slM St ad [.ref 0, .int (nI b), .int (nI k)] g (fun r g' => r = some (.long (edG g own b k)) ∧ g' = g) := by
  obtain ⟨hn, h40, ho⟩ := hO
  obtain ⟨o1, o2⟩ := ho b hb
  refine Ct.of (tl := T_Mo_edge) (by decide) tk_Mo_edge cls_ok hSt (Nat.le_of_ble_eq_true rfl) (fun V G E C => ?_)
  repeat (first | refine G.sx (fun q => Nat.beq q 10) rfl rfl rfl ?_ | refine G.gox (fun q => Nat.beq q 10) rfl rfl rfl ?_ | refine G.getx (fun q => Nat.beq q 10) rfl rfl rfl rfl ?_)
  show V 10 _ [.int (6 * nI b + nI k), .ref 2] _
  rw [ix6, nI_add]
  refine G.laln rfl rfl (by omega) (by decide) ?_
  repeat (first | refine G.sx (fun _ => false) rfl rfl rfl ?_ | refine G.gox (fun _ => false) rfl rfl rfl ?_ | refine G.getx (fun _ => false) rfl rfl rfl rfl ?_)
  refine G.ialn rfl rfl (by omega) (by decide) ?_
  rw [o1]
  repeat (first | refine G.sx (fun _ => false) rfl rfl rfl ?_ | refine G.gox (fun _ => false) rfl rfl rfl ?_ | refine G.getx (fun _ => false) rfl rfl rfl rfl ?_)
  refine G.irem rfl (by decide) ?_
  rw [rem3 hk]
  repeat (first | refine G.sx (fun q => Nat.beq q 27) rfl rfl rfl ?_ | refine G.gox (fun q => Nat.beq q 27) rfl rfl rfl ?_ | refine G.getx (fun q => Nat.beq q 27) rfl rfl rfl rfl ?_)
  show V 27 _ [.int (3 * nI (own b) + nI (k % 3)), .ref 8, _] _
  rw [ix3, nI_add]
  refine G.laln rfl rfl (by omega) (by decide) ?_
  repeat (first | refine G.sx (fun _ => false) rfl rfl rfl ?_ | refine G.gox (fun _ => false) rfl rfl rfl ?_ | refine G.getx (fun _ => false) rfl rfl rfl rfl ?_)
  exact E.rl rfl rfl ⟨rfl, rfl⟩
def swM (g : Hp) (own : Nat → Nat) (a b w : Nat) : Bool := swB (fun x => g.2 3 (3 * w + x)) (fun x => edG g own b x - edG g own a (x + 3)) (fun x => edG g own b (x + 3) - edG g own a x)
set_option maxHeartbeats 2000000 in
theorem c_Mo_sweeps (hSt : StOk St) {g : Hp} {nb : Nat} {own : Nat → Nat} (hO : OwI g nb own) (a b w : Nat) (ha : a < nb) (hb : b < nb) (hw : w < 10) : Ct l y_Mo_sweeps prog_11_method_11_code 25 (some .boolean) (rmD 2) D cls cA slM St ad [.ref 0, .int (nI a), .int (nI b), .int (nI w)] g (fun r g' => r = some (.int (if swM g own a b w then 1 else 0)) ∧ g' = g) := by
  refine Ct.of (tl := T_Mo_sweeps) (by decide) tk_Mo_sweeps cls_ok hSt (Nat.le_of_ble_eq_true rfl) (fun V G E C => ?_)
  generalize hF : swF (fun x => g.2 3 (3 * w + x)) (fun x => edG g own b x - edG g own a (x + 3)) (fun x => edG g own b (x + 3) - edG g own a x) = F
  have Lp : ∀ x, x ≤ 3 → ∀ lt lb ht hb' : Int64, F x = some (lt, lb, ht, hb') → V 15 [some (.ref 0), some (.int (nI a)), some (.int (nI b)), some (.int (nI w)), some (.long lt), none, some (.long lb), none, some (.long ht), none, some (.long hb'), none, some (.int (nI x)), none, none, none, none, none, none, none, none, none, none, none, none] [] g := by
    refine loopUp 3 (fun x hx ih => ?_) ?_
    · intro lt lb ht hb' hS
      have hF1 : F (x + 1) = swS (lt, lb, ht, hb') (g.2 3 (3 * w + x)) (edG g own b x - edG g own a (x + 3)) (edG g own b (x + 3) - edG g own a x) := by
        rw [← hF] at hS ⊢
        show (match swF _ _ _ x with | none => none | some S => swS S _ _ _) = _
        rw [hS]
      have hno : swS (lt, lb, ht, hb') (g.2 3 (3 * w + x)) (edG g own b x - edG g own a (x + 3)) (edG g own b (x + 3) - edG g own a x) = none → swM g own a b w = false := by
        intro e
        rw [e, ← hF] at hF1
        have e3 := swF_none hF1 (show x + 1 ≤ 3 by omega)
        unfold swM swB
        rw [e3]
      have hx2 : ∀ (lt2 lb2 ht2 hb2 : Int64) (o1 o2 o3 o4 o5 o6 o7 o8 o9 o10 o11 o12 : Option Value), swS (lt, lb, ht, hb') (g.2 3 (3 * w + x)) (edG g own b x - edG g own a (x + 3)) (edG g own b (x + 3) - edG g own a x) = some (lt2, lb2, ht2, hb2) → V 197 [some (.ref 0), some (.int (nI a)), some (.int (nI b)), some (.int (nI w)), some (.long lt2), none, some (.long lb2), none, some (.long ht2), none, some (.long hb2), none, some (.int (nI x)), o1, o2, o3, o4, o5, o6, o7, o8, o9, o10, o11, o12] [] g := by
        intro lt2 lb2 ht2 hb2 o1 o2 o3 o4 o5 o6 o7 o8 o9 o10 o11 o12 e
        rw [e] at hF1
        have i1 := ih lt2 lb2 ht2 hb2 hF1
        rw [← nI_1] at i1
        repeat (first | refine G.sx (fun _ => false) rfl rfl rfl ?_ | refine G.gox (fun _ => false) rfl rfl rfl ?_ | refine G.getx (fun _ => false) rfl rfl rfl rfl ?_)
        refine G.go rfl ?_
        refine G.le _ ?_ i1
        repeat (first | exact leL_0 | refine leL_c rfl ?_ | refine leL_n ?_)
      repeat (first | refine G.sx (fun _ => false) rfl rfl rfl ?_ | refine G.gox (fun _ => false) rfl rfl rfl ?_ | refine G.getx (fun _ => false) rfl rfl rfl rfl ?_)
      refine G.br rfl rfl (fun c1 => absurd c1 (nI_ge (b := 3) hx (by omega))) (fun c1 => ?_)
      repeat (first | refine G.sx (fun q => Nat.beq q 31) rfl rfl rfl ?_ | refine G.gox (fun q => Nat.beq q 31) rfl rfl rfl ?_ | refine G.getx (fun q => Nat.beq q 31) rfl rfl rfl rfl ?_)
      show V 31 _ [.int (3 * nI w + nI x), .ref 3] _
      rw [ix3, nI_add]
      refine G.laln rfl rfl (by omega) (by decide) ?_
      repeat (first | refine G.sx (fun _ => false) rfl rfl rfl ?_ | refine G.gox (fun _ => false) rfl rfl rfl ?_ | refine G.getx (fun _ => false) rfl rfl rfl rfl ?_)
      refine C.cv [.int (nI b), .int (nI x)] [] rfl cw_Mo_83 (d1 := 1) (by omega) (by omega) rfl rfl rfl (c_Mo_edge hSt hO b x hb (by omega)) (by decide) (fun r h1 hq => ?_)
      obtain ⟨rfl, rfl⟩ := hq
      repeat (first | refine G.sx (fun q => Nat.beq q 47) rfl rfl rfl ?_ | refine G.gox (fun q => Nat.beq q 47) rfl rfl rfl ?_ | refine G.getx (fun q => Nat.beq q 47) rfl rfl rfl rfl ?_)
      show V 47 _ [.int (nI x + nI 3), .int (nI a), .ref 0, .long (edG h1 own b x)] _
      rw [nI_add]
      refine C.cv [.int (nI a), .int (nI (x + 3))] [.long (edG h1 own b x)] rfl cw_Mo_83 (d1 := 1) (by omega) (by omega) rfl rfl rfl (c_Mo_edge hSt hO a (x + 3) ha (by omega)) (Nat.le_of_ble_eq_true rfl) (fun r h2 hq => ?_)
      obtain ⟨rfl, rfl⟩ := hq
      repeat (first | refine G.sx (fun q => Nat.beq q 51) rfl rfl rfl ?_ | refine G.gox (fun q => Nat.beq q 51) rfl rfl rfl ?_ | refine G.getx (fun q => Nat.beq q 51) rfl rfl rfl rfl ?_)
      show V 51 _ [.long (edG h2 own b x - edG h2 own a (x + 3))] _
      repeat (first | refine G.sx (fun q => Nat.beq q 59) rfl rfl rfl ?_ | refine G.gox (fun q => Nat.beq q 59) rfl rfl rfl ?_ | refine G.getx (fun q => Nat.beq q 59) rfl rfl rfl rfl ?_)
      show V 59 _ [.int (nI x + nI 3), .int (nI b), .ref 0] _
      rw [nI_add]
      refine C.cv [.int (nI b), .int (nI (x + 3))] [] rfl cw_Mo_83 (d1 := 1) (by omega) (by omega) rfl rfl rfl (c_Mo_edge hSt hO b (x + 3) hb (by omega)) (by decide) (fun r h3 hq => ?_)
      obtain ⟨rfl, rfl⟩ := hq
      repeat (first | refine G.sx (fun _ => false) rfl rfl rfl ?_ | refine G.gox (fun _ => false) rfl rfl rfl ?_ | refine G.getx (fun _ => false) rfl rfl rfl rfl ?_)
      refine C.cv [.int (nI a), .int (nI x)] [.long (edG h3 own b (x + 3))] rfl cw_Mo_83 (d1 := 1) (by omega) (by omega) rfl rfl rfl (c_Mo_edge hSt hO a x ha (by omega)) (Nat.le_of_ble_eq_true rfl) (fun r h4 hq => ?_)
      obtain ⟨rfl, rfl⟩ := hq
      repeat (first | refine G.sx (fun q => Nat.beq q 70) rfl rfl rfl ?_ | refine G.gox (fun q => Nat.beq q 70) rfl rfl rfl ?_ | refine G.getx (fun q => Nat.beq q 70) rfl rfl rfl rfl ?_)
      show V 70 _ [.long (edG h4 own b (x + 3) - edG h4 own a x)] _
      generalize hv : h4.2 3 (3 * w + x) = v at *
      generalize hnr : edG h4 own b x - edG h4 own a (x + 3) = nr at *
      generalize hfr : edG h4 own b (x + 3) - edG h4 own a x = fr at *
      repeat (first | refine G.sx (fun _ => false) rfl rfl rfl ?_ | refine G.gox (fun _ => false) rfl rfl rfl ?_ | refine G.getx (fun _ => false) rfl rfl rfl rfl ?_)
      refine G.br rfl rfl (fun c2 => ?_) (fun c2 => ?_)
      · have v0 : ¬ v = 0 := fun q => c2 (cmp_eq.mpr q)
        repeat (first | refine G.sx (fun _ => false) rfl rfl rfl ?_ | refine G.gox (fun _ => false) rfl rfl rfl ?_ | refine G.getx (fun _ => false) rfl rfl rfl rfl ?_)
        refine G.br rfl rfl (fun c3 => absurd (cmp_eq.mp c3) v0) (fun c3 => ?_)
        have FIN : ∀ bo en le : Int64, swS (lt, lb, ht, hb') v nr fr = some (if lt * bo < en * lb then en else lt, if lt * bo < en * lb then bo else lb, if le * hb' < ht * bo then le else ht, if le * hb' < ht * bo then bo else hb') → V 153 [some (.ref 0), some (.int (nI a)), some (.int (nI b)), some (.int (nI w)), some (.long lt), none, some (.long lb), none, some (.long ht), none, some (.long hb'), none, some (.int (nI x)), some (.long v), none, some (.long nr), none, some (.long fr), none, some (.long bo), none, some (.long en), none, some (.long le), none] [] h4 := by
          intro bo en le hs
          repeat (first | refine G.sx (fun _ => false) rfl rfl rfl ?_ | refine G.gox (fun _ => false) rfl rfl rfl ?_ | refine G.getx (fun _ => false) rfl rfl rfl rfl ?_)
          refine G.br rfl rfl (fun c4 => ?_) (fun c4 => ?_)
          · have c4 : ¬ lt * bo < en * lb := Int64.not_lt.mpr (cmp_le.mp c4)
            rw [if_neg c4, if_neg c4] at hs
            repeat (first | refine G.sx (fun _ => false) rfl rfl rfl ?_ | refine G.gox (fun _ => false) rfl rfl rfl ?_ | refine G.getx (fun _ => false) rfl rfl rfl rfl ?_)
            refine G.br rfl rfl (fun c5 => ?_) (fun c5 => ?_)
            · have c5 : ¬ le * hb' < ht * bo := Int64.not_lt.mpr (cmp_ge.mp c5)
              rw [if_neg c5, if_neg c5] at hs
              exact hx2 _ _ _ _ _ _ _ _ _ _ _ _ _ _ _ _ hs
            · have c5 : le * hb' < ht * bo := Int64.not_le.mp (fun q => c5 (cmp_ge.mpr q))
              rw [if_pos c5, if_pos c5] at hs
              repeat (first | refine G.sx (fun q => Nat.beq q 197) rfl rfl rfl ?_ | refine G.gox (fun q => Nat.beq q 197) rfl rfl rfl ?_ | refine G.getx (fun q => Nat.beq q 197) rfl rfl rfl rfl ?_)
              exact hx2 _ _ _ _ _ _ _ _ _ _ _ _ _ _ _ _ hs
          · have c4 : lt * bo < en * lb := Int64.not_le.mp (fun q => c4 (cmp_le.mpr q))
            rw [if_pos c4, if_pos c4] at hs
            repeat (first | refine G.sx (fun _ => false) rfl rfl rfl ?_ | refine G.gox (fun _ => false) rfl rfl rfl ?_ | refine G.getx (fun _ => false) rfl rfl rfl rfl ?_)
            refine G.br rfl rfl (fun c5 => ?_) (fun c5 => ?_)
            · have c5 : ¬ le * hb' < ht * bo := Int64.not_lt.mpr (cmp_ge.mp c5)
              rw [if_neg c5, if_neg c5] at hs
              exact hx2 _ _ _ _ _ _ _ _ _ _ _ _ _ _ _ _ hs
            · have c5 : le * hb' < ht * bo := Int64.not_le.mp (fun q => c5 (cmp_ge.mpr q))
              rw [if_pos c5, if_pos c5] at hs
              repeat (first | refine G.sx (fun q => Nat.beq q 197) rfl rfl rfl ?_ | refine G.gox (fun q => Nat.beq q 197) rfl rfl rfl ?_ | refine G.getx (fun q => Nat.beq q 197) rfl rfl rfl rfl ?_)
              exact hx2 _ _ _ _ _ _ _ _ _ _ _ _ _ _ _ _ hs
        repeat (first | refine G.sx (fun _ => false) rfl rfl rfl ?_ | refine G.gox (fun _ => false) rfl rfl rfl ?_ | refine G.getx (fun _ => false) rfl rfl rfl rfl ?_)
        refine G.br rfl rfl (fun c4 => ?_) (fun c4 => ?_)
        · have hp : 0 < v := by
            rcases Int64.lt_or_eq_of_le (cmp_ge.mp c4) with q | q
            · exact q
            · exact absurd q.symm v0
          repeat (first | refine G.sx (fun _ => false) rfl rfl rfl ?_ | refine G.gox (fun _ => false) rfl rfl rfl ?_ | refine G.getx (fun _ => false) rfl rfl rfl rfl ?_)
          refine G.br rfl rfl (fun _ => ?_) (fun c5 => absurd c4 c5)
          repeat (first | refine G.sx (fun _ => false) rfl rfl rfl ?_ | refine G.gox (fun _ => false) rfl rfl rfl ?_ | refine G.getx (fun _ => false) rfl rfl rfl rfl ?_)
          refine G.br rfl rfl (fun _ => ?_) (fun c5 => absurd c4 c5)
          repeat (first | refine G.sx (fun q => Nat.beq q 153) rfl rfl rfl ?_ | refine G.gox (fun q => Nat.beq q 153) rfl rfl rfl ?_ | refine G.getx (fun q => Nat.beq q 153) rfl rfl rfl rfl ?_)
          exact FIN v nr fr (by unfold swS; simp [v0, hp])
        · have hp : ¬ 0 < v := fun q => c4 (cmp_ge.mpr (Int64.le_of_lt q))
          repeat (first | refine G.sx (fun _ => false) rfl rfl rfl ?_ | refine G.gox (fun _ => false) rfl rfl rfl ?_ | refine G.getx (fun _ => false) rfl rfl rfl rfl ?_)
          refine G.br rfl rfl (fun c5 => absurd c5 c4) (fun _ => ?_)
          repeat (first | refine G.sx (fun _ => false) rfl rfl rfl ?_ | refine G.gox (fun _ => false) rfl rfl rfl ?_ | refine G.getx (fun _ => false) rfl rfl rfl rfl ?_)
          refine G.br rfl rfl (fun c5 => absurd c5 c4) (fun _ => ?_)
          repeat (first | refine G.sx (fun q => Nat.beq q 153) rfl rfl rfl ?_ | refine G.gox (fun q => Nat.beq q 153) rfl rfl rfl ?_ | refine G.getx (fun q => Nat.beq q 153) rfl rfl rfl rfl ?_)
          exact FIN (-v) (-fr) (-nr) (by unfold swS; simp [v0, hp])
      · have v0 : v = 0 := cmp_eq.mp c2
        have Z : ∀ lv, (0 ≤ nr ∨ fr ≤ 0) → V 93 lv [] h4 := by
          intro lv hz
          repeat (first | refine G.sx (fun _ => false) rfl rfl rfl ?_ | refine G.gox (fun _ => false) rfl rfl rfl ?_ | refine G.getx (fun _ => false) rfl rfl rfl rfl ?_)
          refine E.ri rfl (Or.inr ⟨rfl, Or.inl rfl⟩) ⟨?_, rfl⟩
          rw [hno (by unfold swS; simp [v0, hz]), if_neg (by decide)]
        repeat (first | refine G.sx (fun _ => false) rfl rfl rfl ?_ | refine G.gox (fun _ => false) rfl rfl rfl ?_ | refine G.getx (fun _ => false) rfl rfl rfl rfl ?_)
        refine G.br rfl rfl (fun c3 => Z _ (Or.inl (cmp_ge.mp c3))) (fun c3 => ?_)
        repeat (first | refine G.sx (fun _ => false) rfl rfl rfl ?_ | refine G.gox (fun _ => false) rfl rfl rfl ?_ | refine G.getx (fun _ => false) rfl rfl rfl rfl ?_)
        refine G.br rfl rfl (fun c4 => ?_) (fun c4 => Z _ (Or.inr (Int64.not_lt.mp (fun q => c4 (cmp_gt.mpr q)))))
        have hz : ¬ (0 ≤ nr ∨ fr ≤ 0) := fun q => by
          rcases q with q | q
          · exact c3 (cmp_ge.mpr q)
          · exact absurd (cmp_gt.mp c4) (Int64.not_lt.mpr q)
        repeat (first | refine G.sx (fun _ => false) rfl rfl rfl ?_ | refine G.gox (fun _ => false) rfl rfl rfl ?_ | refine G.getx (fun _ => false) rfl rfl rfl rfl ?_)
        refine G.br rfl rfl (fun c5 => ?_) (fun c5 => absurd (cmp_eq.mpr v0) c5)
        exact hx2 lt lb ht hb' _ _ _ _ _ _ _ _ _ _ _ _ (by unfold swS; rw [if_pos v0, if_neg hz])
    · intro lt lb ht hb' hS
      have hm : swM g own a b w = decide (lt * hb' < ht * lb) := by
        rw [← hF] at hS
        unfold swM swB
        rw [hS]
      repeat (first | refine G.sx (fun _ => false) rfl rfl rfl ?_ | refine G.gox (fun _ => false) rfl rfl rfl ?_ | refine G.getx (fun _ => false) rfl rfl rfl rfl ?_)
      refine G.br rfl rfl (fun c1 => ?_) (fun c1 => absurd (nI_le (a := 3) (Nat.le_refl 3) (by omega)) c1)
      repeat (first | refine G.sx (fun _ => false) rfl rfl rfl ?_ | refine G.gox (fun _ => false) rfl rfl rfl ?_ | refine G.getx (fun _ => false) rfl rfl rfl rfl ?_)
      refine G.br rfl rfl (fun c2 => ?_) (fun c2 => ?_)
      · repeat (first | refine G.sx (fun _ => false) rfl rfl rfl ?_ | refine G.gox (fun _ => false) rfl rfl rfl ?_ | refine G.getx (fun _ => false) rfl rfl rfl rfl ?_)
        refine E.ri rfl (Or.inr ⟨rfl, Or.inl rfl⟩) ⟨?_, rfl⟩
        rw [hm, if_neg (by simpa using Int64.not_lt.mpr (cmp_ge.mp c2))]
      · repeat (first | refine G.sx (fun _ => false) rfl rfl rfl ?_ | refine G.gox (fun _ => false) rfl rfl rfl ?_ | refine G.getx (fun _ => false) rfl rfl rfl rfl ?_)
        refine E.ri rfl (Or.inr ⟨rfl, Or.inr rfl⟩) ⟨?_, rfl⟩
        rw [hm, if_pos (by simpa using Int64.not_le.mp (fun q => c2 (cmp_ge.mpr q)))]
  repeat (first | refine G.sx (fun q => Nat.beq q 15) rfl rfl rfl ?_ | refine G.gox (fun q => Nat.beq q 15) rfl rfl rfl ?_ | refine G.getx (fun q => Nat.beq q 15) rfl rfl rfl rfl ?_)
  exact Lp 0 (by omega) 0 1 1 0 (by rw [← hF]; rfl)
end MoC
