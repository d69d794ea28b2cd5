/-! Bars: the sweep, and what stands in the table -/
section SwC
/-- one axis of the sweep: the open range of times goes on, or there is none -/
def swS (S : Int64 × Int64 × Int64 × Int64) (v near far : Int64) : Option (Int64 × Int64 × Int64 × Int64) :=
  if v = 0 then (if 0 ≤ near ∨ far ≤ 0 then none else some S) else
    let en := if 0 < v then near else -far
    let le := if 0 < v then far else -near
    let bo := if 0 < v then v else -v
    some (if S.1 * bo < en * S.2.1 then en else S.1, if S.1 * bo < en * S.2.1 then bo else S.2.1, if le * S.2.2.2 < S.2.2.1 * bo then le else S.2.2.1, if le * S.2.2.2 < S.2.2.1 * bo then bo else S.2.2.2)
def swF (v near far : Nat → Int64) : Nat → Option (Int64 × Int64 × Int64 × Int64)
  | 0 => some (0, 1, 1, 0)
  | k + 1 => match swF v near far k with
    | none => none
    | some S => swS S (v k) (near k) (far k)
def swB (v near far : Nat → Int64) : Bool := match swF v near far 3 with
  | none => false
  | some S => decide (S.1 * S.2.2.2 < S.2.2.1 * S.2.1)
theorem swF_none {v near far : Nat → Int64} : ∀ {k m : Nat}, swF v near far k = none → k ≤ m → swF v near far m = none := by
  intro k m h hm
  obtain ⟨d, rfl⟩ : ∃ d, m = k + d := ⟨m - k, by omega⟩
  induction d with
  | zero => exact h
  | succ d ih =>
    have h1 := ih (by omega)
    show (match swF v near far (k + d) with | none => none | some S => swS S (v (k + d)) (near (k + d)) (far (k + d))) = none
    rw [h1]
def nearC (h : Hp) (s a b x : Nat) : Int64 := h.2 (26 + x) b - (h.2 (26 + x) a + h.2 (35 + x) s) - h.2 (29 + x) a
def farC (h : Hp) (s a b x : Nat) : Int64 := h.2 (26 + x) b + h.2 (29 + x) b - (h.2 (26 + x) a + h.2 (35 + x) s)
def spdC (h : Hp) (w x : Nat) : Int64 := h.2 (32 + x) w
/-- box a, shifted by s, meets box b along way w -/
def mtB (h : Hp) (s w a b : Nat) : Bool := swB (spdC h w) (nearC h s a b) (farC h s a b)
variable {l : Launch} {D : va_G} {cA : Nat → ClassId} {ad : Nat → Nat} {St : (Nat → Prop) → State → Heap → Prop}
set_option maxHeartbeats 2000000 in
theorem c_Ba_meets (hSt : StOk St) (h : Hp) (s w a b : Nat) (hs : s < 25) (hw : w < 11) (ha : a < 40) (hb : b < 40) : Ct l y_Ba_meets prog_2_method_6_code 28 (some .boolean) (rmD 1) D cls cA slC St ad [.ref 5, .int (nI s), .int (nI w), .int (nI a), .int (nI b)] h (fun r h' => r = some (.int (if mtB h s w a b then 1 else 0)) ∧ h' = h) := by
  refine Ct.ofX (tl := T_Ba_meets) _ (Mx_ok (by decide)) (by decide) tk_Ba_meets cls_ok hSt (Nat.le_of_ble_eq_true rfl) (fun V G E C M => ?_)
  generalize hF : swF (spdC h w) (nearC h s a b) (farC h s a b) = F
  have Lp : ∀ x, x ≤ 3 → ∀ lt lb ht hb' : Int64, F x = some (lt, lb, ht, hb') → V 15 [some (.ref 5), some (.int (nI s)), some (.int (nI w)), some (.int (nI a)), some (.int (nI b)), some (.long lt), none, some (.long lb), none, some (.long ht), none, some (.long hb'), none, some (.int (nI x)), none, none, none, none, none, none, none, none, none, none, none, none, none, none] [] h := by
    refine loopUp 3 (fun x hx ih => ?_) ?_
    · intro lt lb ht hb' hS
      have hx2 : ∀ lt2 lb2 ht2 hb2 : Int64, swS (lt, lb, ht, hb') (spdC h w x) (nearC h s a b x) (farC h s a b x) = some (lt2, lb2, ht2, hb2) → V 230 [some (.ref 5), some (.int (nI s)), some (.int (nI w)), some (.int (nI a)), some (.int (nI b)), some (.long lt2), none, some (.long lb2), none, some (.long ht2), none, some (.long hb2), none, some (.int (nI x)), none, none, none, none, none, none, none, none, none, none, none, none, none, none] [] h := by
        intro lt2 lb2 ht2 hb2 e
        have ih2 := ih lt2 lb2 ht2 hb2 (by rw [← hF] at hS ⊢; simp only [swF, hS]; exact e)
        rw [← nI_1] at ih2
        repeat (first | refine G.sx (fun _ => false) rfl rfl rfl ?_ | refine G.gox (fun _ => false) rfl rfl rfl ?_ | refine G.getx (fun _ => false) rfl rfl rfl rfl ?_)
        refine G.go rfl ?_
        exact ih2
      have hno : swS (lt, lb, ht, hb') (spdC h w x) (nearC h s a b x) (farC h s a b x) = none → mtB h s w a b = false := by
        intro e
        have e1 : F (x + 1) = none := by rw [← hF] at hS ⊢; simp only [swF, hS]; exact e
        have e2 : F 3 = none := by rw [← hF] at e1 ⊢; exact swF_none e1 (by omega)
        unfold mtB swB
        rw [hF, e2]
      repeat (first | refine G.sx (fun _ => false) rfl rfl rfl ?_ | refine G.gox (fun _ => false) rfl rfl rfl ?_ | refine G.getx (fun _ => false) rfl rfl rfl rfl ?_)
      refine G.br rfl rfl (fun c1 => absurd c1 (nI_ge (b := 3) hx (by omega))) (fun _ => ?_)
      repeat (first | refine G.sx (fun _ => false) rfl rfl rfl ?_ | refine G.gox (fun _ => false) rfl rfl rfl ?_ | refine G.getx (fun _ => false) rfl rfl rfl rfl ?_)
      refine G.aaln rfl rfl (by decide) hx (by decide) ?_
      repeat (first | refine G.sx (fun _ => false) rfl rfl rfl ?_ | refine G.gox (fun _ => false) rfl rfl rfl ?_ | refine G.getx (fun _ => false) rfl rfl rfl rfl ?_)
      refine G.laln rfl (row3 (h0 := 0) hx).1 ha (by decide) ?_
      repeat (first | refine G.sx (fun _ => false) rfl rfl rfl ?_ | refine G.gox (fun _ => false) rfl rfl rfl ?_ | refine G.getx (fun _ => false) rfl rfl rfl rfl ?_)
      refine G.aaln rfl rfl (by decide) hx (by decide) ?_
      repeat (first | refine G.sx (fun _ => false) rfl rfl rfl ?_ | refine G.gox (fun _ => false) rfl rfl rfl ?_ | refine G.getx (fun _ => false) rfl rfl rfl rfl ?_)
      refine G.laln rfl (row3 (h0 := 0) hx).2.2.2 hs (by decide) ?_
      repeat (first | refine G.sx (fun _ => false) rfl rfl rfl ?_ | refine G.gox (fun _ => false) rfl rfl rfl ?_ | refine G.getx (fun _ => false) rfl rfl rfl rfl ?_)
      refine G.aaln rfl rfl (by decide) hx (by decide) ?_
      repeat (first | refine G.sx (fun _ => false) rfl rfl rfl ?_ | refine G.gox (fun _ => false) rfl rfl rfl ?_ | refine G.getx (fun _ => false) rfl rfl rfl rfl ?_)
      refine G.laln rfl (row3 (h0 := 0) hx).1 hb (by decide) ?_
      repeat (first | refine G.sx (fun _ => false) rfl rfl rfl ?_ | refine G.gox (fun _ => false) rfl rfl rfl ?_ | refine G.getx (fun _ => false) rfl rfl rfl rfl ?_)
      refine G.aaln rfl rfl (by decide) hx (by decide) ?_
      repeat (first | refine G.sx (fun _ => false) rfl rfl rfl ?_ | refine G.gox (fun _ => false) rfl rfl rfl ?_ | refine G.getx (fun _ => false) rfl rfl rfl rfl ?_)
      refine G.laln rfl (row3 (h0 := 0) hx).2.1 ha (by decide) ?_
      repeat (first | refine G.sx (fun _ => false) rfl rfl rfl ?_ | refine G.gox (fun _ => false) rfl rfl rfl ?_ | refine G.getx (fun _ => false) rfl rfl rfl rfl ?_)
      refine G.aaln rfl rfl (by decide) hx (by decide) ?_
      repeat (first | refine G.sx (fun _ => false) rfl rfl rfl ?_ | refine G.gox (fun _ => false) rfl rfl rfl ?_ | refine G.getx (fun _ => false) rfl rfl rfl rfl ?_)
      refine G.laln rfl (row3 (h0 := 0) hx).1 hb (by decide) ?_
      repeat (first | refine G.sx (fun _ => false) rfl rfl rfl ?_ | refine G.gox (fun _ => false) rfl rfl rfl ?_ | refine G.getx (fun _ => false) rfl rfl rfl rfl ?_)
      refine G.aaln rfl rfl (by decide) hx (by decide) ?_
      repeat (first | refine G.sx (fun _ => false) rfl rfl rfl ?_ | refine G.gox (fun _ => false) rfl rfl rfl ?_ | refine G.getx (fun _ => false) rfl rfl rfl rfl ?_)
      refine G.laln rfl (row3 (h0 := 0) hx).2.1 hb (by decide) ?_
      repeat (first | refine G.sx (fun _ => false) rfl rfl rfl ?_ | refine G.gox (fun _ => false) rfl rfl rfl ?_ | refine G.getx (fun _ => false) rfl rfl rfl rfl ?_)
      refine G.aaln rfl rfl (by decide) hx (by decide) ?_
      repeat (first | refine G.sx (fun _ => false) rfl rfl rfl ?_ | refine G.gox (fun _ => false) rfl rfl rfl ?_ | refine G.getx (fun _ => false) rfl rfl rfl rfl ?_)
      refine G.laln rfl (row3 (h0 := 0) hx).2.2.1 hw (by decide) ?_
      repeat (first | refine G.sx (fun q => Nat.beq q 122) rfl rfl rfl ?_ | refine G.gox (fun q => Nat.beq q 122) rfl rfl rfl ?_ | refine G.getx (fun q => Nat.beq q 122) rfl rfl rfl rfl ?_)
      show V 122 [some (.ref 5), some (.int (nI s)), some (.int (nI w)), some (.int (nI a)), some (.int (nI b)), some (.long lt), none, some (.long lb), none, some (.long ht), none, some (.long hb'), none, some (.int (nI x)), some (.long (h.2 (26 + x) a + h.2 (35 + x) s)), none, some (.long (nearC h s a b x)), none, some (.long (farC h s a b x)), none, some (.long (spdC h w x)), none, none, none, none, none, none, none] [] h
      generalize hv : spdC h w x = v at hx2 hno
      generalize hn : nearC h s a b x = near at hx2 hno
      generalize hf : farC h s a b x = far at hx2 hno
      refine G.le [some (.ref 5), some (.int (nI s)), some (.int (nI w)), some (.int (nI a)), some (.int (nI b)), some (.long lt), none, some (.long lb), none, some (.long ht), none, some (.long hb'), none, some (.int (nI x)), none, none, some (.long near), none, some (.long far), none, some (.long v), none, none, none, none, none, none, none] (by
        rw [← hv, ← hn, ← hf]
        repeat (first | exact leL_0 | refine leL_n ?_ | refine leL_c rfl ?_)) ?_
      by_cases v0 : v = 0
      · repeat (first | refine G.sx (fun _ => false) rfl rfl rfl ?_ | refine G.gox (fun _ => false) rfl rfl rfl ?_ | refine G.getx (fun _ => false) rfl rfl rfl rfl ?_)
        refine G.br rfl rfl (fun c1 => absurd (cmp_eq.mpr v0) c1) (fun _ => ?_)
        repeat (first | refine G.sx (fun _ => false) rfl rfl rfl ?_ | refine G.gox (fun _ => false) rfl rfl rfl ?_ | refine G.getx (fun _ => false) rfl rfl rfl rfl ?_)
        refine G.br rfl rfl (fun c1 => ?_) (fun c1 => ?_)
        · repeat (first | refine G.sx (fun _ => false) rfl rfl rfl ?_ | refine G.gox (fun _ => false) rfl rfl rfl ?_ | refine G.getx (fun _ => false) rfl rfl rfl rfl ?_)
          refine E.ri rfl (Or.inr ⟨rfl, Or.inl rfl⟩) ⟨?_, rfl⟩
          rw [hno (by simp [swS, v0, cmp_ge.mp c1])]
          rfl
        · repeat (first | refine G.sx (fun _ => false) rfl rfl rfl ?_ | refine G.gox (fun _ => false) rfl rfl rfl ?_ | refine G.getx (fun _ => false) rfl rfl rfl rfl ?_)
          refine G.br rfl rfl (fun c2 => ?_) (fun c2 => ?_)
          · refine G.le _ ?_ (hx2 lt lb ht hb' ?_)
            · repeat (first | exact leL_0 | refine leL_n ?_ | refine leL_c rfl ?_)
            · unfold swS
              rw [if_pos v0, if_neg]
              rintro (q | q)
              · exact c1 (cmp_ge.mpr q)
              · exact absurd (cmp_gt.mp c2) (Int64.not_lt.mpr q)
          · repeat (first | refine G.sx (fun _ => false) rfl rfl rfl ?_ | refine G.gox (fun _ => false) rfl rfl rfl ?_ | refine G.getx (fun _ => false) rfl rfl rfl rfl ?_)
            refine E.ri rfl (Or.inr ⟨rfl, Or.inl rfl⟩) ⟨?_, rfl⟩
            have q : far ≤ 0 := Int64.not_lt.mp (fun q => c2 (cmp_gt.mpr q))
            rw [hno (by simp [swS, v0, q])]
            rfl
      · have J : ∀ en le bo : Int64, en = (if 0 < v then near else -far) → le = (if 0 < v then far else -near) → bo = (if 0 < v then v else -v) → V 186 [some (.ref 5), some (.int (nI s)), some (.int (nI w)), some (.int (nI a)), some (.int (nI b)), some (.long lt), none, some (.long lb), none, some (.long ht), none, some (.long hb'), none, some (.int (nI x)), none, none, none, none, none, none, none, none, some (.long en), none, some (.long le), none, some (.long bo), none] [] h := by
          intro en le bo e1 e2 e3
          have hS2 : swS (lt, lb, ht, hb') v near far = some (if lt * bo < en * lb then en else lt, if lt * bo < en * lb then bo else lb, if le * hb' < ht * bo then le else ht, if le * hb' < ht * bo then bo else hb') := by
            unfold swS
            rw [if_neg v0, ← e1, ← e2, ← e3]
          rw [hS2] at hx2
          have J2 : ∀ lt2 lb2 : Int64, lt2 = (if lt * bo < en * lb then en else lt) → lb2 = (if lt * bo < en * lb then bo else lb) → V 208 [some (.ref 5), some (.int (nI s)), some (.int (nI w)), some (.int (nI a)), some (.int (nI b)), some (.long lt2), none, some (.long lb2), none, some (.long ht), none, some (.long hb'), none, some (.int (nI x)), none, none, none, none, none, none, none, none, none, none, some (.long le), none, some (.long bo), none] [] h := by
            intro lt2 lb2 f1 f2
            rw [← f1, ← f2] at hx2
            repeat (first | refine G.sx (fun _ => false) rfl rfl rfl ?_ | refine G.gox (fun _ => false) rfl rfl rfl ?_ | refine G.getx (fun _ => false) rfl rfl rfl rfl ?_)
            refine G.br rfl rfl (fun c1 => ?_) (fun c1 => ?_)
            · have c1 : ¬ le * hb' < ht * bo := Int64.not_lt.mpr (cmp_ge.mp c1)
              rw [if_neg c1, if_neg c1] at hx2
              refine G.le _ ?_ (hx2 lt2 lb2 ht hb' rfl)
              repeat (first | exact leL_0 | refine leL_n ?_ | refine leL_c rfl ?_)
            · have c1 : le * hb' < ht * bo := Int64.not_le.mp (fun q => c1 (cmp_ge.mpr q))
              rw [if_pos c1, if_pos c1] at hx2
              repeat (first | refine G.sx (fun q => Nat.beq q 230) rfl rfl rfl ?_ | refine G.gox (fun q => Nat.beq q 230) rfl rfl rfl ?_ | refine G.getx (fun q => Nat.beq q 230) rfl rfl rfl rfl ?_)
              refine G.le _ ?_ (hx2 lt2 lb2 le bo rfl)
              repeat (first | exact leL_0 | refine leL_n ?_ | refine leL_c rfl ?_)
          repeat (first | refine G.sx (fun _ => false) rfl rfl rfl ?_ | refine G.gox (fun _ => false) rfl rfl rfl ?_ | refine G.getx (fun _ => false) rfl rfl rfl rfl ?_)
          refine G.br rfl rfl (fun c1 => ?_) (fun c1 => ?_)
          · have c1 : ¬ lt * bo < en * lb := Int64.not_lt.mpr (cmp_le.mp c1)
            refine G.le _ ?_ (J2 lt lb (by rw [if_neg c1]) (by rw [if_neg c1]))
            repeat (first | exact leL_0 | refine leL_n ?_ | refine leL_c rfl ?_)
          · have c1 : lt * bo < en * lb := Int64.not_le.mp (fun q => c1 (cmp_le.mpr q))
            repeat (first | refine G.sx (fun q => Nat.beq q 208) rfl rfl rfl ?_ | refine G.gox (fun q => Nat.beq q 208) rfl rfl rfl ?_ | refine G.getx (fun q => Nat.beq q 208) rfl rfl rfl rfl ?_)
            refine G.le _ ?_ (J2 en bo (by rw [if_pos c1]) (by rw [if_pos c1]))
            repeat (first | exact leL_0 | refine leL_n ?_ | refine leL_c rfl ?_)
        repeat (first | refine G.sx (fun _ => false) rfl rfl rfl ?_ | refine G.gox (fun _ => false) rfl rfl rfl ?_ | refine G.getx (fun _ => false) rfl rfl rfl rfl ?_)
        refine G.br rfl rfl (fun _ => ?_) (fun c1 => absurd (cmp_eq.mp c1) v0)
        by_cases hp : 0 < v
        · repeat (first | refine G.sx (fun _ => false) rfl rfl rfl ?_ | refine G.gox (fun _ => false) rfl rfl rfl ?_ | refine G.getx (fun _ => false) rfl rfl rfl rfl ?_)
          refine G.br rfl rfl (fun c1 => absurd (cmp_le.mp c1) (Int64.not_le.mpr hp)) (fun _ => ?_)
          repeat (first | refine G.sx (fun _ => false) rfl rfl rfl ?_ | refine G.gox (fun _ => false) rfl rfl rfl ?_ | refine G.getx (fun _ => false) rfl rfl rfl rfl ?_)
          refine G.br rfl rfl (fun c1 => absurd (cmp_le.mp c1) (Int64.not_le.mpr hp)) (fun _ => ?_)
          repeat (first | refine G.sx (fun _ => false) rfl rfl rfl ?_ | refine G.gox (fun _ => false) rfl rfl rfl ?_ | refine G.getx (fun _ => false) rfl rfl rfl rfl ?_)
          refine M.m 1 rfl ml_Ba_95 rfl (by decide) ?_
          repeat (first | refine G.sx (fun q => Nat.beq q 186) rfl rfl rfl ?_ | refine G.gox (fun q => Nat.beq q 186) rfl rfl rfl ?_ | refine G.getx (fun q => Nat.beq q 186) rfl rfl rfl rfl ?_)
          refine G.le _ ?_ (J near far (if 0 < v then v else -v) (by rw [if_pos hp]) (by rw [if_pos hp]) rfl)
          repeat (first | exact leL_0 | refine leL_n ?_ | refine leL_c rfl ?_)
        · repeat (first | refine G.sx (fun _ => false) rfl rfl rfl ?_ | refine G.gox (fun _ => false) rfl rfl rfl ?_ | refine G.getx (fun _ => false) rfl rfl rfl rfl ?_)
          refine G.br rfl rfl (fun _ => ?_) (fun c1 => absurd (cmp_le.mpr (Int64.not_lt.mp hp)) c1)
          repeat (first | refine G.sx (fun _ => false) rfl rfl rfl ?_ | refine G.gox (fun _ => false) rfl rfl rfl ?_ | refine G.getx (fun _ => false) rfl rfl rfl rfl ?_)
          refine G.br rfl rfl (fun _ => ?_) (fun c1 => absurd (cmp_le.mpr (Int64.not_lt.mp hp)) c1)
          repeat (first | refine G.sx (fun _ => false) rfl rfl rfl ?_ | refine G.gox (fun _ => false) rfl rfl rfl ?_ | refine G.getx (fun _ => false) rfl rfl rfl rfl ?_)
          refine M.m 1 rfl ml_Ba_95 rfl (by decide) ?_
          repeat (first | refine G.sx (fun q => Nat.beq q 186) rfl rfl rfl ?_ | refine G.gox (fun q => Nat.beq q 186) rfl rfl rfl ?_ | refine G.getx (fun q => Nat.beq q 186) rfl rfl rfl rfl ?_)
          refine G.le _ ?_ (J (-far) (-near) (if 0 < v then v else -v) (by rw [if_neg hp]) (by rw [if_neg hp]) rfl)
          repeat (first | exact leL_0 | refine leL_n ?_ | refine leL_c rfl ?_)
    · intro lt lb ht hb' hS
      have e0 : mtB h s w a b = decide (lt * hb' < ht * lb) := by
        unfold mtB swB
        rw [hF, hS]
      repeat (first | refine G.sx (fun _ => false) rfl rfl rfl ?_ | refine G.gox (fun _ => false) rfl rfl rfl ?_ | refine G.getx (fun _ => false) rfl rfl rfl rfl ?_)
      refine G.br rfl rfl (fun _ => ?_) (fun c1 => absurd (by decide) c1)
      repeat (first | refine G.sx (fun _ => false) rfl rfl rfl ?_ | refine G.gox (fun _ => false) rfl rfl rfl ?_ | refine G.getx (fun _ => false) rfl rfl rfl rfl ?_)
      refine G.br rfl rfl (fun c1 => ?_) (fun c1 => ?_)
      · repeat (first | refine G.sx (fun _ => false) rfl rfl rfl ?_ | refine G.gox (fun _ => false) rfl rfl rfl ?_ | refine G.getx (fun _ => false) rfl rfl rfl rfl ?_)
        refine E.ri rfl (Or.inr ⟨rfl, Or.inl rfl⟩) ⟨?_, rfl⟩
        rw [e0, if_neg (by rw [decide_eq_true_iff]; exact Int64.not_lt.mpr (cmp_ge.mp c1))]
      · repeat (first | refine G.sx (fun _ => false) rfl rfl rfl ?_ | refine G.gox (fun _ => false) rfl rfl rfl ?_ | refine G.getx (fun _ => false) rfl rfl rfl rfl ?_)
        refine E.ri rfl (Or.inr ⟨rfl, Or.inr rfl⟩) ⟨?_, rfl⟩
        rw [e0, if_pos (by rw [decide_eq_true_iff]; exact Int64.not_le.mp (fun q => c1 (cmp_ge.mpr q)))]
  repeat (first | refine G.sx (fun q => Nat.beq q 15) rfl rfl rfl ?_ | refine G.gox (fun q => Nat.beq q 15) rfl rfl rfl ?_ | refine G.getx (fun q => Nat.beq q 15) rfl rfl rfl rfl ?_)
  exact Lp 0 (by omega) 0 1 1 0 (by rw [← hF]; rfl)
end SwC
