/-! THE CONSTRUCTORS with stores behind them: Ways, the reference -/
section InB
variable {p : Program} {l : Launch} {e : Env} {R : Room} {s : State} {m : MethodId} {args : Array Value} {below : List Frame} {meth : Method} {c : Code} {cells slots : Nat} {Q : State → Prop} {cc : ByteArray} {own : String} {nL : Nat} {tl : List (Nat × RowE)} {D : va_G} {cl : List vw_C} {cA : Nat → ClassId} {A : Nat → Prop}
theorem lk_map (f : Value → Value) : ∀ (lv : List (Option Value)) (i : Nat) (v : Value), lk lv i = some v → lk (lv.map (Option.map f)) i = some (f v)
  | [], i, v, h => by simp [lk] at h
  | a :: r, 0, v, h => by
    have h : a = some v := h
    subst h
    rfl
  | a :: r, i + 1, v, h => lk_map f r i v h
/-- from the walk over any world to that over numbered cells, and back at the end -/
theorem Vw_Vt {sl : List Sh} {ad : Nat → Nat} {h : Hp} {pc : Nat} {lv : List (Option Value)} {st : List Value} (h3 : Vt p l e R s m args below meth c nL ad D cl sl cA A cells slots Q pc lv st h) : Vw p l e R s m args below meth c nL D cl A Q cells slots (Wd sl cA ad h) pc (lv.map (Option.map (cv ad))) (st.map (cv ad)) := by
  intro ls H locs hl hP hD hS
  refine h3 ls H locs ⟨hl.1, fun i v hi => ?_⟩ hP hD hS
  have := hl.2 i _ (lk_map (cv ad) lv i v hi)
  rw [cv_id] at this
  exact this
theorem Vt_Vw {sl : List Sh} {ad : Nat → Nat} {h : Hp} {pc : Nat} {lv : List (Option Value)} {st : List Value} (h3 : Vw p l e R s m args below meth c nL D cl A Q cells slots (Wd sl cA ad h) pc [] (st.map (cv ad))) : Vt p l e R s m args below meth c nL ad D cl sl cA A cells slots Q pc lv st h := by
  intro ls H locs hl hP hD hS
  exact h3 ls H locs ⟨hl.1, fun i v hi => by simp [lk] at hi⟩ hP hD hS
theorem Vw_rf {ws : va_W} {pc q0 q N : Nat} {cB : ClassId} {r r' : Nat → Nat} {lv : List (Option Value)} {st : List Value} (he : ws[q0]? = some (q, .inl (cB, RF N r))) (hr : ∀ j, j < N → r j = r' j) (h3 : Vw p l e R s m args below meth c nL D cl A Q cells slots (ws.set q0 (q, .inl (cB, RF N r'))) pc lv st) : Vw p l e R s m args below meth c nL D cl A Q cells slots ws pc lv st := by
  have hlt : q0 < ws.length := (List.getElem?_eq_some_iff.mp he).1
  refine Vw_conv (fun H hP k x hx => ?_) (fun hD => va_D_ad hD ?_) h3
  · by_cases ek : k = q0
    · subst ek
      rw [List.getElem?_set_self hlt] at hx
      cases hx
      have h0 := hP k _ he
      show H[q]? = some (vp_cell cB (RF N r'))
      rw [← RF_ext cB hr]
      exact h0
    · rw [List.getElem?_set_ne (Ne.symm ek)] at hx
      exact hP k x hx
  · rw [List.map_set]
    apply List.ext_getElem?
    intro i
    by_cases ei : i = q0
    · subst ei
      rw [List.getElem?_set_self (by rw [List.length_map]; exact hlt), List.getElem?_map, he]
      rfl
    · rw [List.getElem?_set_ne (Ne.symm ei)]
def adL (L : List Nat) (k : Nat) : Nat := L.getD k 0
def h00 : Hp := (fun _ _ => 0, fun _ _ => 0)
def slW : List Sh := [.inl (3, [0, 4]), .inr (3, 3, 2), .inr (11, 1, 0), .inr (11, 1, 0), .inr (11, 1, 0)]
/-- the ways behind w of the six -/
def hWy (w : Nat) : Hp := (fun k j => if k = 0 ∧ j = 0 then 6 else 0, fun k j => if j < w ∧ k = 2 + j / 2 then (if j % 2 = 0 then 1 else -1) else 0)
theorem wy_d : ∀ w : Fin 6, nI w.val / 2 = nI (w.val / 2) ∧ nI w.val - nI w.val / 2 * 2 = nI (w.val % 2) := by decide +kernel
set_option maxRecDepth 4000 in
set_option maxHeartbeats 1000000 in
theorem n_Wy_init (l : Launch) (D : va_G) (cA : Nat → ClassId) (a : Nat) : CtN l y_Wy_init prog_9_method_1_code 2 1 4 36 D cls cA [.ref a] [(a, .inr (3, [.int 0, .null]))] (fun w1 => ∃ L : List Nat, L.length = 4 ∧ w1 = Wd slW cA (adL (a :: L)) (hWy 6)) := by
  refine CtN_of (tl := T_Wy_init) (by decide) rfl tk_Wy_init cls_ok (Nat.le_of_ble_eq_true rfl) ?_
  intro p e s m args below meth c A Q C0 hml hin hA ha1 ha2 RT
  refine Vw_s C0 rfl rfl ?_
  refine Vw_obj C0 hml rfl (wg_in 78 (by decide +kernel) rfl) (wg_in 26 (by decide +kernel) rfl) (wg_in 27 (by decide +kernel) rfl) (Nat.le_of_ble_eq_true rfl) (Nat.le_of_ble_eq_true rfl) (Nat.le_of_ble_eq_true rfl) ?_
  refine Vw_s C0 rfl rfl ?_
  refine Vw_s C0 rfl rfl ?_
  refine Vw_put C0 hin (q0 := 0) rfl rfl rfl rfl (ty := .int) (by decide +kernel) rfl rfl (Nat.le_of_ble_eq_true rfl) ?_
  refine Vw_s C0 rfl rfl ?_
  refine Vw_s C0 rfl rfl ?_
  refine Vw_s C0 rfl rfl ?_
  refine Vw_mna C0 hA (ty := .long) (t0 := 1) (t1 := 3) (N := 3) (M := 11) (z := (11, .inr (.inl (fun _ => 0)))) rfl rfl rfl (fun C h => by cases h) (wg_in 72 (by decide +kernel) rfl) (wg_in 79 (by decide +kernel) rfl) ha1 rfl (by omega) (by omega) (Nat.le_of_ble_eq_true rfl) (Nat.le_of_ble_eq_true rfl) (Nat.le_of_ble_eq_true rfl) rfl rfl (fun _ => MZl _ 11) (Nat.le_of_ble_eq_true rfl) (Nat.le_of_ble_eq_true rfl) (fun q0 r0 => ?_)
  refine Vw_put C0 hin (q0 := 0) rfl rfl rfl rfl (ty := .array (.array .long)) (by decide +kernel) rfl rfl (Nat.le_of_ble_eq_true rfl) ?_
  refine Vw_rf (q0 := 1) (r' := fun j => adL [a, q0, r0 0, r0 1, r0 2] (2 + j)) rfl (fun j hj => by rcases (show j = 0 ∨ j = 1 ∨ j = 2 by omega) with rfl | rfl | rfl <;> rfl) ?_
  show Vw p l e _ s m args below meth c 2 D cls A Q _ _ (Wd slW cA (adL [a, q0, r0 0, r0 1, r0 2]) (hWy 0)) 21 ([some (.ref 0), none].map (Option.map (cv (adL [a, q0, r0 0, r0 1, r0 2])))) (([] : List Value).map (cv (adL [a, q0, r0 0, r0 1, r0 2])))
  refine Vw_Vt ?_
  generalize hV : Vt p l e (rmN 1 4 36) s m args below meth c 2 (adL [a, q0, r0 0, r0 1, r0 2]) D cls slW cA A (0 + 1 + 3) (0 + 3 + 3 * 11) Q = V
  have G : Gd slW T_Wy_init V := by rw [← hV]; exact Vt_Gd C0
  have L : ∀ w, w ≤ 6 → V 23 [some (.ref 0), some (.int (nI w))] [] (hWy w) := by
    refine loopUp 6 (fun w hw ih => ?_) ?_
    · rw [← nI_1] at ih
      obtain ⟨d1, d2⟩ := wy_d ⟨w, hw⟩
      have d1 : nI w / 2 = nI (w / 2) := d1
      have d2 : nI w - nI w / 2 * 2 = nI (w % 2) := d2
      repeat (first | refine G.sx (fun _ => false) rfl rfl rfl ?_ | refine G.gox (fun _ => false) rfl rfl rfl ?_ | refine G.getx (fun _ => false) rfl rfl rfl rfl ?_)
      refine G.br rfl rfl (fun c1 => absurd c1 (nI_ge (b := 6) hw (by omega))) (fun _ => ?_)
      repeat (first | refine G.sx (fun _ => false) rfl rfl rfl ?_ | refine G.gox (fun _ => false) rfl rfl rfl ?_ | refine G.getx (fun _ => false) rfl rfl rfl rfl ?_)
      refine G.idiv rfl (by decide) ?_
      show V 36 _ [.int (nI w / 2), .ref 1] _
      rw [d1]
      refine G.aaln rfl rfl (by decide) (by omega) (by decide) ?_
      repeat (first | refine G.sx (fun _ => false) rfl rfl rfl ?_ | refine G.gox (fun _ => false) rfl rfl rfl ?_ | refine G.getx (fun _ => false) rfl rfl rfl rfl ?_)
      refine G.irem rfl (by decide) ?_
      show V 41 _ [.int (nI w - nI w / 2 * 2), .int (nI w), .ref (2 + w / 2)] _
      rw [d2]
      have hsl : slW[2 + w / 2]? = some (.inr (11, 1, 0)) := by
        rcases (show w / 2 = 0 ∨ w / 2 = 1 ∨ w / 2 = 2 by omega) with e1 | e1 | e1 <;> rw [e1] <;> rfl
      have fin : ∀ v : Int64, v = (if w % 2 = 0 then 1 else -1) → upL (hWy w) (2 + w / 2) w v = hWy (w + 1) := by
        intro v hv
        refine Prod.ext rfl (funext fun k => funext fun j => ?_)
        rw [upL_get]
        unfold hWy
        by_cases e1 : k = 2 + w / 2 ∧ j = w
        · rw [if_pos e1, e1.1, e1.2]
          simp [hv]
        · rw [if_neg e1]
          have hc : (j < w ∧ k = 2 + j / 2) ↔ (j < w + 1 ∧ k = 2 + j / 2) := by
            refine ⟨fun z => ⟨by omega, z.2⟩, fun z => ⟨?_, z.2⟩⟩
            by_cases e3 : j = w
            · exact absurd ⟨by rw [z.2, e3], e3⟩ e1
            · omega
          simp only [hc]
      refine G.br rfl rfl (fun c1 => ?_) (fun c1 => ?_)
      · have c1 : ¬ w % 2 = 0 := fun z => c1 (by rw [z]; rfl)
        repeat (first | refine G.sx (fun q => Nat.beq q 51) rfl rfl rfl ?_ | refine G.gox (fun q => Nat.beq q 51) rfl rfl rfl ?_ | refine G.getx (fun q => Nat.beq q 51) rfl rfl rfl rfl ?_)
        show V 51 _ [.long (-1), .int (nI w), .ref (2 + w / 2)] _
        refine G.lasn rfl hsl (by omega) (by decide) ?_
        rw [fin _ (by rw [if_neg c1])]
        repeat (first | refine G.sx (fun _ => false) rfl rfl rfl ?_ | refine G.gox (fun _ => false) rfl rfl rfl ?_ | refine G.getx (fun _ => false) rfl rfl rfl rfl ?_)
        refine G.go rfl ?_
        exact ih
      · have c1 : w % 2 = 0 := (nI_eq (b := 0) (by omega) (by omega)).mp c1
        repeat (first | refine G.sx (fun q => Nat.beq q 51) rfl rfl rfl ?_ | refine G.gox (fun q => Nat.beq q 51) rfl rfl rfl ?_ | refine G.getx (fun q => Nat.beq q 51) rfl rfl rfl rfl ?_)
        show V 51 _ [.long 1, .int (nI w), .ref (2 + w / 2)] _
        refine G.lasn rfl hsl (by omega) (by decide) ?_
        rw [fin _ (by rw [if_pos c1])]
        repeat (first | refine G.sx (fun _ => false) rfl rfl rfl ?_ | refine G.gox (fun _ => false) rfl rfl rfl ?_ | refine G.getx (fun _ => false) rfl rfl rfl rfl ?_)
        refine G.go rfl ?_
        exact ih
    · repeat (first | refine G.sx (fun _ => false) rfl rfl rfl ?_ | refine G.gox (fun _ => false) rfl rfl rfl ?_ | refine G.getx (fun _ => false) rfl rfl rfl rfl ?_)
      refine G.br rfl rfl (fun _ => ?_) (fun c1 => absurd (nI_le (a := 6) (Nat.le_refl 6) (by omega)) c1)
      rw [← hV]
      exact Vt_Vw (RT (Nat.le_of_ble_eq_true rfl) (Nat.le_of_ble_eq_true rfl) rfl ⟨[q0, r0 0, r0 1, r0 2], rfl, rfl⟩)
  repeat (first | refine G.sx (fun q => Nat.beq q 23) rfl rfl rfl ?_ | refine G.gox (fun q => Nat.beq q 23) rfl rfl rfl ?_ | refine G.getx (fun q => Nat.beq q 23) rfl rfl rfl rfl ?_)
  exact L 0 (Nat.zero_le _)
def gM0 : Hp := upL (upL (upL (upL (upL (upL h00 3 0 1) 3 3 (-1)) 3 7 1) 3 10 (-1)) 3 14 1) 3 17 (-1)
set_option maxRecDepth 4000 in
set_option maxHeartbeats 1000000 in
theorem n_Mo_init (l : Launch) (D : va_G) (cA : Nat → ClassId) (a : Nat) : CtN l y_Mo_init prog_11_method_1_code 2 1 13 49702 D cls cA [.ref a] [(a, .inr (9, [.int 0, .int 0, .int 0, .null, .null, .int 0, .null, .null, .int 0, .null, .null, .null, .null, .null, .int 0, .int 0, .null, .null, .int 0, .null, .null]))] (fun w1 => ∃ L : List Nat, L.length = 13 ∧ w1 = Wd slM cA (adL (a :: L)) gM0) := by
  refine CtN_of (tl := T_Mo_init) (by decide) rfl tk_Mo_init cls_ok (Nat.le_of_ble_eq_true rfl) ?_
  intro p e s m args below meth c A Q C0 hml hin hA ha1 ha2 RT
  refine Vw_s C0 rfl rfl ?_
  refine Vw_obj C0 hml rfl (wg_in 774 (by decide +kernel) rfl) (wg_in 26 (by decide +kernel) rfl) (wg_in 27 (by decide +kernel) rfl) (Nat.le_of_ble_eq_true rfl) (Nat.le_of_ble_eq_true rfl) (Nat.le_of_ble_eq_true rfl) ?_
  refine Vw_s C0 rfl rfl ?_
  refine Vw_s C0 rfl rfl ?_
  refine Vw_newa C0 hA (at0 := .int) (ty := .int) (t0 := 0) (N := 40) (a0 := (40, .inl (fun _ => 0))) rfl rfl rfl (fun C h => by cases h) (wg_in 45 (by decide +kernel) rfl) (fun _ => rfl) (by omega) (Nat.le_of_ble_eq_true rfl) (Nat.le_of_ble_eq_true rfl) (Nat.le_of_ble_eq_true rfl) (fun q0 => ?_)
  refine Vw_put C0 hin (q0 := 0) rfl rfl rfl rfl (ty := .array .int) (by decide +kernel) rfl rfl (Nat.le_of_ble_eq_true rfl) ?_
  show Vw p l e _ s m args below meth c 2 D cls A Q _ _ [(a, .inr (9, [.int 0, .int 0, .int 0, .ref q0, .null, .int 0, .null, .null, .int 0, .null, .null, .null, .null, .null, .int 0, .int 0, .null, .null, .int 0, .null, .null])), (q0, .inl (cA 0, (40, .inl (fun _ => 0))))] 12 _ _
  refine Vw_s C0 rfl rfl ?_
  refine Vw_s C0 rfl rfl ?_
  refine Vw_newa C0 hA (at0 := .long) (ty := .long) (t0 := 1) (N := 240) (a0 := (240, .inr (.inl (fun _ => 0)))) rfl rfl rfl (fun C h => by cases h) (wg_in 72 (by decide +kernel) rfl) (fun _ => rfl) (by omega) (Nat.le_of_ble_eq_true rfl) (Nat.le_of_ble_eq_true rfl) (Nat.le_of_ble_eq_true rfl) (fun q1 => ?_)
  refine Vw_put C0 hin (q0 := 0) rfl rfl rfl rfl (ty := .array .long) (by decide +kernel) rfl rfl (Nat.le_of_ble_eq_true rfl) ?_
  show Vw p l e _ s m args below meth c 2 D cls A Q _ _ [(a, .inr (9, [.int 0, .int 0, .int 0, .ref q0, .ref q1, .int 0, .null, .null, .int 0, .null, .null, .null, .null, .null, .int 0, .int 0, .null, .null, .int 0, .null, .null])), (q0, .inl (cA 0, (40, .inl (fun _ => 0)))), (q1, .inl (cA 1, (240, .inr (.inl (fun _ => 0)))))] 21 _ _
  refine Vw_s C0 rfl rfl ?_
  refine Vw_s C0 rfl rfl ?_
  refine Vw_newa C0 hA (at0 := .long) (ty := .long) (t0 := 1) (N := 30) (a0 := (30, .inr (.inl (fun _ => 0)))) rfl rfl rfl (fun C h => by cases h) (wg_in 72 (by decide +kernel) rfl) (fun _ => rfl) (by omega) (Nat.le_of_ble_eq_true rfl) (Nat.le_of_ble_eq_true rfl) (Nat.le_of_ble_eq_true rfl) (fun q2 => ?_)
  refine Vw_put C0 hin (q0 := 0) rfl rfl rfl rfl (ty := .array .long) (by decide +kernel) rfl rfl (Nat.le_of_ble_eq_true rfl) ?_
  show Vw p l e _ s m args below meth c 2 D cls A Q _ _ [(a, .inr (9, [.int 0, .int 0, .int 0, .ref q0, .ref q1, .int 0, .ref q2, .null, .int 0, .null, .null, .null, .null, .null, .int 0, .int 0, .null, .null, .int 0, .null, .null])), (q0, .inl (cA 0, (40, .inl (fun _ => 0)))), (q1, .inl (cA 1, (240, .inr (.inl (fun _ => 0))))), (q2, .inl (cA 1, (30, .inr (.inl (fun _ => 0)))))] 29 _ _
  refine Vw_s C0 rfl rfl ?_
  refine Vw_s C0 rfl rfl ?_
  refine Vw_newa C0 hA (at0 := .int) (ty := .int) (t0 := 0) (N := 12) (a0 := (12, .inl (fun _ => 0))) rfl rfl rfl (fun C h => by cases h) (wg_in 45 (by decide +kernel) rfl) (fun _ => rfl) (by omega) (Nat.le_of_ble_eq_true rfl) (Nat.le_of_ble_eq_true rfl) (Nat.le_of_ble_eq_true rfl) (fun q3 => ?_)
  refine Vw_put C0 hin (q0 := 0) rfl rfl rfl rfl (ty := .array .int) (by decide +kernel) rfl rfl (Nat.le_of_ble_eq_true rfl) ?_
  show Vw p l e _ s m args below meth c 2 D cls A Q _ _ [(a, .inr (9, [.int 0, .int 0, .int 0, .ref q0, .ref q1, .int 0, .ref q2, .ref q3, .int 0, .null, .null, .null, .null, .null, .int 0, .int 0, .null, .null, .int 0, .null, .null])), (q0, .inl (cA 0, (40, .inl (fun _ => 0)))), (q1, .inl (cA 1, (240, .inr (.inl (fun _ => 0))))), (q2, .inl (cA 1, (30, .inr (.inl (fun _ => 0))))), (q3, .inl (cA 0, (12, .inl (fun _ => 0))))] 37 _ _
  refine Vw_s C0 rfl rfl ?_
  refine Vw_s C0 rfl rfl ?_
  refine Vw_newa C0 hA (at0 := .int) (ty := .int) (t0 := 0) (N := 16) (a0 := (16, .inl (fun _ => 0))) rfl rfl rfl (fun C h => by cases h) (wg_in 45 (by decide +kernel) rfl) (fun _ => rfl) (by omega) (Nat.le_of_ble_eq_true rfl) (Nat.le_of_ble_eq_true rfl) (Nat.le_of_ble_eq_true rfl) (fun q4 => ?_)
  refine Vw_put C0 hin (q0 := 0) rfl rfl rfl rfl (ty := .array .int) (by decide +kernel) rfl rfl (Nat.le_of_ble_eq_true rfl) ?_
  show Vw p l e _ s m args below meth c 2 D cls A Q _ _ [(a, .inr (9, [.int 0, .int 0, .int 0, .ref q0, .ref q1, .int 0, .ref q2, .ref q3, .int 0, .ref q4, .null, .null, .null, .null, .int 0, .int 0, .null, .null, .int 0, .null, .null])), (q0, .inl (cA 0, (40, .inl (fun _ => 0)))), (q1, .inl (cA 1, (240, .inr (.inl (fun _ => 0))))), (q2, .inl (cA 1, (30, .inr (.inl (fun _ => 0))))), (q3, .inl (cA 0, (12, .inl (fun _ => 0)))), (q4, .inl (cA 0, (16, .inl (fun _ => 0))))] 45 _ _
  refine Vw_s C0 rfl rfl ?_
  refine Vw_s C0 rfl rfl ?_
  refine Vw_newa C0 hA (at0 := .int) (ty := .int) (t0 := 0) (N := 16) (a0 := (16, .inl (fun _ => 0))) rfl rfl rfl (fun C h => by cases h) (wg_in 45 (by decide +kernel) rfl) (fun _ => rfl) (by omega) (Nat.le_of_ble_eq_true rfl) (Nat.le_of_ble_eq_true rfl) (Nat.le_of_ble_eq_true rfl) (fun q5 => ?_)
  refine Vw_put C0 hin (q0 := 0) rfl rfl rfl rfl (ty := .array .int) (by decide +kernel) rfl rfl (Nat.le_of_ble_eq_true rfl) ?_
  show Vw p l e _ s m args below meth c 2 D cls A Q _ _ [(a, .inr (9, [.int 0, .int 0, .int 0, .ref q0, .ref q1, .int 0, .ref q2, .ref q3, .int 0, .ref q4, .ref q5, .null, .null, .null, .int 0, .int 0, .null, .null, .int 0, .null, .null])), (q0, .inl (cA 0, (40, .inl (fun _ => 0)))), (q1, .inl (cA 1, (240, .inr (.inl (fun _ => 0))))), (q2, .inl (cA 1, (30, .inr (.inl (fun _ => 0))))), (q3, .inl (cA 0, (12, .inl (fun _ => 0)))), (q4, .inl (cA 0, (16, .inl (fun _ => 0)))), (q5, .inl (cA 0, (16, .inl (fun _ => 0))))] 53 _ _
  refine Vw_s C0 rfl rfl ?_
  refine Vw_s C0 rfl rfl ?_
  refine Vw_newa C0 hA (at0 := .int) (ty := .int) (t0 := 0) (N := 16) (a0 := (16, .inl (fun _ => 0))) rfl rfl rfl (fun C h => by cases h) (wg_in 45 (by decide +kernel) rfl) (fun _ => rfl) (by omega) (Nat.le_of_ble_eq_true rfl) (Nat.le_of_ble_eq_true rfl) (Nat.le_of_ble_eq_true rfl) (fun q6 => ?_)
  refine Vw_put C0 hin (q0 := 0) rfl rfl rfl rfl (ty := .array .int) (by decide +kernel) rfl rfl (Nat.le_of_ble_eq_true rfl) ?_
  show Vw p l e _ s m args below meth c 2 D cls A Q _ _ [(a, .inr (9, [.int 0, .int 0, .int 0, .ref q0, .ref q1, .int 0, .ref q2, .ref q3, .int 0, .ref q4, .ref q5, .ref q6, .null, .null, .int 0, .int 0, .null, .null, .int 0, .null, .null])), (q0, .inl (cA 0, (40, .inl (fun _ => 0)))), (q1, .inl (cA 1, (240, .inr (.inl (fun _ => 0))))), (q2, .inl (cA 1, (30, .inr (.inl (fun _ => 0))))), (q3, .inl (cA 0, (12, .inl (fun _ => 0)))), (q4, .inl (cA 0, (16, .inl (fun _ => 0)))), (q5, .inl (cA 0, (16, .inl (fun _ => 0)))), (q6, .inl (cA 0, (16, .inl (fun _ => 0))))] 61 _ _
  refine Vw_s C0 rfl rfl ?_
  refine Vw_s C0 rfl rfl ?_
  refine Vw_newa C0 hA (at0 := .long) (ty := .long) (t0 := 1) (N := 36) (a0 := (36, .inr (.inl (fun _ => 0)))) rfl rfl rfl (fun C h => by cases h) (wg_in 72 (by decide +kernel) rfl) (fun _ => rfl) (by omega) (Nat.le_of_ble_eq_true rfl) (Nat.le_of_ble_eq_true rfl) (Nat.le_of_ble_eq_true rfl) (fun q7 => ?_)
  refine Vw_put C0 hin (q0 := 0) rfl rfl rfl rfl (ty := .array .long) (by decide +kernel) rfl rfl (Nat.le_of_ble_eq_true rfl) ?_
  show Vw p l e _ s m args below meth c 2 D cls A Q _ _ [(a, .inr (9, [.int 0, .int 0, .int 0, .ref q0, .ref q1, .int 0, .ref q2, .ref q3, .int 0, .ref q4, .ref q5, .ref q6, .ref q7, .null, .int 0, .int 0, .null, .null, .int 0, .null, .null])), (q0, .inl (cA 0, (40, .inl (fun _ => 0)))), (q1, .inl (cA 1, (240, .inr (.inl (fun _ => 0))))), (q2, .inl (cA 1, (30, .inr (.inl (fun _ => 0))))), (q3, .inl (cA 0, (12, .inl (fun _ => 0)))), (q4, .inl (cA 0, (16, .inl (fun _ => 0)))), (q5, .inl (cA 0, (16, .inl (fun _ => 0)))), (q6, .inl (cA 0, (16, .inl (fun _ => 0)))), (q7, .inl (cA 1, (36, .inr (.inl (fun _ => 0)))))] 69 _ _
  refine Vw_s C0 rfl rfl ?_
  refine Vw_s C0 rfl rfl ?_
  refine Vw_newa C0 hA (at0 := .int) (ty := .int) (t0 := 0) (N := 120) (a0 := (120, .inl (fun _ => 0))) rfl rfl rfl (fun C h => by cases h) (wg_in 45 (by decide +kernel) rfl) (fun _ => rfl) (by omega) (Nat.le_of_ble_eq_true rfl) (Nat.le_of_ble_eq_true rfl) (Nat.le_of_ble_eq_true rfl) (fun q8 => ?_)
  refine Vw_put C0 hin (q0 := 0) rfl rfl rfl rfl (ty := .array .int) (by decide +kernel) rfl rfl (Nat.le_of_ble_eq_true rfl) ?_
  show Vw p l e _ s m args below meth c 2 D cls A Q _ _ [(a, .inr (9, [.int 0, .int 0, .int 0, .ref q0, .ref q1, .int 0, .ref q2, .ref q3, .int 0, .ref q4, .ref q5, .ref q6, .ref q7, .ref q8, .int 0, .int 0, .null, .null, .int 0, .null, .null])), (q0, .inl (cA 0, (40, .inl (fun _ => 0)))), (q1, .inl (cA 1, (240, .inr (.inl (fun _ => 0))))), (q2, .inl (cA 1, (30, .inr (.inl (fun _ => 0))))), (q3, .inl (cA 0, (12, .inl (fun _ => 0)))), (q4, .inl (cA 0, (16, .inl (fun _ => 0)))), (q5, .inl (cA 0, (16, .inl (fun _ => 0)))), (q6, .inl (cA 0, (16, .inl (fun _ => 0)))), (q7, .inl (cA 1, (36, .inr (.inl (fun _ => 0))))), (q8, .inl (cA 0, (120, .inl (fun _ => 0))))] 77 _ _
  refine Vw_s C0 rfl rfl ?_
  refine Vw_s C0 rfl rfl ?_
  refine Vw_newa C0 hA (at0 := .int) (ty := .int) (t0 := 0) (N := 12) (a0 := (12, .inl (fun _ => 0))) rfl rfl rfl (fun C h => by cases h) (wg_in 45 (by decide +kernel) rfl) (fun _ => rfl) (by omega) (Nat.le_of_ble_eq_true rfl) (Nat.le_of_ble_eq_true rfl) (Nat.le_of_ble_eq_true rfl) (fun q9 => ?_)
  refine Vw_put C0 hin (q0 := 0) rfl rfl rfl rfl (ty := .array .int) (by decide +kernel) rfl rfl (Nat.le_of_ble_eq_true rfl) ?_
  show Vw p l e _ s m args below meth c 2 D cls A Q _ _ [(a, .inr (9, [.int 0, .int 0, .int 0, .ref q0, .ref q1, .int 0, .ref q2, .ref q3, .int 0, .ref q4, .ref q5, .ref q6, .ref q7, .ref q8, .int 0, .int 0, .ref q9, .null, .int 0, .null, .null])), (q0, .inl (cA 0, (40, .inl (fun _ => 0)))), (q1, .inl (cA 1, (240, .inr (.inl (fun _ => 0))))), (q2, .inl (cA 1, (30, .inr (.inl (fun _ => 0))))), (q3, .inl (cA 0, (12, .inl (fun _ => 0)))), (q4, .inl (cA 0, (16, .inl (fun _ => 0)))), (q5, .inl (cA 0, (16, .inl (fun _ => 0)))), (q6, .inl (cA 0, (16, .inl (fun _ => 0)))), (q7, .inl (cA 1, (36, .inr (.inl (fun _ => 0))))), (q8, .inl (cA 0, (120, .inl (fun _ => 0)))), (q9, .inl (cA 0, (12, .inl (fun _ => 0))))] 85 _ _
  refine Vw_s C0 rfl rfl ?_
  refine Vw_s C0 rfl rfl ?_
  refine Vw_newa C0 hA (at0 := .int) (ty := .int) (t0 := 0) (N := 12) (a0 := (12, .inl (fun _ => 0))) rfl rfl rfl (fun C h => by cases h) (wg_in 45 (by decide +kernel) rfl) (fun _ => rfl) (by omega) (Nat.le_of_ble_eq_true rfl) (Nat.le_of_ble_eq_true rfl) (Nat.le_of_ble_eq_true rfl) (fun q10 => ?_)
  refine Vw_put C0 hin (q0 := 0) rfl rfl rfl rfl (ty := .array .int) (by decide +kernel) rfl rfl (Nat.le_of_ble_eq_true rfl) ?_
  show Vw p l e _ s m args below meth c 2 D cls A Q _ _ [(a, .inr (9, [.int 0, .int 0, .int 0, .ref q0, .ref q1, .int 0, .ref q2, .ref q3, .int 0, .ref q4, .ref q5, .ref q6, .ref q7, .ref q8, .int 0, .int 0, .ref q9, .ref q10, .int 0, .null, .null])), (q0, .inl (cA 0, (40, .inl (fun _ => 0)))), (q1, .inl (cA 1, (240, .inr (.inl (fun _ => 0))))), (q2, .inl (cA 1, (30, .inr (.inl (fun _ => 0))))), (q3, .inl (cA 0, (12, .inl (fun _ => 0)))), (q4, .inl (cA 0, (16, .inl (fun _ => 0)))), (q5, .inl (cA 0, (16, .inl (fun _ => 0)))), (q6, .inl (cA 0, (16, .inl (fun _ => 0)))), (q7, .inl (cA 1, (36, .inr (.inl (fun _ => 0))))), (q8, .inl (cA 0, (120, .inl (fun _ => 0)))), (q9, .inl (cA 0, (12, .inl (fun _ => 0)))), (q10, .inl (cA 0, (12, .inl (fun _ => 0))))] 93 _ _
  refine Vw_s C0 rfl rfl ?_
  refine Vw_s C0 rfl rfl ?_
  refine Vw_newa C0 hA (at0 := .int) (ty := .int) (t0 := 0) (N := 45056) (a0 := (45056, .inl (fun _ => 0))) rfl rfl rfl (fun C h => by cases h) (wg_in 45 (by decide +kernel) rfl) (fun _ => rfl) (by omega) (by show 45056 * 4 ≤ 536870912; omega) (Nat.le_of_ble_eq_true rfl) (by show _ ≤ 49702; omega) (fun q11 => ?_)
  refine Vw_put C0 hin (q0 := 0) rfl rfl rfl rfl (ty := .array .int) (by decide +kernel) rfl rfl (Nat.le_of_ble_eq_true rfl) ?_
  show Vw p l e _ s m args below meth c 2 D cls A Q _ _ [(a, .inr (9, [.int 0, .int 0, .int 0, .ref q0, .ref q1, .int 0, .ref q2, .ref q3, .int 0, .ref q4, .ref q5, .ref q6, .ref q7, .ref q8, .int 0, .int 0, .ref q9, .ref q10, .int 0, .ref q11, .null])), (q0, .inl (cA 0, (40, .inl (fun _ => 0)))), (q1, .inl (cA 1, (240, .inr (.inl (fun _ => 0))))), (q2, .inl (cA 1, (30, .inr (.inl (fun _ => 0))))), (q3, .inl (cA 0, (12, .inl (fun _ => 0)))), (q4, .inl (cA 0, (16, .inl (fun _ => 0)))), (q5, .inl (cA 0, (16, .inl (fun _ => 0)))), (q6, .inl (cA 0, (16, .inl (fun _ => 0)))), (q7, .inl (cA 1, (36, .inr (.inl (fun _ => 0))))), (q8, .inl (cA 0, (120, .inl (fun _ => 0)))), (q9, .inl (cA 0, (12, .inl (fun _ => 0)))), (q10, .inl (cA 0, (12, .inl (fun _ => 0)))), (q11, .inl (cA 0, (45056, .inl (fun _ => 0))))] 101 _ _
  refine Vw_s C0 rfl rfl ?_
  refine Vw_s C0 rfl rfl ?_
  refine Vw_newa C0 hA (at0 := .boolean) (ty := .boolean) (t0 := 2) (N := 4096) (a0 := (4096, .inl (fun _ => 0))) rfl rfl rfl (fun C h => by cases h) (wg_in 841 (by decide +kernel) rfl) (fun _ => rfl) (by omega) (by show 4096 * 1 ≤ 536870912; omega) (Nat.le_of_ble_eq_true rfl) (by show _ ≤ 49702; omega) (fun q12 => ?_)
  refine Vw_put C0 hin (q0 := 0) rfl rfl rfl rfl (ty := .array .boolean) (by decide +kernel) rfl rfl (Nat.le_of_ble_eq_true rfl) ?_
  show Vw p l e _ s m args below meth c 2 D cls A Q _ _ [(a, .inr (9, [.int 0, .int 0, .int 0, .ref q0, .ref q1, .int 0, .ref q2, .ref q3, .int 0, .ref q4, .ref q5, .ref q6, .ref q7, .ref q8, .int 0, .int 0, .ref q9, .ref q10, .int 0, .ref q11, .ref q12])), (q0, .inl (cA 0, (40, .inl (fun _ => 0)))), (q1, .inl (cA 1, (240, .inr (.inl (fun _ => 0))))), (q2, .inl (cA 1, (30, .inr (.inl (fun _ => 0))))), (q3, .inl (cA 0, (12, .inl (fun _ => 0)))), (q4, .inl (cA 0, (16, .inl (fun _ => 0)))), (q5, .inl (cA 0, (16, .inl (fun _ => 0)))), (q6, .inl (cA 0, (16, .inl (fun _ => 0)))), (q7, .inl (cA 1, (36, .inr (.inl (fun _ => 0))))), (q8, .inl (cA 0, (120, .inl (fun _ => 0)))), (q9, .inl (cA 0, (12, .inl (fun _ => 0)))), (q10, .inl (cA 0, (12, .inl (fun _ => 0)))), (q11, .inl (cA 0, (45056, .inl (fun _ => 0)))), (q12, .inl (cA 2, (4096, .inl (fun _ => 0))))] 110 _ _
  show Vw p l e _ s m args below meth c 2 D cls A Q _ _ (Wd slM cA (adL [a, q0, q1, q2, q3, q4, q5, q6, q7, q8, q9, q10, q11, q12]) h00) 110 ([some (.ref 0), none].map (Option.map (cv (adL [a, q0, q1, q2, q3, q4, q5, q6, q7, q8, q9, q10, q11, q12])))) (([] : List Value).map (cv (adL [a, q0, q1, q2, q3, q4, q5, q6, q7, q8, q9, q10, q11, q12])))
  refine Vw_Vt ?_
  generalize hcc : 0 + 1 + 1 + 1 + 1 + 1 + 1 + 1 + 1 + 1 + 1 + 1 + 1 + 1 = CC
  generalize hss : 0 + 40 + 240 + 30 + 12 + 16 + 16 + 16 + 36 + 120 + 12 + 12 + 45056 + 4096 = SS
  generalize hV : Vt p l e (rmN 1 13 49702) s m args below meth c 2 (adL [a, q0, q1, q2, q3, q4, q5, q6, q7, q8, q9, q10, q11, q12]) D cls slM cA A CC SS Q = V
  have G : Gd slM T_Mo_init V := by rw [← hV]; exact Vt_Gd C0
  repeat (first | refine G.sx (fun _ => false) rfl rfl rfl ?_ | refine G.gox (fun _ => false) rfl rfl rfl ?_ | refine G.getx (fun _ => false) rfl rfl rfl rfl ?_)
  refine G.lasn (q := 0) rfl rfl (by omega) (by decide) ?_
  repeat (first | refine G.sx (fun _ => false) rfl rfl rfl ?_ | refine G.gox (fun _ => false) rfl rfl rfl ?_ | refine G.getx (fun _ => false) rfl rfl rfl rfl ?_)
  refine G.lasn (q := 3) rfl rfl (by omega) (by decide) ?_
  repeat (first | refine G.sx (fun _ => false) rfl rfl rfl ?_ | refine G.gox (fun _ => false) rfl rfl rfl ?_ | refine G.getx (fun _ => false) rfl rfl rfl rfl ?_)
  refine G.lasn (q := 7) rfl rfl (by omega) (by decide) ?_
  repeat (first | refine G.sx (fun _ => false) rfl rfl rfl ?_ | refine G.gox (fun _ => false) rfl rfl rfl ?_ | refine G.getx (fun _ => false) rfl rfl rfl rfl ?_)
  refine G.lasn (q := 10) rfl rfl (by omega) (by decide) ?_
  repeat (first | refine G.sx (fun _ => false) rfl rfl rfl ?_ | refine G.gox (fun _ => false) rfl rfl rfl ?_ | refine G.getx (fun _ => false) rfl rfl rfl rfl ?_)
  refine G.lasn (q := 14) rfl rfl (by omega) (by decide) ?_
  repeat (first | refine G.sx (fun _ => false) rfl rfl rfl ?_ | refine G.gox (fun _ => false) rfl rfl rfl ?_ | refine G.getx (fun _ => false) rfl rfl rfl rfl ?_)
  refine G.lasn (q := 17) rfl rfl (by omega) (by decide) ?_
  rw [← hV]
  exact Vt_Vw (RT (by omega) (by omega) rfl ⟨[q0, q1, q2, q3, q4, q5, q6, q7, q8, q9, q10, q11, q12], rfl, rfl⟩)
end InB
