/-! THE CONSTRUCTORS (printed by wip/gen/mk67.py) -/
section InA
theorem MZl (c : ClassId) (M : Nat) : Jvm.Free.Multi.innerC c M (defaultValue .long) = vp_cell c (M, .inr (.inl (fun _ => 0))) := arrV_new _ _ _
theorem MZi (c : ClassId) (M : Nat) : Jvm.Free.Multi.innerC c M (defaultValue .int) = vp_cell c (M, .inl (fun _ => 0)) := arrV_new _ _ _
set_option maxRecDepth 4000 in
set_option maxHeartbeats 1000000 in
theorem n_It_init (l : Launch) (D : va_G) (cA : Nat → ClassId) (a : Nat) : CtN l y_It_init prog_5_method_1_code 1 1 1 12 D cls cA [.ref a] [(a, .inr (1, [.int 0, .null]))] (fun w1 => ∃ q0, w1 = [(a, .inr (1, [.int 0, .ref q0])), (q0, .inl (cA 0, 12, .inl (fun _ => 0)))]) := by
  refine CtN_of (tl := T_It_init) (by decide) rfl tk_It_init cls_ok (Nat.le_of_ble_eq_true rfl) ?_
  intro p e s m args below meth c A Q C0 hml hin hA ha1 ha2 RT
  refine Vw_s C0 rfl rfl ?_
  refine Vw_obj C0 hml rfl (wg_in 33 (by decide +kernel) rfl) (wg_in 26 (by decide +kernel) rfl) (wg_in 27 (by decide +kernel) rfl) (Nat.le_of_ble_eq_true rfl) (Nat.le_of_ble_eq_true rfl) (Nat.le_of_ble_eq_true rfl) ?_
  refine Vw_s C0 rfl rfl ?_
  refine Vw_s C0 rfl rfl ?_
  refine Vw_put C0 hin (q0 := 0) rfl rfl rfl rfl (ty := .int) (by decide +kernel) rfl rfl (Nat.le_of_ble_eq_true rfl) ?_
  refine Vw_s C0 rfl rfl ?_
  refine Vw_s C0 rfl rfl ?_
  refine Vw_newa C0 hA (at0 := .int) (ty := .int) (t0 := 0) (N := 12) (a0 := (12, .inl (fun _ => 0))) rfl rfl rfl (fun C h => by cases h) (wg_in 45 (by decide +kernel) rfl) (fun _ => rfl) (by omega) (Nat.le_of_ble_eq_true rfl) (Nat.le_of_ble_eq_true rfl) (Nat.le_of_ble_eq_true rfl) (fun q0 => ?_)
  refine Vw_put C0 hin (q0 := 0) rfl rfl rfl rfl (ty := .array .int) (by decide +kernel) rfl rfl (Nat.le_of_ble_eq_true rfl) ?_
  exact RT (Nat.le_of_ble_eq_true rfl) (Nat.le_of_ble_eq_true rfl) rfl ⟨q0, rfl⟩
set_option maxRecDepth 4000 in
set_option maxHeartbeats 1000000 in
theorem n_Bx_init (l : Launch) (D : va_G) (cA : Nat → ClassId) (a : Nat) : CtN l y_Bx_init prog_3_method_1_code 1 1 9 286 D cls cA [.ref a] [(a, .inr (2, [.int 0, .null, .null, .null]))] (fun w1 => ∃ q0 q1 r1 q2 r2, w1 = [(a, .inr (2, [.int 0, .ref q0, .ref q1, .ref q2])), (q0, .inl (cA 0, 40, .inl (fun _ => 0))), (q1, .inl (cA 3, RF 3 r1)), (r1 0, .inl (cA 1, 40, .inr (.inl (fun _ => 0)))), (r1 1, .inl (cA 1, 40, .inr (.inl (fun _ => 0)))), (r1 2, .inl (cA 1, 40, .inr (.inl (fun _ => 0)))), (q2, .inl (cA 3, RF 3 r2)), (r2 0, .inl (cA 1, 40, .inr (.inl (fun _ => 0)))), (r2 1, .inl (cA 1, 40, .inr (.inl (fun _ => 0)))), (r2 2, .inl (cA 1, 40, .inr (.inl (fun _ => 0))))]) := by
  refine CtN_of (tl := T_Bx_init) (by decide) rfl tk_Bx_init cls_ok (Nat.le_of_ble_eq_true rfl) ?_
  intro p e s m args below meth c A Q C0 hml hin hA ha1 ha2 RT
  refine Vw_s C0 rfl rfl ?_
  refine Vw_obj C0 hml rfl (wg_in 51 (by decide +kernel) rfl) (wg_in 26 (by decide +kernel) rfl) (wg_in 27 (by decide +kernel) rfl) (Nat.le_of_ble_eq_true rfl) (Nat.le_of_ble_eq_true rfl) (Nat.le_of_ble_eq_true rfl) ?_
  refine Vw_s C0 rfl rfl ?_
  refine Vw_s C0 rfl rfl ?_
  refine Vw_put C0 hin (q0 := 0) rfl rfl rfl rfl (ty := .int) (by decide +kernel) rfl rfl (Nat.le_of_ble_eq_true rfl) ?_
  refine Vw_s C0 rfl rfl ?_
  refine Vw_s C0 rfl rfl ?_
  refine Vw_newa C0 hA (at0 := .int) (ty := .int) (t0 := 0) (N := 40) (a0 := (40, .inl (fun _ => 0))) rfl rfl rfl (fun C h => by cases h) (wg_in 45 (by decide +kernel) rfl) (fun _ => rfl) (by omega) (Nat.le_of_ble_eq_true rfl) (Nat.le_of_ble_eq_true rfl) (Nat.le_of_ble_eq_true rfl) (fun q0 => ?_)
  refine Vw_put C0 hin (q0 := 0) rfl rfl rfl rfl (ty := .array .int) (by decide +kernel) rfl rfl (Nat.le_of_ble_eq_true rfl) ?_
  refine Vw_s C0 rfl rfl ?_
  refine Vw_s C0 rfl rfl ?_
  refine Vw_s C0 rfl rfl ?_
  refine Vw_mna C0 hA (ty := .long) (t0 := 1) (t1 := 3) (N := 3) (M := 40) (z := (40, .inr (.inl (fun _ => 0)))) rfl rfl rfl (fun C h => by cases h) (wg_in 72 (by decide +kernel) rfl) (wg_in 52 (by decide +kernel) rfl) ha1 rfl (by omega) (by omega) (Nat.le_of_ble_eq_true rfl) (Nat.le_of_ble_eq_true rfl) (Nat.le_of_ble_eq_true rfl) rfl rfl (fun _ => MZl _ 40) (Nat.le_of_ble_eq_true rfl) (Nat.le_of_ble_eq_true rfl) (fun q1 r1 => ?_)
  refine Vw_put C0 hin (q0 := 0) rfl rfl rfl rfl (ty := .array (.array .long)) (by decide +kernel) rfl rfl (Nat.le_of_ble_eq_true rfl) ?_
  refine Vw_s C0 rfl rfl ?_
  refine Vw_s C0 rfl rfl ?_
  refine Vw_s C0 rfl rfl ?_
  refine Vw_mna C0 hA (ty := .long) (t0 := 1) (t1 := 3) (N := 3) (M := 40) (z := (40, .inr (.inl (fun _ => 0)))) rfl rfl rfl (fun C h => by cases h) (wg_in 72 (by decide +kernel) rfl) (wg_in 52 (by decide +kernel) rfl) ha1 rfl (by omega) (by omega) (Nat.le_of_ble_eq_true rfl) (Nat.le_of_ble_eq_true rfl) (Nat.le_of_ble_eq_true rfl) rfl rfl (fun _ => MZl _ 40) (Nat.le_of_ble_eq_true rfl) (Nat.le_of_ble_eq_true rfl) (fun q2 r2 => ?_)
  refine Vw_put C0 hin (q0 := 0) rfl rfl rfl rfl (ty := .array (.array .long)) (by decide +kernel) rfl rfl (Nat.le_of_ble_eq_true rfl) ?_
  exact RT (Nat.le_of_ble_eq_true rfl) (Nat.le_of_ble_eq_true rfl) rfl ⟨q0, q1, r1, q2, r2, rfl⟩
set_option maxRecDepth 4000 in
set_option maxHeartbeats 1000000 in
theorem n_Gl_init (l : Launch) (D : va_G) (cA : Nat → ClassId) (a : Nat) : CtN l y_Gl_init prog_4_method_1_code 1 1 3 48 D cls cA [.ref a] [(a, .inr (4, [.int 0, .null, .null, .null]))] (fun w1 => ∃ q0 q1 q2, w1 = [(a, .inr (4, [.int 0, .ref q0, .ref q1, .ref q2])), (q0, .inl (cA 0, 16, .inl (fun _ => 0))), (q1, .inl (cA 0, 16, .inl (fun _ => 0))), (q2, .inl (cA 0, 16, .inl (fun _ => 0)))]) := by
  refine CtN_of (tl := T_Gl_init) (by decide) rfl tk_Gl_init cls_ok (Nat.le_of_ble_eq_true rfl) ?_
  intro p e s m args below meth c A Q C0 hml hin hA ha1 ha2 RT
  refine Vw_s C0 rfl rfl ?_
  refine Vw_obj C0 hml rfl (wg_in 97 (by decide +kernel) rfl) (wg_in 26 (by decide +kernel) rfl) (wg_in 27 (by decide +kernel) rfl) (Nat.le_of_ble_eq_true rfl) (Nat.le_of_ble_eq_true rfl) (Nat.le_of_ble_eq_true rfl) ?_
  refine Vw_s C0 rfl rfl ?_
  refine Vw_s C0 rfl rfl ?_
  refine Vw_put C0 hin (q0 := 0) rfl rfl rfl rfl (ty := .int) (by decide +kernel) rfl rfl (Nat.le_of_ble_eq_true rfl) ?_
  refine Vw_s C0 rfl rfl ?_
  refine Vw_s C0 rfl rfl ?_
  refine Vw_newa C0 hA (at0 := .int) (ty := .int) (t0 := 0) (N := 16) (a0 := (16, .inl (fun _ => 0))) rfl rfl rfl (fun C h => by cases h) (wg_in 45 (by decide +kernel) rfl) (fun _ => rfl) (by omega) (Nat.le_of_ble_eq_true rfl) (Nat.le_of_ble_eq_true rfl) (Nat.le_of_ble_eq_true rfl) (fun q0 => ?_)
  refine Vw_put C0 hin (q0 := 0) rfl rfl rfl rfl (ty := .array .int) (by decide +kernel) rfl rfl (Nat.le_of_ble_eq_true rfl) ?_
  refine Vw_s C0 rfl rfl ?_
  refine Vw_s C0 rfl rfl ?_
  refine Vw_newa C0 hA (at0 := .int) (ty := .int) (t0 := 0) (N := 16) (a0 := (16, .inl (fun _ => 0))) rfl rfl rfl (fun C h => by cases h) (wg_in 45 (by decide +kernel) rfl) (fun _ => rfl) (by omega) (Nat.le_of_ble_eq_true rfl) (Nat.le_of_ble_eq_true rfl) (Nat.le_of_ble_eq_true rfl) (fun q1 => ?_)
  refine Vw_put C0 hin (q0 := 0) rfl rfl rfl rfl (ty := .array .int) (by decide +kernel) rfl rfl (Nat.le_of_ble_eq_true rfl) ?_
  refine Vw_s C0 rfl rfl ?_
  refine Vw_s C0 rfl rfl ?_
  refine Vw_newa C0 hA (at0 := .int) (ty := .int) (t0 := 0) (N := 16) (a0 := (16, .inl (fun _ => 0))) rfl rfl rfl (fun C h => by cases h) (wg_in 45 (by decide +kernel) rfl) (fun _ => rfl) (by omega) (Nat.le_of_ble_eq_true rfl) (Nat.le_of_ble_eq_true rfl) (Nat.le_of_ble_eq_true rfl) (fun q2 => ?_)
  refine Vw_put C0 hin (q0 := 0) rfl rfl rfl rfl (ty := .array .int) (by decide +kernel) rfl rfl (Nat.le_of_ble_eq_true rfl) ?_
  exact RT (Nat.le_of_ble_eq_true rfl) (Nat.le_of_ble_eq_true rfl) rfl ⟨q0, q1, q2, rfl⟩
set_option maxRecDepth 4000 in
set_option maxHeartbeats 1000000 in
theorem n_Pl_init (l : Launch) (D : va_G) (cA : Nat → ClassId) (a b1 b2 : Nat) : CtN l y_Pl_init prog_6_method_1_code 3 1 3 36 D cls cA [.ref a, .ref b1, .ref b2] [(a, .inr (6, [.null, .null, .null, .null, .null, .int 0, .int 0]))] (fun w1 => ∃ q0 q1 q2, w1 = [(a, .inr (6, [.ref b1, .ref b2, .ref q0, .ref q1, .ref q2, .int 0, .int 0])), (q0, .inl (cA 0, 12, .inl (fun _ => 0))), (q1, .inl (cA 0, 12, .inl (fun _ => 0))), (q2, .inl (cA 0, 12, .inl (fun _ => 0)))]) := by
  refine CtN_of (tl := T_Pl_init) (by decide) rfl tk_Pl_init cls_ok (Nat.le_of_ble_eq_true rfl) ?_
  intro p e s m args below meth c A Q C0 hml hin hA ha1 ha2 RT
  refine Vw_s C0 rfl rfl ?_
  refine Vw_obj C0 hml rfl (wg_in 154 (by decide +kernel) rfl) (wg_in 26 (by decide +kernel) rfl) (wg_in 27 (by decide +kernel) rfl) (Nat.le_of_ble_eq_true rfl) (Nat.le_of_ble_eq_true rfl) (Nat.le_of_ble_eq_true rfl) ?_
  refine Vw_s C0 rfl rfl ?_
  refine Vw_s C0 rfl rfl ?_
  refine Vw_newa C0 hA (at0 := .int) (ty := .int) (t0 := 0) (N := 12) (a0 := (12, .inl (fun _ => 0))) rfl rfl rfl (fun C h => by cases h) (wg_in 45 (by decide +kernel) rfl) (fun _ => rfl) (by omega) (Nat.le_of_ble_eq_true rfl) (Nat.le_of_ble_eq_true rfl) (Nat.le_of_ble_eq_true rfl) (fun q0 => ?_)
  refine Vw_put C0 hin (q0 := 0) rfl rfl rfl rfl (ty := .array .int) (by decide +kernel) rfl rfl (Nat.le_of_ble_eq_true rfl) ?_
  refine Vw_s C0 rfl rfl ?_
  refine Vw_s C0 rfl rfl ?_
  refine Vw_newa C0 hA (at0 := .int) (ty := .int) (t0 := 0) (N := 12) (a0 := (12, .inl (fun _ => 0))) rfl rfl rfl (fun C h => by cases h) (wg_in 45 (by decide +kernel) rfl) (fun _ => rfl) (by omega) (Nat.le_of_ble_eq_true rfl) (Nat.le_of_ble_eq_true rfl) (Nat.le_of_ble_eq_true rfl) (fun q1 => ?_)
  refine Vw_put C0 hin (q0 := 0) rfl rfl rfl rfl (ty := .array .int) (by decide +kernel) rfl rfl (Nat.le_of_ble_eq_true rfl) ?_
  refine Vw_s C0 rfl rfl ?_
  refine Vw_s C0 rfl rfl ?_
  refine Vw_newa C0 hA (at0 := .int) (ty := .int) (t0 := 0) (N := 12) (a0 := (12, .inl (fun _ => 0))) rfl rfl rfl (fun C h => by cases h) (wg_in 45 (by decide +kernel) rfl) (fun _ => rfl) (by omega) (Nat.le_of_ble_eq_true rfl) (Nat.le_of_ble_eq_true rfl) (Nat.le_of_ble_eq_true rfl) (fun q2 => ?_)
  refine Vw_put C0 hin (q0 := 0) rfl rfl rfl rfl (ty := .array .int) (by decide +kernel) rfl rfl (Nat.le_of_ble_eq_true rfl) ?_
  refine Vw_s C0 rfl rfl ?_
  refine Vw_s C0 rfl rfl ?_
  refine Vw_put C0 hin (q0 := 0) rfl rfl rfl rfl (ty := .int) (by decide +kernel) rfl rfl (Nat.le_of_ble_eq_true rfl) ?_
  refine Vw_s C0 rfl rfl ?_
  refine Vw_s C0 rfl rfl ?_
  refine Vw_put C0 hin (q0 := 0) rfl rfl rfl rfl (ty := .int) (by decide +kernel) rfl rfl (Nat.le_of_ble_eq_true rfl) ?_
  refine Vw_s C0 rfl rfl ?_
  refine Vw_s C0 rfl rfl ?_
  refine Vw_put C0 hin (q0 := 0) rfl rfl rfl rfl (ty := .object "TogetherOrders$Items") (by decide +kernel) rfl rfl (Nat.le_of_ble_eq_true rfl) ?_
  refine Vw_s C0 rfl rfl ?_
  refine Vw_s C0 rfl rfl ?_
  refine Vw_put C0 hin (q0 := 0) rfl rfl rfl rfl (ty := .object "TogetherOrders$Bars") (by decide +kernel) rfl rfl (Nat.le_of_ble_eq_true rfl) ?_
  exact RT (Nat.le_of_ble_eq_true rfl) (Nat.le_of_ble_eq_true rfl) rfl ⟨q0, q1, q2, rfl⟩
set_option maxRecDepth 4000 in
set_option maxHeartbeats 1000000 in
theorem n_Se_init (l : Launch) (D : va_G) (cA : Nat → ClassId) (a b1 b2 b3 : Nat) : CtN l y_Se_init prog_7_method_1_code 4 1 2 76 D cls cA [.ref a, .ref b1, .ref b2, .ref b3] [(a, .inr (7, [.null, .null, .null, .null, .null, .int 0, .int 0, .int 0]))] (fun w1 => ∃ q0 q1, w1 = [(a, .inr (7, [.ref b1, .ref b2, .ref b3, .ref q0, .ref q1, .int 0, .int 0, .int 0])), (q0, .inl (cA 1, 64, .inr (.inl (fun _ => 0)))), (q1, .inl (cA 0, 12, .inl (fun _ => 0)))]) := by
  refine CtN_of (tl := T_Se_init) (by decide) rfl tk_Se_init cls_ok (Nat.le_of_ble_eq_true rfl) ?_
  intro p e s m args below meth c A Q C0 hml hin hA ha1 ha2 RT
  refine Vw_s C0 rfl rfl ?_
  refine Vw_obj C0 hml rfl (wg_in 186 (by decide +kernel) rfl) (wg_in 26 (by decide +kernel) rfl) (wg_in 27 (by decide +kernel) rfl) (Nat.le_of_ble_eq_true rfl) (Nat.le_of_ble_eq_true rfl) (Nat.le_of_ble_eq_true rfl) ?_
  refine Vw_s C0 rfl rfl ?_
  refine Vw_s C0 rfl rfl ?_
  refine Vw_newa C0 hA (at0 := .long) (ty := .long) (t0 := 1) (N := 64) (a0 := (64, .inr (.inl (fun _ => 0)))) rfl rfl rfl (fun C h => by cases h) (wg_in 72 (by decide +kernel) rfl) (fun _ => rfl) (by omega) (Nat.le_of_ble_eq_true rfl) (Nat.le_of_ble_eq_true rfl) (Nat.le_of_ble_eq_true rfl) (fun q0 => ?_)
  refine Vw_put C0 hin (q0 := 0) rfl rfl rfl rfl (ty := .array .long) (by decide +kernel) rfl rfl (Nat.le_of_ble_eq_true rfl) ?_
  refine Vw_s C0 rfl rfl ?_
  refine Vw_s C0 rfl rfl ?_
  refine Vw_newa C0 hA (at0 := .int) (ty := .int) (t0 := 0) (N := 12) (a0 := (12, .inl (fun _ => 0))) rfl rfl rfl (fun C h => by cases h) (wg_in 45 (by decide +kernel) rfl) (fun _ => rfl) (by omega) (Nat.le_of_ble_eq_true rfl) (Nat.le_of_ble_eq_true rfl) (Nat.le_of_ble_eq_true rfl) (fun q1 => ?_)
  refine Vw_put C0 hin (q0 := 0) rfl rfl rfl rfl (ty := .array .int) (by decide +kernel) rfl rfl (Nat.le_of_ble_eq_true rfl) ?_
  refine Vw_s C0 rfl rfl ?_
  refine Vw_s C0 rfl rfl ?_
  refine Vw_put C0 hin (q0 := 0) rfl rfl rfl rfl (ty := .boolean) (by decide +kernel) rfl rfl (Nat.le_of_ble_eq_true rfl) ?_
  refine Vw_s C0 rfl rfl ?_
  refine Vw_s C0 rfl rfl ?_
  refine Vw_put C0 hin (q0 := 0) rfl rfl rfl rfl (ty := .boolean) (by decide +kernel) rfl rfl (Nat.le_of_ble_eq_true rfl) ?_
  refine Vw_s C0 rfl rfl ?_
  refine Vw_s C0 rfl rfl ?_
  refine Vw_put C0 hin (q0 := 0) rfl rfl rfl rfl (ty := .int) (by decide +kernel) rfl rfl (Nat.le_of_ble_eq_true rfl) ?_
  refine Vw_s C0 rfl rfl ?_
  refine Vw_s C0 rfl rfl ?_
  refine Vw_put C0 hin (q0 := 0) rfl rfl rfl rfl (ty := .object "TogetherOrders$Items") (by decide +kernel) rfl rfl (Nat.le_of_ble_eq_true rfl) ?_
  refine Vw_s C0 rfl rfl ?_
  refine Vw_s C0 rfl rfl ?_
  refine Vw_put C0 hin (q0 := 0) rfl rfl rfl rfl (ty := .object "TogetherOrders$Ways") (by decide +kernel) rfl rfl (Nat.le_of_ble_eq_true rfl) ?_
  refine Vw_s C0 rfl rfl ?_
  refine Vw_s C0 rfl rfl ?_
  refine Vw_put C0 hin (q0 := 0) rfl rfl rfl rfl (ty := .object "TogetherOrders$Bars") (by decide +kernel) rfl rfl (Nat.le_of_ble_eq_true rfl) ?_
  exact RT (Nat.le_of_ble_eq_true rfl) (Nat.le_of_ble_eq_true rfl) rfl ⟨q0, q1, rfl⟩
set_option maxRecDepth 4000 in
set_option maxHeartbeats 1000000 in
theorem n_Sm_init (l : Launch) (D : va_G) (cA : Nat → ClassId) (a b1 b2 b3 : Nat) : CtN l y_Sm_init prog_8_method_1_code 4 1 1 12 D cls cA [.ref a, .ref b1, .ref b2, .ref b3] [(a, .inr (8, [.null, .null, .null, .null, .int 0, .int 0]))] (fun w1 => ∃ q0, w1 = [(a, .inr (8, [.ref b1, .ref b2, .ref b3, .ref q0, .int (-1), .int (-1)])), (q0, .inl (cA 0, 12, .inl (fun _ => 0)))]) := by
  refine CtN_of (tl := T_Sm_init) (by decide) rfl tk_Sm_init cls_ok (Nat.le_of_ble_eq_true rfl) ?_
  intro p e s m args below meth c A Q C0 hml hin hA ha1 ha2 RT
  refine Vw_s C0 rfl rfl ?_
  refine Vw_obj C0 hml rfl (wg_in 217 (by decide +kernel) rfl) (wg_in 26 (by decide +kernel) rfl) (wg_in 27 (by decide +kernel) rfl) (Nat.le_of_ble_eq_true rfl) (Nat.le_of_ble_eq_true rfl) (Nat.le_of_ble_eq_true rfl) ?_
  refine Vw_s C0 rfl rfl ?_
  refine Vw_s C0 rfl rfl ?_
  refine Vw_newa C0 hA (at0 := .int) (ty := .int) (t0 := 0) (N := 12) (a0 := (12, .inl (fun _ => 0))) rfl rfl rfl (fun C h => by cases h) (wg_in 45 (by decide +kernel) rfl) (fun _ => rfl) (by omega) (Nat.le_of_ble_eq_true rfl) (Nat.le_of_ble_eq_true rfl) (Nat.le_of_ble_eq_true rfl) (fun q0 => ?_)
  refine Vw_put C0 hin (q0 := 0) rfl rfl rfl rfl (ty := .array .int) (by decide +kernel) rfl rfl (Nat.le_of_ble_eq_true rfl) ?_
  refine Vw_s C0 rfl rfl ?_
  refine Vw_s C0 rfl rfl ?_
  refine Vw_put C0 hin (q0 := 0) rfl rfl rfl rfl (ty := .int) (by decide +kernel) rfl rfl (Nat.le_of_ble_eq_true rfl) ?_
  refine Vw_s C0 rfl rfl ?_
  refine Vw_s C0 rfl rfl ?_
  refine Vw_put C0 hin (q0 := 0) rfl rfl rfl rfl (ty := .int) (by decide +kernel) rfl rfl (Nat.le_of_ble_eq_true rfl) ?_
  refine Vw_s C0 rfl rfl ?_
  refine Vw_s C0 rfl rfl ?_
  refine Vw_put C0 hin (q0 := 0) rfl rfl rfl rfl (ty := .object "TogetherOrders$Items") (by decide +kernel) rfl rfl (Nat.le_of_ble_eq_true rfl) ?_
  refine Vw_s C0 rfl rfl ?_
  refine Vw_s C0 rfl rfl ?_
  refine Vw_put C0 hin (q0 := 0) rfl rfl rfl rfl (ty := .object "TogetherOrders$Ways") (by decide +kernel) rfl rfl (Nat.le_of_ble_eq_true rfl) ?_
  refine Vw_s C0 rfl rfl ?_
  refine Vw_s C0 rfl rfl ?_
  refine Vw_put C0 hin (q0 := 0) rfl rfl rfl rfl (ty := .object "TogetherOrders$Bars") (by decide +kernel) rfl rfl (Nat.le_of_ble_eq_true rfl) ?_
  exact RT (Nat.le_of_ble_eq_true rfl) (Nat.le_of_ble_eq_true rfl) rfl ⟨q0, rfl⟩
end InA
