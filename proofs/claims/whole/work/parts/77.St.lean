/-! THE START: what the tables and the Statement give of it -/
section STA
theorem tbm {w : Cond} (n : Nat) (h : tables_1[n]? = some w) : w ∈ lw_tbl := List.mem_append_right _ (List.mem_of_getElem? h)
variable {ar : Array Value} {s : State}
theorem tx_R (hts : ∀ w ∈ lw_tbl, w.before ar s = true) {cur : ClassId} (hcur : s.vm.findClass "TogetherOrders" = some cur) {k n : Nat} {tx : String} (h : tables_1[n]? = some (.stringRef "TogetherOrders" k tx)) : ∃ (tx : String) (a : Nat), vk_R "TogetherOrders" k tx a s := by
  have h1 := hts _ (tbm n h)
  obtain ⟨kk, cf, j, a, hk, -, -, -, hr, hev⟩ := Cond.stringRef_spec hcur h1
  exact ⟨tx, a, vk_R.of h1 hev⟩
theorem st_cur (hts : ∀ w ∈ lw_tbl, w.before ar s = true) : ∃ cur, s.vm.findClass "TogetherOrders" = some cur := by
  obtain ⟨cC, kC, hfc, -⟩ := Cond.instantiable_spec (hts (.instantiable "TogetherOrders" 9) (tbm 21 (by decide +kernel)))
  exact ⟨cC, hfc⟩
theorem st_str (hts : ∀ w ∈ lw_tbl, w.before ar s = true) : ∀ k ∈ strK, ∃ (tx : String) (a : Nat), vk_R "TogetherOrders" k tx a s := by
  obtain ⟨cur, hcur⟩ := st_cur hts
  intro k hk
  simp only [strK, List.mem_cons, List.not_mem_nil, or_false] at hk
  rcases hk with rfl | rfl | rfl | rfl | rfl | rfl | rfl | rfl | rfl | rfl | rfl | rfl | rfl | rfl | rfl | rfl | rfl | rfl | rfl | rfl
  · exact tx_R hts hcur (n := 378) (k := 81) (by decide +kernel : tables_1[378]? = some (Jvm.Cond.stringRef "TogetherOrders" (81 : Nat) "no room for a part"))
  · exact tx_R hts hcur (n := 442) (k := 97) (by decide +kernel : tables_1[442]? = some (Jvm.Cond.stringRef "TogetherOrders" (97 : Nat) "no room for a box"))
  · exact tx_R hts hcur (n := 457) (k := 105) (by decide +kernel : tables_1[457]? = some (Jvm.Cond.stringRef "TogetherOrders" (105 : Nat) "a place is not -1000000 .. 1000000"))
  · exact tx_R hts hcur (n := 467) (k := 111) (by decide +kernel : tables_1[467]? = some (Jvm.Cond.stringRef "TogetherOrders" (111 : Nat) "a size is not 1 .. 1000000"))
  · exact tx_R hts hcur (n := 483) (k := 123) (by decide +kernel : tables_1[483]? = some (Jvm.Cond.stringRef "TogetherOrders" (123 : Nat) "no such box"))
  · exact tx_R hts hcur (n := 501) (k := 133) (by decide +kernel : tables_1[501]? = some (Jvm.Cond.stringRef "TogetherOrders" (133 : Nat) "a slant is not -1000 .. 1000"))
  · exact tx_R hts hcur (n := 502) (k := 135) (by decide +kernel : tables_1[502]? = some (Jvm.Cond.stringRef "TogetherOrders" (135 : Nat) "a slant goes nowhere"))
  · exact tx_R hts hcur (n := 541) (k := 150) (by decide +kernel : tables_1[541]? = some (Jvm.Cond.stringRef "TogetherOrders" (150 : Nat) "no such direction"))
  · exact tx_R hts hcur (n := 542) (k := 152) (by decide +kernel : tables_1[542]? = some (Jvm.Cond.stringRef "TogetherOrders" (152 : Nat) "a bit of no part"))
  · exact tx_R hts hcur (n := 564) (k := 177) (by decide +kernel : tables_1[564]? = some (Jvm.Cond.stringRef "TogetherOrders" (177 : Nat) "no such step"))
  · exact tx_R hts hcur (n := 565) (k := 179) (by decide +kernel : tables_1[565]? = some (Jvm.Cond.stringRef "TogetherOrders" (179 : Nat) "what is not 0 .. 2"))
  · exact tx_R hts hcur (n := 652) (k := 211) (by decide +kernel : tables_1[652]? = some (Jvm.Cond.stringRef "TogetherOrders" (211 : Nat) "depth is not 0 .. 2"))
  · exact tx_R hts hcur (n := 692) (k := 216) (by decide +kernel : tables_1[692]? = some (Jvm.Cond.stringRef "TogetherOrders" (216 : Nat) "n is not 1 .. 12"))
  · exact tx_R hts hcur (n := 732) (k := 227) (by decide +kernel : tables_1[732]? = some (Jvm.Cond.stringRef "TogetherOrders" (227 : Nat) "minutes are not 0 .. 1000"))
  · exact tx_R hts hcur (n := 752) (k := 251) (by decide +kernel : tables_1[752]? = some (Jvm.Cond.stringRef "TogetherOrders" (251 : Nat) "reach is below 0"))
  · exact tx_R hts hcur (n := 435) (k := 261) (by decide +kernel : tables_1[435]? = some (Jvm.Cond.stringRef "TogetherOrders" (261 : Nat) "no such part"))
  · exact tx_R hts hcur (n := 518) (k := 263) (by decide +kernel : tables_1[518]? = some (Jvm.Cond.stringRef "TogetherOrders" (263 : Nat) "both parts are the same"))
  · exact tx_R hts hcur (n := 589) (k := 265) (by decide +kernel : tables_1[589]? = some (Jvm.Cond.stringRef "TogetherOrders" (265 : Nat) "k is below 0"))
  · exact tx_R hts hcur (n := 562) (k := 267) (by decide +kernel : tables_1[562]? = some (Jvm.Cond.stringRef "TogetherOrders" (267 : Nat) "it was not run"))
  · exact tx_R hts hcur (n := 563) (k := 269) (by decide +kernel : tables_1[563]? = some (Jvm.Cond.stringRef "TogetherOrders" (269 : Nat) "some are locked"))
theorem st_tab (hgv : (Jvm.Cond.and given_1 narrow_1).before ar s = true) (hts : ∀ w ∈ lw_tbl, w.before ar s = true) : ∃ z1 z2 : Nat, ∀ ad : Nat → Nat, ad 63 = z1 → ad 64 = z2 → StT ad (fun q => s.heap.size ≤ q) s s.heap := by
  have hA : ∀ a : Nat, a < s.heap.size → ¬ (fun q => s.heap.size ≤ q) a := fun a h1 h2 => Nat.lt_irrefl _ (Nat.lt_of_lt_of_le h1 h2)
  have fl := flat_of_before _ hgv
  have ini := hts (.initialized "TogetherOrders") (tbm 1 (by decide +kernel))
  obtain ⟨z1, e1, t1⟩ := va_Tof (N := 6) (f := fun j => .int (mvC j)) (ty := .int) (A := fun q => s.heap.size ≤ q) (tm := .static "TogetherOrders" "MOVE_CELLS" "[I") (by decide) (fl _ (by decide +kernel)) (va_eqt (fl _ (by decide +kernel))) (fun j hj => by
    match j, hj with
    | 0, _ => exact va_eqt (fl _ (by decide +kernel))
    | 1, _ => exact va_eqt (fl _ (by decide +kernel))
    | 2, _ => exact va_eqt (fl _ (by decide +kernel))
    | 3, _ => exact va_eqt (fl _ (by decide +kernel))
    | 4, _ => exact va_eqt (fl _ (by decide +kernel))
    | 5, _ => exact va_eqt (fl _ (by decide +kernel))
    | n + 6, h => omega) hA
  obtain ⟨z2, e2, t2⟩ := va_Tof (N := 3) (f := fun j => .int (shW j)) (ty := .int) (A := fun q => s.heap.size ≤ q) (tm := .static "TogetherOrders" "SHIFTS_WITHIN" "[I") (by decide) (fl _ (by decide +kernel)) (va_eqt (fl _ (by decide +kernel))) (fun j hj => by
    match j, hj with
    | 0, _ => exact va_eqt (fl _ (by decide +kernel))
    | 1, _ => exact va_eqt (fl _ (by decide +kernel))
    | 2, _ => exact va_eqt (fl _ (by decide +kernel))
    | n + 3, h => omega) hA
  refine ⟨z1, z2, fun ad a1 a2 => ?_⟩
  unfold StT
  rw [a1, a2]
  exact ⟨va_Zref (hts _ (tbm 684 (by decide +kernel))) ini e1 hA, t1, va_Zref (hts _ (tbm 278 (by decide +kernel))) ini e2 hA, t2, va_Nw.of rfl (hts _ (tbm 277 (by decide +kernel))), va_Nw.of rfl (hts _ (tbm 683 (by decide +kernel)))⟩
theorem st_zTh (n d : String) (hl : (Cond.laysStatic Bundle.tN n d).before ar s = true) (hr : (Cond.isRef (.static Bundle.tN n d)).before ar s = true) : zTh n d (fun q => s.heap.size ≤ q) s s.heap := by
  obtain ⟨c, k, i, f, a, cell, h1, h2, h3, h4, h5, h6, h7, h8, h9⟩ := Cond.laysStatic_spec hl
  cases hv : (Term.static Bundle.tN n d).eval ar s none [] s with
  | none => simp [Cond.before, Cond.holds, Cond.value, hv] at hr
  | some w =>
    obtain ⟨-, a', cell', q1, q2, q3, q4⟩ := Term.static_spec h2 hv
    rw [h4] at q1
    cases q1
    rw [h5] at q2
    cases q2
    refine ⟨c, k, i, f, a, cell, w, h1, h2, h3, h4, h9, h5, h6, h7, h8, q4, ?_, fun z => Nat.lt_irrefl _ (Nat.lt_of_lt_of_le (Array.getElem?_eq_some_iff.mp h5).1 z)⟩
    simp only [Cond.before, Cond.holds, Cond.value, hv] at hr
    cases w <;> first | rfl | simp at hr
theorem st_StX (hgv : (Jvm.Cond.and given_1 narrow_1).before ar s = true) (hts : ∀ w ∈ lw_tbl, w.before ar s = true) : ∃ z1 z2 : Nat, ∀ ad : Nat → Nat, ad 63 = z1 → ad 64 = z2 → StX ad (fun q => s.heap.size ≤ q) s s.heap := by
  obtain ⟨z1, z2, hz⟩ := st_tab hgv hts
  have fl := flat_of_before _ hgv
  refine ⟨z1, z2, fun ad a1 a2 => ⟨hz ad a1 a2, st_zTh _ _ (hts _ (tbm 364 (by decide +kernel))) (fl _ (by decide +kernel)), st_zTh _ _ (hts _ (tbm 366 (by decide +kernel))) (fl _ (by decide +kernel)), fun E hE => ?_, ⟨va_Nw.of rfl (hts _ (tbm 341 (by decide +kernel))), va_Nw.of rfl (hts _ (tbm 343 (by decide +kernel))), va_Nw.of rfl (hts _ (tbm 345 (by decide +kernel)))⟩, st_str hts⟩⟩
  match E, hE with
  | 0, _ => exact va_Nw.of rfl (hts (.castable "java/lang/IllegalStateException" "java/lang/IllegalStateException") (tbm 339 (by decide +kernel)))
  | 1, _ => exact va_Nw.of rfl (hts (.castable "java/lang/IndexOutOfBoundsException" "java/lang/IndexOutOfBoundsException") (tbm 428 (by decide +kernel)))
  | 2, _ => exact va_Nw.of rfl (hts (.castable "java/lang/IllegalArgumentException" "java/lang/IllegalArgumentException") (tbm 450 (by decide +kernel)))
  | n + 3, h => omega
theorem st_nc1 {a b : String} (h : (Cond.not (.castable a b)).before ar s = true) {c c' : ClassId} (hc : s.vm.findClass a = some c) (hc' : s.vm.findClass b = some c') : s.vm.assignable c c' = false := by
  have h2 := Cond.holds_not_iff.mp h
  simpa [Cond.value, hc, hc'] using h2
theorem st_NC (hgv : (Jvm.Cond.and given_1 narrow_1).before ar s = true) : NC s := by
  have fl := flat_of_before _ hgv
  intro E E' h1 h2 h3 c c' hc hc'
  match E, E', h1, h2, h3, hc, hc' with
  | 0, 1, _, _, _, hc, hc' => exact st_nc1 (fl (.not (.castable "java/lang/IllegalStateException" "java/lang/IndexOutOfBoundsException")) (by decide +kernel)) hc hc'
  | 0, 2, _, _, _, hc, hc' => exact st_nc1 (fl (.not (.castable "java/lang/IllegalStateException" "java/lang/IllegalArgumentException")) (by decide +kernel)) hc hc'
  | 1, 0, _, _, _, hc, hc' => exact st_nc1 (fl (.not (.castable "java/lang/IndexOutOfBoundsException" "java/lang/IllegalStateException")) (by decide +kernel)) hc hc'
  | 1, 2, _, _, _, hc, hc' => exact st_nc1 (fl (.not (.castable "java/lang/IndexOutOfBoundsException" "java/lang/IllegalArgumentException")) (by decide +kernel)) hc hc'
  | 2, 0, _, _, _, hc, hc' => exact st_nc1 (fl (.not (.castable "java/lang/IllegalArgumentException" "java/lang/IllegalStateException")) (by decide +kernel)) hc hc'
  | 2, 1, _, _, _, hc, hc' => exact st_nc1 (fl (.not (.castable "java/lang/IllegalArgumentException" "java/lang/IndexOutOfBoundsException")) (by decide +kernel)) hc hc'
  | 0, 0, _, _, h3, _, _ => exact absurd rfl h3
  | 1, 1, _, _, h3, _, _ => exact absurd rfl h3
  | 2, 2, _, _, h3, _, _ => exact absurd rfl h3
  | n + 3, _, h, _, _, _, _ => omega
  | 0, n + 3, _, h, _, _, _ => omega
  | 1, n + 3, _, h, _, _, _ => omega
  | 2, n + 3, _, h, _, _, _ => omega
theorem st_AO (hts : ∀ w ∈ lw_tbl, w.before ar s = true) : va_AOA .long s ∧ va_AOA .int s := by
  refine ⟨?_, ?_⟩
  · show (Cond.arrayOver (.array .long)).before #[] s = true
    rw [← ao_vm (A := ar) rfl]
    exact hts _ (tbm 53 (by decide +kernel))
  · show (Cond.arrayOver (.array .int)).before #[] s = true
    rw [← ao_vm (A := ar) rfl]
    exact hts _ (tbm 123 (by decide +kernel))
theorem st_wg (hts : ∀ w ∈ lw_tbl, w.before ar s = true) : ∀ w ∈ wg, w.before ar s = true := fun w hw => hts w (List.mem_filter.mp hw).1
theorem st_K (hts : ∀ w ∈ lw_tbl, w.before ar s = true) : ∃ (D : va_G) (cA : Nat → ClassId), va_K D cls (tysOf cA) s := by
  have hw := st_wg hts
  obtain ⟨a0, b0, k0⟩ := u_known hw inK0 (hts (.instantiable RK0 9) (tbm 21 (by decide +kernel)))
  obtain ⟨a1, b1, k1⟩ := u_known hw inK1 (hts (.instantiable RK1 2) (tbm 29 (by decide +kernel)))
  obtain ⟨a2, b2, k2⟩ := u_known hw inK2 (hts (.instantiable RK2 4) (tbm 47 (by decide +kernel)))
  obtain ⟨a3, b3, k3⟩ := u_known hw inK3 (hts (.instantiable RK3 2) (tbm 74 (by decide +kernel)))
  obtain ⟨a4, b4, k4⟩ := u_known hw inK4 (hts (.instantiable RK4 4) (tbm 93 (by decide +kernel)))
  obtain ⟨a5, b5, k5⟩ := u_known hw inK5 (hts (.instantiable RK5 7) (tbm 116 (by decide +kernel)))
  obtain ⟨a6, b6, k6⟩ := u_known hw inK6 (hts (.instantiable RK6 7) (tbm 150 (by decide +kernel)))
  obtain ⟨a7, b7, k7⟩ := u_known hw inK7 (hts (.instantiable RK7 8) (tbm 182 (by decide +kernel)))
  obtain ⟨a8, b8, k8⟩ := u_known hw inK8 (hts (.instantiable RK8 6) (tbm 213 (by decide +kernel)))
  obtain ⟨a9, b9, k9⟩ := u_known hw inK9 (hts (.instantiable RK9 21) (tbm 770 (by decide +kernel)))
  obtain ⟨c0, q0, m0, f0, g0, e0⟩ := Cond.arrayClass_spec (hts (.arrayClass .int) (tbm 45 (by decide +kernel)))
  obtain ⟨c1, q1, m1, f1, g1, e1⟩ := Cond.arrayClass_spec (hts (.arrayClass .long) (tbm 72 (by decide +kernel)))
  obtain ⟨c2, q2, m2, f2, g2, e2⟩ := Cond.arrayClass_spec (hts (.arrayClass .boolean) (tbm 841 (by decide +kernel)))
  obtain ⟨m3, c3, q3, -, g3, e3, f3⟩ := Cond.arrayOver_specA (hts (.arrayOver (.array .long)) (tbm 53 (by decide +kernel)))
  obtain ⟨m4, c4, q4, -, g4, e4, f4⟩ := Cond.arrayOver_specA (hts (.arrayOver (.array .int)) (tbm 123 (by decide +kernel)))
  refine ⟨(fun i => [a0, a1, a2, a3, a4, a5, a6, a7, a8, a9].getD i a0, fun i => [b0, b1, b2, b3, b4, b5, b6, b7, b8, b9].getD i b0), fun i => [c0, c1, c2, c3, c4].getD i c0, fun c q h => ?_, fun k q h => ?_⟩
  · match c, h with
    | 0, h => cases h; exact k0
    | 1, h => cases h; exact k1
    | 2, h => cases h; exact k2
    | 3, h => cases h; exact k3
    | 4, h => cases h; exact k4
    | 5, h => cases h; exact k5
    | 6, h => cases h; exact k6
    | 7, h => cases h; exact k7
    | 8, h => cases h; exact k8
    | 9, h => cases h; exact k9
    | n + 10, h => cases h
  · match k, h with
    | 0, h => cases h; exact ⟨fun n z => ⟨fun k h => (by cases h), q0, g0, m0, e0⟩, f0⟩
    | 1, h => cases h; exact ⟨fun n z => ⟨fun k h => (by cases h), q1, g1, m1, e1⟩, f1⟩
    | 2, h => cases h; exact ⟨fun n z => ⟨fun k h => (by cases h), q2, g2, m2, e2⟩, f2⟩
    | 3, h => cases h; exact ⟨fun n z => ⟨fun k h => (by cases h), q3, g3, m3, e3⟩, f3⟩
    | 4, h => cases h; exact ⟨fun n z => ⟨fun k h => (by cases h), q4, g4, m4, e4⟩, f4⟩
    | n + 5, h => cases h
end STA

