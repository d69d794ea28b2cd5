/-! THE CONSTRUCTORS: Bars, with its table of shifts -/
section InC
variable {p : Program} {l : Launch} {e : Env} {R : Room} {s : State} {m : MethodId} {args : Array Value} {below : List Frame} {meth : Method} {c : Code} {cells slots : Nat} {Q : State → Prop} {cc : ByteArray} {own : String} {nL : Nat} {tl : List (Nat × RowE)} {D : va_G} {cl : List vw_C} {cA : Nat → ClassId} {A : Nat → Prop}
theorem Vt_abs {sl : List Sh} {ad : Nat → Nat} {h : Hp} (C0 : Cx p s m args c cc own wg nL tl D cl cA) (hml : c.maxLocals = nL) (hfr : 1 ≤ R.frames) (hlo : 40 ≤ R.locals) (hce : cells ≤ R.cells) (hsl : slots ≤ R.slots) {pc n nx tg x wd o : Nat} {k : Int32} {K : Int64} {lv : List (Option Value)} {v : Int32} {r : List Value} (h1 : lkT tl pc = some (.invokestatic o, n, nx, tg, x, wd, k, K)) (hlk : Cond.methodLink own o (mthY 0) ∈ wg) (hs8 : (r.map fun v => v.category).sum ≤ 8) (kk : Vt p l e R s m args below meth c nL ad D cl sl cA A cells slots Q nx lv (.int (abI v) :: r) h) : Vt p l e R s m args below meth c nL ad D cl sl cA A cells slots Q pc lv (.int v :: r) h := by
  intro ls H locs hl hP hD hS
  obtain ⟨hx, hb, hown, hts, htl, hK, hcl⟩ := C0
  obtain ⟨hdg, hc, -⟩ := rowOk_s htl h1
  simp only [ckE, Bool.and_eq_true, beq_iff_eq] at hc
  obtain ⟨rfl, rfl⟩ := hc
  have hml2 : c.maxLocals = ls.size := hml.trans hl.1.1.symm
  have k1 := kk ls H locs hl hP hD hS
  have r8 : ((r.map (cv ad)).map fun v => v.category).sum ≤ 8 := by rw [cat_map]; exact hs8
  exact va_mabs hx hb hml2 hown (hts _ hlk) (hts _ mw_0s) (hts _ mw_i) (hts _ mw_0c) (by omega) (by omega) hce hsl hdg k1
def slB : List Sh := [.inl (5, [35, 36, 37, 4, 5, 9, 0]), .inr (125, 0, 0), .inr (3, 3, 3), .inr (25, 1, 0), .inr (25, 1, 0), .inr (25, 1, 0), .inr (25, 4, 7), .inr (132, 0, 0), .inr (132, 0, 0), .inr (132, 0, 0), .inr (132, 0, 0), .inr (132, 0, 0), .inr (132, 0, 0), .inr (132, 0, 0), .inr (132, 0, 0), .inr (132, 0, 0), .inr (132, 0, 0), .inr (132, 0, 0), .inr (132, 0, 0), .inr (132, 0, 0), .inr (132, 0, 0), .inr (132, 0, 0), .inr (132, 0, 0), .inr (132, 0, 0), .inr (132, 0, 0), .inr (132, 0, 0), .inr (132, 0, 0), .inr (132, 0, 0), .inr (132, 0, 0), .inr (132, 0, 0), .inr (132, 0, 0), .inr (132, 0, 0)]
def sN (len q : Nat) : Nat := ((List.range 125).filter (fun p => decide (lenQ p < len ∨ lenQ p = len ∧ p < q))).length
set_option maxRecDepth 100000 in
theorem sN_1 : ∀ len : Fin 3, ∀ q : Fin 125, sN len.val (q.val + 1) = (if lenQ q.val = len.val then sN len.val q.val + 1 else sN len.val q.val) ∧ sN len.val q.val ≤ 25 ∧ (lenQ q.val = len.val → sN len.val q.val = scF q.val ∧ scF q.val < 25) := by decide +kernel
set_option maxRecDepth 100000 in
theorem sN_2 : sN 0 0 = 0 ∧ sN 1 0 = sN 0 125 ∧ sN 2 0 = sN 1 125 ∧ (∀ len : Fin 2, ∀ q : Fin 126, sN len.val q.val < 25) ∧ sN 2 125 = 25 := by decide +kernel
set_option maxRecDepth 100000 in
theorem sN_3 : ∀ q : Fin 126, 25 ≤ sN 2 q.val → ∀ p : Fin 125, lenQ p.val = 2 → p.val < q.val := by decide +kernel
set_option maxRecDepth 100000 in
theorem sN_4 : ∀ p ∈ (List.range 125).filter (fun p => decide (lenQ p ≤ 2)), ∀ q ∈ (List.range 125).filter (fun p => decide (lenQ p ≤ 2)), scF p = scF q → p = q := by decide +kernel
set_option maxRecDepth 100000 in
theorem ba_d : ∀ q : Fin 125, nI q.val / 25 = nI (q.val / 25) ∧ nI q.val / 5 = nI (q.val / 5) ∧ nI (q.val / 5) - nI (q.val / 5) / 5 * 5 = nI (q.val / 5 % 5) ∧ nI q.val - nI q.val / 5 * 5 = nI (q.val % 5) ∧ abI (nI (q.val / 25) - 2) + abI (nI (q.val / 5 % 5) - 2) + abI (nI (q.val % 5) - 2) = nI (lenQ q.val) ∧ (nI (q.val / 25) - 2).toInt64 = cd 0 q.val ∧ (nI (q.val / 5 % 5) - 2).toInt64 = cd 1 q.val ∧ (nI (q.val % 5) - 2).toInt64 = cd 2 q.val ∧ lenQ q.val < 7 := by decide +kernel
/-- the tables of shifts, as far as length len and cell q -/
def BnI (len q : Nat) (h : Hp) : Prop := (∀ p, p < 125 → h.1 1 p = if lenQ p < len ∨ lenQ p = len ∧ p < q then nI (scF p) else 0) ∧ (∀ p x, p < 125 → (lenQ p < len ∨ lenQ p = len ∧ p < q) → x < 3 → h.2 (3 + x) (scF p) = cd x p) ∧ (∀ k, k ≠ 1 → h.1 k = fun _ => 0) ∧ ∀ k, k ≠ 3 → k ≠ 4 → k ≠ 5 → h.2 k = fun _ => 0
theorem BnI.skip {len q : Nat} {h : Hp} (hB : BnI len q h) (hq : lenQ q ≠ len) : BnI len (q + 1) h := by
  have hc : ∀ p, (lenQ p < len ∨ lenQ p = len ∧ p < q + 1) ↔ (lenQ p < len ∨ lenQ p = len ∧ p < q) := by
    intro p
    constructor
    · rintro (z | ⟨z1, z2⟩)
      · exact Or.inl z
      · exact Or.inr ⟨z1, by have : p ≠ q := fun w => hq (by rw [← w]; exact z1); omega⟩
    · rintro (z | ⟨z1, z2⟩)
      · exact Or.inl z
      · exact Or.inr ⟨z1, by omega⟩
  refine ⟨fun p hp => by rw [hB.1 p hp]; simp only [hc], fun p x hp hv hx => hB.2.1 p x hp ((hc p).mp hv) hx, hB.2.2⟩
theorem BnI.next {len q : Nat} {h : Hp} (hB : BnI len q h) (hq : ∀ p, p < 125 → lenQ p = len → p < q) : BnI (len + 1) 0 h := by
  have hc : ∀ p, p < 125 → ((lenQ p < len + 1 ∨ lenQ p = len + 1 ∧ p < 0) ↔ (lenQ p < len ∨ lenQ p = len ∧ p < q)) := by
    intro p hp
    constructor
    · rintro (z | ⟨z1, z2⟩)
      · by_cases e : lenQ p = len
        · exact Or.inr ⟨e, hq p hp e⟩
        · exact Or.inl (by omega)
      · omega
    · rintro (z | ⟨z1, z2⟩)
      · exact Or.inl (by omega)
      · exact Or.inl (by omega)
  refine ⟨fun p hp => by rw [hB.1 p hp]; simp only [hc p hp], fun p x hp hv hx => hB.2.1 p x hp ((hc p hp).mp hv) hx, hB.2.2⟩
theorem BnI.add {len q : Nat} {h : Hp} (hB : BnI len q h) (h2 : len ≤ 2) (hq : q < 125) (hl : lenQ q = len) : BnI len (q + 1) (upL (upL (upL (upI h 1 q (nI (scF q))) 3 (scF q) (cd 0 q)) 4 (scF q) (cd 1 q)) 5 (scF q) (cd 2 q)) := by
  have mem : ∀ p, p < 125 → lenQ p ≤ 2 → p ∈ (List.range 125).filter (fun p => decide (lenQ p ≤ 2)) := fun p hp hx => List.mem_filter.mpr ⟨List.mem_range.mpr hp, by simpa using hx⟩
  have inj : ∀ p, p < 125 → lenQ p ≤ 2 → scF p = scF q → p = q := fun p hp hx he => sN_4 p (mem p hp hx) q (mem q hq (by omega)) he
  have hc : ∀ p, (lenQ p < len ∨ lenQ p = len ∧ p < q + 1) ↔ (p = q ∨ lenQ p < len ∨ lenQ p = len ∧ p < q) := by
    intro p
    constructor
    · rintro (z | ⟨z1, z2⟩)
      · exact Or.inr (Or.inl z)
      · by_cases w : p = q
        · exact Or.inl w
        · exact Or.inr (Or.inr ⟨z1, by omega⟩)
    · rintro (z | z | ⟨z1, z2⟩)
      · exact Or.inr ⟨by rw [z]; exact hl, by omega⟩
      · exact Or.inl z
      · exact Or.inr ⟨z1, by omega⟩
  refine ⟨fun p hp => ?_, fun p x hp hv hx => ?_, fun k hk => ?_, fun k k3 k4 k5 => ?_⟩
  · show (upI h 1 q (nI (scF q))).1 1 p = _
    by_cases e : p = q
    · rw [upI_get, if_pos ⟨rfl, e⟩, if_pos ((hc p).mpr (Or.inl e)), e]
    · rw [upI_get, if_neg (fun z => e z.2), hB.1 p hp]
      simp only [hc, e, false_or]
  · rw [upL_get, upL_get, upL_get, upI_s]
    by_cases e : p = q
    · subst e
      rcases lt3 hx with rfl | rfl | rfl
      · rw [if_neg (by omega), if_neg (by omega), if_pos ⟨rfl, rfl⟩]
      · rw [if_neg (by omega), if_pos ⟨rfl, rfl⟩]
      · rw [if_pos ⟨rfl, rfl⟩]
    · have hv' := ((hc p).mp hv).resolve_left e
      have hne : scF p ≠ scF q := fun z => e (inj p hp (by omega) z)
      rw [if_neg (fun z => hne z.2), if_neg (fun z => hne z.2), if_neg (fun z => hne z.2)]
      exact hB.2.1 p x hp hv' hx
  · show (upI h 1 q (nI (scF q))).1 k = _
    rw [up_off _ _ _ _ hk]
    exact hB.2.2.1 k hk
  · rw [upL_off2 _ _ _ _ k5, upL_off2 _ _ _ _ k4, upL_off2 _ _ _ _ k3]
    exact hB.2.2.2 k k3 k4 k5
set_option maxRecDepth 8000 in
set_option maxHeartbeats 4000000 in
theorem n_Ba_init (l : Launch) (D : va_G) (cA : Nat → ClassId) (a b1 b2 b3 : Nat) : CtN l y_Ba_init prog_2_method_1_code 10 1 31 3528 D cls cA [.ref a, .ref b1, .ref b2, .ref b3] [(a, .inr (5, [.null, .null, .null, .null, .null, .null, .int 0]))] (fun w1 => ∃ (L : List Nat) (h : Hp), L.length = 31 ∧ w1 = Wd slB cA (adL (a :: (L ++ [b1, b2, b3]))) h ∧ BnI 3 0 h) := by
  refine CtN_of (tl := T_Ba_init) (by decide) rfl tk_Ba_init cls_ok (Nat.le_of_ble_eq_true rfl) ?_
  intro p e s m args below meth c A Q C0 hml hin hA ha1 ha2 RT
  refine Vw_s C0 rfl rfl ?_
  refine Vw_obj C0 hml rfl (wg_in 120 (by decide +kernel) rfl) (wg_in 26 (by decide +kernel) rfl) (wg_in 27 (by decide +kernel) rfl) (Nat.le_of_ble_eq_true rfl) (Nat.le_of_ble_eq_true rfl) (Nat.le_of_ble_eq_true rfl) ?_
  refine Vw_s C0 rfl rfl ?_
  refine Vw_s C0 rfl rfl ?_
  refine Vw_newa C0 hA (at0 := .int) (ty := .int) (t0 := 0) (N := 125) (a0 := (125, .inl (fun _ => 0))) rfl rfl rfl (fun C h => by cases h) (wg_in 45 (by decide +kernel) rfl) (fun _ => rfl) (by omega) (Nat.le_of_ble_eq_true rfl) (Nat.le_of_ble_eq_true rfl) (Nat.le_of_ble_eq_true rfl) (fun q0 => ?_)
  refine Vw_put C0 hin (q0 := 0) rfl rfl rfl rfl (ty := .array .int) (by decide +kernel) rfl rfl (Nat.le_of_ble_eq_true rfl) ?_
  show Vw p l e _ s m args below meth c 10 D cls A Q _ _ [(a, .inr (5, [.null, .null, .null, .ref q0, .null, .null, .int 0])), (q0, .inl (cA 0, (125, .inl (fun _ => 0))))] 12 _ _
  refine Vw_s C0 rfl rfl ?_
  refine Vw_s C0 rfl rfl ?_
  refine Vw_s C0 rfl rfl ?_
  refine Vw_mna C0 hA (ty := .long) (t0 := 1) (t1 := 3) (N := 3) (M := 25) (z := (25, .inr (.inl (fun _ => 0)))) rfl rfl rfl (fun C h => by cases h) (wg_in 72 (by decide +kernel) rfl) (wg_in 121 (by decide +kernel) rfl) ha1 rfl (by omega) (by omega) (Nat.le_of_ble_eq_true rfl) (Nat.le_of_ble_eq_true rfl) (Nat.le_of_ble_eq_true rfl) rfl rfl (fun _ => MZl _ 25) (Nat.le_of_ble_eq_true rfl) (Nat.le_of_ble_eq_true rfl) (fun q1 r1 => ?_)
  refine Vw_put C0 hin (q0 := 0) rfl rfl rfl rfl (ty := .array (.array .long)) (by decide +kernel) rfl rfl (Nat.le_of_ble_eq_true rfl) ?_
  show Vw p l e _ s m args below meth c 10 D cls A Q _ _ [(a, .inr (5, [.null, .null, .null, .ref q0, .ref q1, .null, .int 0])), (q0, .inl (cA 0, (125, .inl (fun _ => 0)))), (q1, .inl (cA 3, RF 3 r1)), (r1 0, .inl (cA 1, (25, .inr (.inl (fun _ => 0))))), (r1 1, .inl (cA 1, (25, .inr (.inl (fun _ => 0))))), (r1 2, .inl (cA 1, (25, .inr (.inl (fun _ => 0)))))] 23 _ _
  refine Vw_s C0 rfl rfl ?_
  refine Vw_s C0 rfl rfl ?_
  refine Vw_s C0 rfl rfl ?_
  refine Vw_mna C0 hA (ty := .int) (t0 := 0) (t1 := 4) (N := 25) (M := 132) (z := (132, .inl (fun _ => 0))) rfl rfl rfl (fun C h => by cases h) (wg_in 45 (by decide +kernel) rfl) (wg_in 122 (by decide +kernel) rfl) ha2 rfl (by omega) (by omega) (Nat.le_of_ble_eq_true rfl) (Nat.le_of_ble_eq_true rfl) (Nat.le_of_ble_eq_true rfl) rfl rfl (fun _ => MZi _ 132) (Nat.le_of_ble_eq_true rfl) (Nat.le_of_ble_eq_true rfl) (fun q2 r2 => ?_)
  refine Vw_put C0 hin (q0 := 0) rfl rfl rfl rfl (ty := .array (.array .int)) (by decide +kernel) rfl rfl (Nat.le_of_ble_eq_true rfl) ?_
  show Vw p l e _ s m args below meth c 10 D cls A Q _ _ [(a, .inr (5, [.null, .null, .null, .ref q0, .ref q1, .ref q2, .int 0])), (q0, .inl (cA 0, (125, .inl (fun _ => 0)))), (q1, .inl (cA 3, RF 3 r1)), (r1 0, .inl (cA 1, (25, .inr (.inl (fun _ => 0))))), (r1 1, .inl (cA 1, (25, .inr (.inl (fun _ => 0))))), (r1 2, .inl (cA 1, (25, .inr (.inl (fun _ => 0))))), (q2, .inl (cA 4, RF 25 r2)), (r2 0, .inl (cA 0, (132, .inl (fun _ => 0)))), (r2 1, .inl (cA 0, (132, .inl (fun _ => 0)))), (r2 2, .inl (cA 0, (132, .inl (fun _ => 0)))), (r2 3, .inl (cA 0, (132, .inl (fun _ => 0)))), (r2 4, .inl (cA 0, (132, .inl (fun _ => 0)))), (r2 5, .inl (cA 0, (132, .inl (fun _ => 0)))), (r2 6, .inl (cA 0, (132, .inl (fun _ => 0)))), (r2 7, .inl (cA 0, (132, .inl (fun _ => 0)))), (r2 8, .inl (cA 0, (132, .inl (fun _ => 0)))), (r2 9, .inl (cA 0, (132, .inl (fun _ => 0)))), (r2 10, .inl (cA 0, (132, .inl (fun _ => 0)))), (r2 11, .inl (cA 0, (132, .inl (fun _ => 0)))), (r2 12, .inl (cA 0, (132, .inl (fun _ => 0)))), (r2 13, .inl (cA 0, (132, .inl (fun _ => 0)))), (r2 14, .inl (cA 0, (132, .inl (fun _ => 0)))), (r2 15, .inl (cA 0, (132, .inl (fun _ => 0)))), (r2 16, .inl (cA 0, (132, .inl (fun _ => 0)))), (r2 17, .inl (cA 0, (132, .inl (fun _ => 0)))), (r2 18, .inl (cA 0, (132, .inl (fun _ => 0)))), (r2 19, .inl (cA 0, (132, .inl (fun _ => 0)))), (r2 20, .inl (cA 0, (132, .inl (fun _ => 0)))), (r2 21, .inl (cA 0, (132, .inl (fun _ => 0)))), (r2 22, .inl (cA 0, (132, .inl (fun _ => 0)))), (r2 23, .inl (cA 0, (132, .inl (fun _ => 0)))), (r2 24, .inl (cA 0, (132, .inl (fun _ => 0))))] 36 _ _
  refine Vw_s C0 rfl rfl ?_
  refine Vw_s C0 rfl rfl ?_
  refine Vw_put C0 hin (q0 := 0) rfl rfl rfl rfl (ty := .int) (by decide +kernel) rfl rfl (Nat.le_of_ble_eq_true rfl) ?_
  show Vw p l e _ s m args below meth c 10 D cls A Q _ _ [(a, .inr (5, [.null, .null, .null, .ref q0, .ref q1, .ref q2, .int 0])), (q0, .inl (cA 0, (125, .inl (fun _ => 0)))), (q1, .inl (cA 3, RF 3 r1)), (r1 0, .inl (cA 1, (25, .inr (.inl (fun _ => 0))))), (r1 1, .inl (cA 1, (25, .inr (.inl (fun _ => 0))))), (r1 2, .inl (cA 1, (25, .inr (.inl (fun _ => 0))))), (q2, .inl (cA 4, RF 25 r2)), (r2 0, .inl (cA 0, (132, .inl (fun _ => 0)))), (r2 1, .inl (cA 0, (132, .inl (fun _ => 0)))), (r2 2, .inl (cA 0, (132, .inl (fun _ => 0)))), (r2 3, .inl (cA 0, (132, .inl (fun _ => 0)))), (r2 4, .inl (cA 0, (132, .inl (fun _ => 0)))), (r2 5, .inl (cA 0, (132, .inl (fun _ => 0)))), (r2 6, .inl (cA 0, (132, .inl (fun _ => 0)))), (r2 7, .inl (cA 0, (132, .inl (fun _ => 0)))), (r2 8, .inl (cA 0, (132, .inl (fun _ => 0)))), (r2 9, .inl (cA 0, (132, .inl (fun _ => 0)))), (r2 10, .inl (cA 0, (132, .inl (fun _ => 0)))), (r2 11, .inl (cA 0, (132, .inl (fun _ => 0)))), (r2 12, .inl (cA 0, (132, .inl (fun _ => 0)))), (r2 13, .inl (cA 0, (132, .inl (fun _ => 0)))), (r2 14, .inl (cA 0, (132, .inl (fun _ => 0)))), (r2 15, .inl (cA 0, (132, .inl (fun _ => 0)))), (r2 16, .inl (cA 0, (132, .inl (fun _ => 0)))), (r2 17, .inl (cA 0, (132, .inl (fun _ => 0)))), (r2 18, .inl (cA 0, (132, .inl (fun _ => 0)))), (r2 19, .inl (cA 0, (132, .inl (fun _ => 0)))), (r2 20, .inl (cA 0, (132, .inl (fun _ => 0)))), (r2 21, .inl (cA 0, (132, .inl (fun _ => 0)))), (r2 22, .inl (cA 0, (132, .inl (fun _ => 0)))), (r2 23, .inl (cA 0, (132, .inl (fun _ => 0)))), (r2 24, .inl (cA 0, (132, .inl (fun _ => 0))))] 41 _ _
  refine Vw_s C0 rfl rfl ?_
  refine Vw_s C0 rfl rfl ?_
  refine Vw_put C0 hin (q0 := 0) rfl rfl rfl rfl (ty := .object "TogetherOrders$Items") (by decide +kernel) rfl rfl (Nat.le_of_ble_eq_true rfl) ?_
  show Vw p l e _ s m args below meth c 10 D cls A Q _ _ [(a, .inr (5, [.ref b1, .null, .null, .ref q0, .ref q1, .ref q2, .int 0])), (q0, .inl (cA 0, (125, .inl (fun _ => 0)))), (q1, .inl (cA 3, RF 3 r1)), (r1 0, .inl (cA 1, (25, .inr (.inl (fun _ => 0))))), (r1 1, .inl (cA 1, (25, .inr (.inl (fun _ => 0))))), (r1 2, .inl (cA 1, (25, .inr (.inl (fun _ => 0))))), (q2, .inl (cA 4, RF 25 r2)), (r2 0, .inl (cA 0, (132, .inl (fun _ => 0)))), (r2 1, .inl (cA 0, (132, .inl (fun _ => 0)))), (r2 2, .inl (cA 0, (132, .inl (fun _ => 0)))), (r2 3, .inl (cA 0, (132, .inl (fun _ => 0)))), (r2 4, .inl (cA 0, (132, .inl (fun _ => 0)))), (r2 5, .inl (cA 0, (132, .inl (fun _ => 0)))), (r2 6, .inl (cA 0, (132, .inl (fun _ => 0)))), (r2 7, .inl (cA 0, (132, .inl (fun _ => 0)))), (r2 8, .inl (cA 0, (132, .inl (fun _ => 0)))), (r2 9, .inl (cA 0, (132, .inl (fun _ => 0)))), (r2 10, .inl (cA 0, (132, .inl (fun _ => 0)))), (r2 11, .inl (cA 0, (132, .inl (fun _ => 0)))), (r2 12, .inl (cA 0, (132, .inl (fun _ => 0)))), (r2 13, .inl (cA 0, (132, .inl (fun _ => 0)))), (r2 14, .inl (cA 0, (132, .inl (fun _ => 0)))), (r2 15, .inl (cA 0, (132, .inl (fun _ => 0)))), (r2 16, .inl (cA 0, (132, .inl (fun _ => 0)))), (r2 17, .inl (cA 0, (132, .inl (fun _ => 0)))), (r2 18, .inl (cA 0, (132, .inl (fun _ => 0)))), (r2 19, .inl (cA 0, (132, .inl (fun _ => 0)))), (r2 20, .inl (cA 0, (132, .inl (fun _ => 0)))), (r2 21, .inl (cA 0, (132, .inl (fun _ => 0)))), (r2 22, .inl (cA 0, (132, .inl (fun _ => 0)))), (r2 23, .inl (cA 0, (132, .inl (fun _ => 0)))), (r2 24, .inl (cA 0, (132, .inl (fun _ => 0))))] 46 _ _
  refine Vw_s C0 rfl rfl ?_
  refine Vw_s C0 rfl rfl ?_
  refine Vw_put C0 hin (q0 := 0) rfl rfl rfl rfl (ty := .object "TogetherOrders$Boxes") (by decide +kernel) rfl rfl (Nat.le_of_ble_eq_true rfl) ?_
  show Vw p l e _ s m args below meth c 10 D cls A Q _ _ [(a, .inr (5, [.ref b1, .ref b2, .null, .ref q0, .ref q1, .ref q2, .int 0])), (q0, .inl (cA 0, (125, .inl (fun _ => 0)))), (q1, .inl (cA 3, RF 3 r1)), (r1 0, .inl (cA 1, (25, .inr (.inl (fun _ => 0))))), (r1 1, .inl (cA 1, (25, .inr (.inl (fun _ => 0))))), (r1 2, .inl (cA 1, (25, .inr (.inl (fun _ => 0))))), (q2, .inl (cA 4, RF 25 r2)), (r2 0, .inl (cA 0, (132, .inl (fun _ => 0)))), (r2 1, .inl (cA 0, (132, .inl (fun _ => 0)))), (r2 2, .inl (cA 0, (132, .inl (fun _ => 0)))), (r2 3, .inl (cA 0, (132, .inl (fun _ => 0)))), (r2 4, .inl (cA 0, (132, .inl (fun _ => 0)))), (r2 5, .inl (cA 0, (132, .inl (fun _ => 0)))), (r2 6, .inl (cA 0, (132, .inl (fun _ => 0)))), (r2 7, .inl (cA 0, (132, .inl (fun _ => 0)))), (r2 8, .inl (cA 0, (132, .inl (fun _ => 0)))), (r2 9, .inl (cA 0, (132, .inl (fun _ => 0)))), (r2 10, .inl (cA 0, (132, .inl (fun _ => 0)))), (r2 11, .inl (cA 0, (132, .inl (fun _ => 0)))), (r2 12, .inl (cA 0, (132, .inl (fun _ => 0)))), (r2 13, .inl (cA 0, (132, .inl (fun _ => 0)))), (r2 14, .inl (cA 0, (132, .inl (fun _ => 0)))), (r2 15, .inl (cA 0, (132, .inl (fun _ => 0)))), (r2 16, .inl (cA 0, (132, .inl (fun _ => 0)))), (r2 17, .inl (cA 0, (132, .inl (fun _ => 0)))), (r2 18, .inl (cA 0, (132, .inl (fun _ => 0)))), (r2 19, .inl (cA 0, (132, .inl (fun _ => 0)))), (r2 20, .inl (cA 0, (132, .inl (fun _ => 0)))), (r2 21, .inl (cA 0, (132, .inl (fun _ => 0)))), (r2 22, .inl (cA 0, (132, .inl (fun _ => 0)))), (r2 23, .inl (cA 0, (132, .inl (fun _ => 0)))), (r2 24, .inl (cA 0, (132, .inl (fun _ => 0))))] 51 _ _
  refine Vw_s C0 rfl rfl ?_
  refine Vw_s C0 rfl rfl ?_
  refine Vw_put C0 hin (q0 := 0) rfl rfl rfl rfl (ty := .object "TogetherOrders$Ways") (by decide +kernel) rfl rfl (Nat.le_of_ble_eq_true rfl) ?_
  show Vw p l e _ s m args below meth c 10 D cls A Q _ _ [(a, .inr (5, [.ref b1, .ref b2, .ref b3, .ref q0, .ref q1, .ref q2, .int 0])), (q0, .inl (cA 0, (125, .inl (fun _ => 0)))), (q1, .inl (cA 3, RF 3 r1)), (r1 0, .inl (cA 1, (25, .inr (.inl (fun _ => 0))))), (r1 1, .inl (cA 1, (25, .inr (.inl (fun _ => 0))))), (r1 2, .inl (cA 1, (25, .inr (.inl (fun _ => 0))))), (q2, .inl (cA 4, RF 25 r2)), (r2 0, .inl (cA 0, (132, .inl (fun _ => 0)))), (r2 1, .inl (cA 0, (132, .inl (fun _ => 0)))), (r2 2, .inl (cA 0, (132, .inl (fun _ => 0)))), (r2 3, .inl (cA 0, (132, .inl (fun _ => 0)))), (r2 4, .inl (cA 0, (132, .inl (fun _ => 0)))), (r2 5, .inl (cA 0, (132, .inl (fun _ => 0)))), (r2 6, .inl (cA 0, (132, .inl (fun _ => 0)))), (r2 7, .inl (cA 0, (132, .inl (fun _ => 0)))), (r2 8, .inl (cA 0, (132, .inl (fun _ => 0)))), (r2 9, .inl (cA 0, (132, .inl (fun _ => 0)))), (r2 10, .inl (cA 0, (132, .inl (fun _ => 0)))), (r2 11, .inl (cA 0, (132, .inl (fun _ => 0)))), (r2 12, .inl (cA 0, (132, .inl (fun _ => 0)))), (r2 13, .inl (cA 0, (132, .inl (fun _ => 0)))), (r2 14, .inl (cA 0, (132, .inl (fun _ => 0)))), (r2 15, .inl (cA 0, (132, .inl (fun _ => 0)))), (r2 16, .inl (cA 0, (132, .inl (fun _ => 0)))), (r2 17, .inl (cA 0, (132, .inl (fun _ => 0)))), (r2 18, .inl (cA 0, (132, .inl (fun _ => 0)))), (r2 19, .inl (cA 0, (132, .inl (fun _ => 0)))), (r2 20, .inl (cA 0, (132, .inl (fun _ => 0)))), (r2 21, .inl (cA 0, (132, .inl (fun _ => 0)))), (r2 22, .inl (cA 0, (132, .inl (fun _ => 0)))), (r2 23, .inl (cA 0, (132, .inl (fun _ => 0)))), (r2 24, .inl (cA 0, (132, .inl (fun _ => 0))))] 56 _ _
  refine Vw_rf (q0 := 2) (r' := fun j => adL [a, q0, q1, r1 0, r1 1, r1 2, q2, r2 0, r2 1, r2 2, r2 3, r2 4, r2 5, r2 6, r2 7, r2 8, r2 9, r2 10, r2 11, r2 12, r2 13, r2 14, r2 15, r2 16, r2 17, r2 18, r2 19, r2 20, r2 21, r2 22, r2 23, r2 24, b1, b2, b3] (3 + j)) rfl (fun j hj => by rcases (show j = 0 ∨ j = 1 ∨ j = 2 by omega) with rfl | rfl | rfl <;> rfl) ?_
  refine Vw_rf (q0 := 6) (r' := fun j => adL [a, q0, q1, r1 0, r1 1, r1 2, q2, r2 0, r2 1, r2 2, r2 3, r2 4, r2 5, r2 6, r2 7, r2 8, r2 9, r2 10, r2 11, r2 12, r2 13, r2 14, r2 15, r2 16, r2 17, r2 18, r2 19, r2 20, r2 21, r2 22, r2 23, r2 24, b1, b2, b3] (7 + j)) rfl (fun j hj => by
    match j, hj with | 0, _ => rfl | 1, _ => rfl | 2, _ => rfl | 3, _ => rfl | 4, _ => rfl | 5, _ => rfl | 6, _ => rfl | 7, _ => rfl | 8, _ => rfl | 9, _ => rfl | 10, _ => rfl | 11, _ => rfl | 12, _ => rfl | 13, _ => rfl | 14, _ => rfl | 15, _ => rfl | 16, _ => rfl | 17, _ => rfl | 18, _ => rfl | 19, _ => rfl | 20, _ => rfl | 21, _ => rfl | 22, _ => rfl | 23, _ => rfl | 24, _ => rfl | _ + 25, h => omega) ?_
  generalize hcc : 0 + 1 + 1 + 3 + 1 + 25 = CC
  generalize hss : 0 + 125 + 3 + 3 * 25 + 25 + 25 * 132 = SS
  show Vw p l e _ s m args below meth c 10 D cls A Q CC SS (Wd slB cA (adL [a, q0, q1, r1 0, r1 1, r1 2, q2, r2 0, r2 1, r2 2, r2 3, r2 4, r2 5, r2 6, r2 7, r2 8, r2 9, r2 10, r2 11, r2 12, r2 13, r2 14, r2 15, r2 16, r2 17, r2 18, r2 19, r2 20, r2 21, r2 22, r2 23, r2 24, b1, b2, b3]) h00) 56 ([some (.ref 0), some (.ref 32), some (.ref 33), some (.ref 34), none, none, none, none, none, none].map (Option.map (cv (adL [a, q0, q1, r1 0, r1 1, r1 2, q2, r2 0, r2 1, r2 2, r2 3, r2 4, r2 5, r2 6, r2 7, r2 8, r2 9, r2 10, r2 11, r2 12, r2 13, r2 14, r2 15, r2 16, r2 17, r2 18, r2 19, r2 20, r2 21, r2 22, r2 23, r2 24, b1, b2, b3])))) (([] : List Value).map (cv (adL [a, q0, q1, r1 0, r1 1, r1 2, q2, r2 0, r2 1, r2 2, r2 3, r2 4, r2 5, r2 6, r2 7, r2 8, r2 9, r2 10, r2 11, r2 12, r2 13, r2 14, r2 15, r2 16, r2 17, r2 18, r2 19, r2 20, r2 21, r2 22, r2 23, r2 24, b1, b2, b3])))
  refine Vw_Vt ?_
  have KA := fun {pc n nx tg x wd o : Nat} {k : Int32} {K : Int64} {lv : List (Option Value)} {v : Int32} {r : List Value} {h : Hp} => Vt_abs (l := l) (e := e) (R := rmN 1 31 3528) (below := below) (meth := meth) (cells := CC) (slots := SS) (Q := Q) (A := A) (sl := slB) (ad := adL [a, q0, q1, r1 0, r1 1, r1 2, q2, r2 0, r2 1, r2 2, r2 3, r2 4, r2 5, r2 6, r2 7, r2 8, r2 9, r2 10, r2 11, r2 12, r2 13, r2 14, r2 15, r2 16, r2 17, r2 18, r2 19, r2 20, r2 21, r2 22, r2 23, r2 24, b1, b2, b3]) (h := h) (pc := pc) (n := n) (nx := nx) (tg := tg) (x := x) (wd := wd) (o := o) (k := k) (K := K) (lv := lv) (v := v) (r := r) C0 hml (Nat.le_of_ble_eq_true rfl) (Nat.le_of_ble_eq_true rfl) (by show _ ≤ 31; omega) (by show _ ≤ 3528; omega)
  generalize hV : Vt p l e (rmN 1 31 3528) s m args below meth c 10 (adL [a, q0, q1, r1 0, r1 1, r1 2, q2, r2 0, r2 1, r2 2, r2 3, r2 4, r2 5, r2 6, r2 7, r2 8, r2 9, r2 10, r2 11, r2 12, r2 13, r2 14, r2 15, r2 16, r2 17, r2 18, r2 19, r2 20, r2 21, r2 22, r2 23, r2 24, b1, b2, b3]) D cls slB cA A CC SS Q = V at KA ⊢
  have G : Gd slB T_Ba_init V := by rw [← hV]; exact Vt_Gd C0
  have L : ∀ len, len ≤ 3 → ∀ h, BnI len 0 h → ∀ o6 o7 o8 o9, V 62 [some (.ref 0), some (.ref 32), some (.ref 33), some (.ref 34), some (.int (nI (if len ≤ 2 then sN len 0 else 25))), some (.int (nI len)), o6, o7, o8, o9] [] h := by
    refine loopUp 3 (fun len hlen ih => ?_) ?_
    · intro h hB o6 o7 o8 o9
      rw [← nI_1 len] at ih
      rw [if_pos (show len ≤ 2 by omega)]
      have Ex : ∀ q, q ≤ 125 → (q = 125 ∨ 25 ≤ sN len q) → ∀ h, BnI len q h → ∀ o7 o8 o9, V 188 [some (.ref 0), some (.ref 32), some (.ref 33), some (.ref 34), some (.int (nI (sN len q))), some (.int (nI len)), some (.int (nI q)), o7, o8, o9] [] h := by
        intro q hq hx h hB o7 o8 o9
        have all : ∀ p, p < 125 → lenQ p = len → p < q := by
          intro p hp e1
          rcases hx with rfl | hx
          · exact hp
          · rcases (show len = 0 ∨ len = 1 ∨ len = 2 by omega) with rfl | rfl | rfl
            · exact absurd hx (by have := sN_2.2.2.2.1 0 ⟨q, by omega⟩; simp only at this; show ¬ 25 ≤ sN 0 q; have h2 : sN 0 q < 25 := this; omega)
            · exact absurd hx (by have := sN_2.2.2.2.1 1 ⟨q, by omega⟩; simp only at this; show ¬ 25 ≤ sN 1 q; have h2 : sN 1 q < 25 := this; omega)
            · exact sN_3 ⟨q, by omega⟩ hx ⟨p, hp⟩ e1
        have es : sN len q = if len + 1 ≤ 2 then sN (len + 1) 0 else 25 := by
          rcases (show len = 0 ∨ len = 1 ∨ len = 2 by omega) with rfl | rfl | rfl
          · rcases hx with rfl | hx
            · rw [if_pos (by omega)]; exact sN_2.2.1.symm
            · have h2 : sN 0 q < 25 := sN_2.2.2.2.1 0 ⟨q, by omega⟩
              omega
          · rcases hx with rfl | hx
            · rw [if_pos (by omega)]; exact sN_2.2.2.1.symm
            · have h2 : sN 1 q < 25 := sN_2.2.2.2.1 1 ⟨q, by omega⟩
              omega
          · rw [if_neg (by omega)]
            rcases hx with rfl | hx
            · exact sN_2.2.2.2.2
            · by_cases e1 : q = 125
              · rw [e1]; exact sN_2.2.2.2.2
              · have h2 : sN 2 q ≤ 25 := (sN_1 2 ⟨q, by omega⟩).2.1
                omega
        rw [es]
        repeat (first | refine G.sx (fun _ => false) rfl rfl rfl ?_ | refine G.gox (fun _ => false) rfl rfl rfl ?_ | refine G.getx (fun _ => false) rfl rfl rfl rfl ?_)
        refine G.go rfl ?_
        exact ih h (hB.next all) _ _ _ _
      have LC : ∀ q, q ≤ 125 → ∀ h, BnI len q h → ∀ o7 o8 o9, V 71 [some (.ref 0), some (.ref 32), some (.ref 33), some (.ref 34), some (.int (nI (sN len q))), some (.int (nI len)), some (.int (nI q)), o7, o8, o9] [] h := by
        refine loopUp 125 (fun q hq ihq => ?_) ?_
        · intro h hB o7 o8 o9
          rw [← nI_1 q] at ihq
          obtain ⟨t1, t2, t3⟩ := sN_1 ⟨len, hlen⟩ ⟨q, hq⟩
          have t1 : sN len (q + 1) = if lenQ q = len then sN len q + 1 else sN len q := t1
          have t2 : sN len q ≤ 25 := t2
          have t3 : lenQ q = len → sN len q = scF q ∧ scF q < 25 := t3
          obtain ⟨d1, d2, d3, d4, d5, d6, d7, d8, d9⟩ := ba_d ⟨q, hq⟩
          simp only at d1 d2 d3 d4 d5 d6 d7 d8 d9
          repeat (first | refine G.sx (fun _ => false) rfl rfl rfl ?_ | refine G.gox (fun _ => false) rfl rfl rfl ?_ | refine G.getx (fun _ => false) rfl rfl rfl rfl ?_)
          refine G.br rfl rfl (fun c1 => absurd c1 (nI_ge (b := 125) hq (by omega))) (fun _ => ?_)
          repeat (first | refine G.sx (fun _ => false) rfl rfl rfl ?_ | refine G.gox (fun _ => false) rfl rfl rfl ?_ | refine G.getx (fun _ => false) rfl rfl rfl rfl ?_)
          refine G.br rfl rfl (fun c1 => Ex q (by omega) (Or.inr ((nI_leI (a := 25) (by omega) (by omega)).mp c1)) h hB _ _ _) (fun c1 => ?_)
          repeat (first | refine G.sx (fun _ => false) rfl rfl rfl ?_ | refine G.gox (fun _ => false) rfl rfl rfl ?_ | refine G.getx (fun _ => false) rfl rfl rfl rfl ?_)
          refine G.idiv rfl (by decide) ?_
          show V 90 _ [.int (nI q / 25)] _
          rw [d1]
          repeat (first | refine G.sx (fun _ => false) rfl rfl rfl ?_ | refine G.gox (fun _ => false) rfl rfl rfl ?_ | refine G.getx (fun _ => false) rfl rfl rfl rfl ?_)
          refine G.idiv rfl (by decide) ?_
          show V 98 _ [.int (nI q / 5)] _
          rw [d2]
          repeat (first | refine G.sx (fun _ => false) rfl rfl rfl ?_ | refine G.gox (fun _ => false) rfl rfl rfl ?_ | refine G.getx (fun _ => false) rfl rfl rfl rfl ?_)
          refine G.irem rfl (by decide) ?_
          show V 100 _ [.int (nI (q / 5) - nI (q / 5) / 5 * 5)] _
          rw [d3]
          repeat (first | refine G.sx (fun _ => false) rfl rfl rfl ?_ | refine G.gox (fun _ => false) rfl rfl rfl ?_ | refine G.getx (fun _ => false) rfl rfl rfl rfl ?_)
          refine G.irem rfl (by decide) ?_
          show V 108 _ [.int (nI q - nI q / 5 * 5)] _
          rw [d4]
          repeat (first | refine G.sx (fun _ => false) rfl rfl rfl ?_ | refine G.gox (fun _ => false) rfl rfl rfl ?_ | refine G.getx (fun _ => false) rfl rfl rfl rfl ?_)
          refine KA rfl ml_Ba_41 (Nat.zero_le _) ?_
          repeat (first | refine G.sx (fun _ => false) rfl rfl rfl ?_ | refine G.gox (fun _ => false) rfl rfl rfl ?_ | refine G.getx (fun _ => false) rfl rfl rfl rfl ?_)
          refine KA rfl ml_Ba_41 (Nat.le_of_ble_eq_true rfl) ?_
          repeat (first | refine G.sx (fun _ => false) rfl rfl rfl ?_ | refine G.gox (fun _ => false) rfl rfl rfl ?_ | refine G.getx (fun _ => false) rfl rfl rfl rfl ?_)
          refine KA rfl ml_Ba_41 (Nat.le_of_ble_eq_true rfl) ?_
          repeat (first | refine G.sx (fun q => Nat.beq q 129) rfl rfl rfl ?_ | refine G.gox (fun q => Nat.beq q 129) rfl rfl rfl ?_ | refine G.getx (fun q => Nat.beq q 129) rfl rfl rfl rfl ?_)
          show V 129 _ [.int (abI (nI (q / 25) - 2) + abI (nI (q / 5 % 5) - 2) + abI (nI (q % 5) - 2))] _
          rw [d5]
          repeat (first | refine G.sx (fun _ => false) rfl rfl rfl ?_ | refine G.gox (fun _ => false) rfl rfl rfl ?_ | refine G.getx (fun _ => false) rfl rfl rfl rfl ?_)
          refine G.br rfl rfl (fun c2 => ?_) (fun c2 => ?_)
          · have c2 : lenQ q ≠ len := fun z => c2 (by rw [z])
            rw [if_neg c2] at t1
            rw [t1] at ihq
            repeat (first | refine G.sx (fun _ => false) rfl rfl rfl ?_ | refine G.gox (fun _ => false) rfl rfl rfl ?_ | refine G.getx (fun _ => false) rfl rfl rfl rfl ?_)
            refine G.go rfl ?_
            exact ihq h (hB.skip c2) _ _ _
          · have c2 : lenQ q = len := (nI_eq (by omega) (by omega)).mp c2
            obtain ⟨u1, u2⟩ := t3 c2
            rw [if_pos c2, u1] at t1
            rw [t1, ← nI_1 (scF q)] at ihq
            rw [u1]
            repeat (first | refine G.sx (fun _ => false) rfl rfl rfl ?_ | refine G.gox (fun _ => false) rfl rfl rfl ?_ | refine G.getx (fun _ => false) rfl rfl rfl rfl ?_)
            refine G.iasn rfl rfl hq (by decide) ?_
            repeat (first | refine G.sx (fun _ => false) rfl rfl rfl ?_ | refine G.gox (fun _ => false) rfl rfl rfl ?_ | refine G.getx (fun _ => false) rfl rfl rfl rfl ?_)
            refine G.aaln (q := 0) rfl rfl (by decide) (by decide) (by decide) ?_
            repeat (first | refine G.sx (fun q => Nat.beq q 154) rfl rfl rfl ?_ | refine G.gox (fun q => Nat.beq q 154) rfl rfl rfl ?_ | refine G.getx (fun q => Nat.beq q 154) rfl rfl rfl rfl ?_)
            show V 154 _ [.long ((nI (q / 25) - 2).toInt64), .int (nI (scF q)), .ref 3] _
            rw [d6]
            refine G.lasn rfl rfl u2 (by decide) ?_
            repeat (first | refine G.sx (fun _ => false) rfl rfl rfl ?_ | refine G.gox (fun _ => false) rfl rfl rfl ?_ | refine G.getx (fun _ => false) rfl rfl rfl rfl ?_)
            refine G.aaln (q := 1) rfl rfl (by decide) (by decide) (by decide) ?_
            repeat (first | refine G.sx (fun q => Nat.beq q 166) rfl rfl rfl ?_ | refine G.gox (fun q => Nat.beq q 166) rfl rfl rfl ?_ | refine G.getx (fun q => Nat.beq q 166) rfl rfl rfl rfl ?_)
            show V 166 _ [.long ((nI (q / 5 % 5) - 2).toInt64), .int (nI (scF q)), .ref 4] _
            rw [d7]
            refine G.lasn rfl rfl u2 (by decide) ?_
            repeat (first | refine G.sx (fun _ => false) rfl rfl rfl ?_ | refine G.gox (fun _ => false) rfl rfl rfl ?_ | refine G.getx (fun _ => false) rfl rfl rfl rfl ?_)
            refine G.aaln (q := 2) rfl rfl (by decide) (by decide) (by decide) ?_
            repeat (first | refine G.sx (fun q => Nat.beq q 178) rfl rfl rfl ?_ | refine G.gox (fun q => Nat.beq q 178) rfl rfl rfl ?_ | refine G.getx (fun q => Nat.beq q 178) rfl rfl rfl rfl ?_)
            show V 178 _ [.long ((nI (q % 5) - 2).toInt64), .int (nI (scF q)), .ref 5] _
            rw [d8]
            refine G.lasn rfl rfl u2 (by decide) ?_
            repeat (first | refine G.sx (fun _ => false) rfl rfl rfl ?_ | refine G.gox (fun _ => false) rfl rfl rfl ?_ | refine G.getx (fun _ => false) rfl rfl rfl rfl ?_)
            refine G.go rfl ?_
            exact ihq _ (hB.add (by omega) hq c2) _ _ _
        · intro h hB o7 o8 o9
          repeat (first | refine G.sx (fun _ => false) rfl rfl rfl ?_ | refine G.gox (fun _ => false) rfl rfl rfl ?_ | refine G.getx (fun _ => false) rfl rfl rfl rfl ?_)
          refine G.br rfl rfl (fun _ => Ex 125 (by omega) (Or.inl rfl) h hB _ _ _) (fun c1 => absurd (nI_le (a := 125) (Nat.le_refl 125) (by omega)) c1)
      repeat (first | refine G.sx (fun _ => false) rfl rfl rfl ?_ | refine G.gox (fun _ => false) rfl rfl rfl ?_ | refine G.getx (fun _ => false) rfl rfl rfl rfl ?_)
      refine G.br rfl rfl (fun c1 => absurd c1 (by rcases (show len = 0 ∨ len = 1 ∨ len = 2 by omega) with rfl | rfl | rfl <;> decide)) (fun _ => ?_)
      repeat (first | refine G.sx (fun q => Nat.beq q 71) rfl rfl rfl ?_ | refine G.gox (fun q => Nat.beq q 71) rfl rfl rfl ?_ | refine G.getx (fun q => Nat.beq q 71) rfl rfl rfl rfl ?_)
      exact LC 0 (Nat.zero_le _) h hB _ _ _
    · intro h hB o6 o7 o8 o9
      repeat (first | refine G.sx (fun _ => false) rfl rfl rfl ?_ | refine G.gox (fun _ => false) rfl rfl rfl ?_ | refine G.getx (fun _ => false) rfl rfl rfl rfl ?_)
      refine G.br rfl rfl (fun _ => ?_) (fun c1 => absurd (by decide) c1)
      rw [← hV]
      exact Vt_Vw (RT (by omega) (by omega) rfl ⟨[q0, q1, r1 0, r1 1, r1 2, q2, r2 0, r2 1, r2 2, r2 3, r2 4, r2 5, r2 6, r2 7, r2 8, r2 9, r2 10, r2 11, r2 12, r2 13, r2 14, r2 15, r2 16, r2 17, r2 18, r2 19, r2 20, r2 21, r2 22, r2 23, r2 24], h, rfl, rfl, hB⟩)
  repeat (first | refine G.sx (fun q => Nat.beq q 62) rfl rfl rfl ?_ | refine G.gox (fun q => Nat.beq q 62) rfl rfl rfl ?_ | refine G.getx (fun q => Nat.beq q 62) rfl rfl rfl rfl ?_)
  refine L 0 (Nat.zero_le _) h00 ⟨fun p hp => ?_, fun p x hp hv => ?_, fun k hk => rfl, fun k k3 k4 k5 => rfl⟩ _ _ _ _
  · rw [if_neg (by omega)]; rfl
  · omega
end InC
