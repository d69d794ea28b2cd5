/-! A contract out of a walk with further rules X (Math's methods, static arrays) -/
section CX
def XOk (d : Nat) (own : String) (tl : List (Nat × RowE)) (D : va_G) (cl : List vw_C) (cA : Nat → ClassId) (sl : List Sh) (St : (Nat → Prop) → State → Heap → Prop) (ad : Nat → Nat) (X : VT → Prop) : Prop :=
  ∀ (p : Program) (l : Launch) (e : Env) (R : Room) (s : State) (m : MethodId) (args : Array Value) (below : List Frame) (meth : Method) (c : Code) (cc : ByteArray) (nL : Nat) (A : Nat → Prop) (Q : State → Prop), Cx p s m args c cc own wg nL tl D cl cA → c.maxLocals = nL → (∀ q, s.heap.size ≤ q → A q) → St A s s.heap → (R.frames = d ∧ R.locals = 60 * d) → X (Vt p l e R s m args below meth c nL ad D cl sl cA A 0 0 Q)
set_option maxHeartbeats 1000000 in
theorem Ct.ofX {l : Launch} {y : MethodName} {bytes : ByteArray} {maxL : Nat} {ret : Option FieldType} {d : Nat} {D : va_G} {cl : List vw_C} {cA : Nat → ClassId} {sl : List Sh} {St : (Nat → Prop) → State → Heap → Prop} {ad : Nat → Nat} {avs : List Value} {h : Hp} {post : Option Value → Hp → Prop} {tl : List (Nat × RowE)} (X : VT → Prop) (hX : XOk d y.cls tl D cl cA sl St ad X)
    (hy : plainName y.cls = true) (htl : tl.all (rowOk bytes y.cls wg maxL cl) = true) (hcl : ClsOk cl wg) (hSt : StOk St) (hlen : (lg_sl avs).length ≤ maxL)
    (body : ∀ V : VT, Gd sl tl V → Rt tl ret post V → Cl l d D cl cA sl St ad y.cls tl V → X V → V 0 (ent avs maxL) [] h) : Ct l y bytes maxL ret (rmD d) D cl cA sl St ad avs h post := by
  intro sz
  refine Met.ofW (cc := bytes) (maxL := maxL) (ret := ret) hy rfl ?_
  intro p e s m args below meth c s₁ B hml hv
  obtain ⟨rfl, hsz, hP, hK, hD0, hst⟩ := hv
  have hx := B.exec
  have hb := B.bytes
  have hr := B.returns
  have hts0 := atoms_spec (ws := Cond.code y bytes maxL ret :: wg) B.pre
  have hts : ∀ w ∈ wg, w.before (avs.map (cv ad)).toArray s = true := fun w hw => hts0 w (List.mem_cons_of_mem _ hw)
  have hown : s.vm.findClass y.cls = some m.cls := findClass_of_methodNamed B.named
  have hlocks := B.notSynchronized
  subst hsz
  have hD := hD0.self (sz := s.heap.size)
  have hA : ∀ q : Nat, s.heap.size ≤ q → va_A (Wd sl cA ad h) s.heap.size q := fun q hq => Or.inr hq
  have C0 : Cx p s m (avs.map (cv ad)).toArray c bytes y.cls wg maxL tl D cl cA := ⟨hx, hb, hown, hts, htl, hK, hcl⟩
  have hl0 := lv_entry (avs.map (cv ad)) (n := maxL) (by rw [sl_len]; exact hlen)
  rw [lg_entry_eq]
  refine body (Vt p l e (headSpec (Cond.code y bytes maxL ret :: wg) (rmD d)).room s m (avs.map (cv ad)).toArray below meth c maxL ad D cl sl cA (va_A (Wd sl cA ad h) s.heap.size) 0 0 (MQ below (Qx D cl cA sl ad (va_A (Wd sl cA ad h) s.heap.size) post) (avs.map (cv ad)).toArray s 0 0 (va_A (Wd sl cA ad h) s.heap.size))) (Vt_Gd C0) ⟨?_, ?_, ?_⟩ ⟨?_, ?_⟩ (hX _ _ _ _ _ _ _ _ _ _ _ _ _ _ C0 hml hA hst ⟨rfl, rfl⟩) _ s.heap [] ⟨⟨hl0.1, hl0.2.1, fun q hq => by cases hq⟩, fun i v hi => ?_⟩ hP hD va_S.rf
  · intro pc n nx tg x wd k K lv h2 v h1 hret hp ls H locs hl hP hD hS
    obtain ⟨hd, hc, -⟩ := rowOk_s htl h1
    simp only [ckE, Bool.and_eq_true, beq_iff_eq] at hc
    obtain ⟨-, rfl⟩ := hc
    rcases hret with rfl | ⟨rfl, hv⟩
    · exact W.iret hx hb hr (fun t ht _ => ⟨⟨some (.int v), h2, rfl, hp, by rw [ht]; exact hP, hD⟩, hS.F ht⟩) hS.2.2 hd
    · exact W.zret hx hb hr (nar_b hv).1 (fun t ht _ => ⟨⟨some (.int v), h2, rfl, hp, by rw [ht]; exact hP, hD⟩, hS.F ht⟩) hS.2.2 hd
  · intro pc n nx tg x wd k K lv h2 v h1 hret hp ls H locs hl hP hD hS
    obtain ⟨hd, hc, -⟩ := rowOk_s htl h1
    simp only [ckE, Bool.and_eq_true, beq_iff_eq] at hc
    obtain ⟨-, rfl⟩ := hc
    subst hret
    exact W.lret hx hb hr (fun t ht _ => ⟨⟨some (.long v), h2, rfl, hp, by rw [ht]; exact hP, hD⟩, hS.F ht⟩) hS.2.2 hd
  · intro pc n nx tg x wd k K lv h2 h1 hret hp ls H locs hl hP hD hS
    obtain ⟨hd, hc, -⟩ := rowOk_s htl h1
    simp only [ckE, Bool.and_eq_true, beq_iff_eq] at hc
    obtain ⟨-, rfl⟩ := hc
    subst hret
    exact W.vret hx hb hr (fun t ht _ => ⟨⟨none, h2, rfl, hp, by rw [ht]; exact hP, hD⟩, hS.F ht⟩) hS.2.2 hd
  · intro pc n nx tg x wd o k K y2 bytes2 maxL2 ret2 d1 N b ci M fs T As h2 post2 lv st h1 cw hd1 hm hb1 hb2 hN hM hs8 kk
    exact Vt_callV C0 hml hA hSt hst ⟨Nat.zero_le _, Nat.zero_le _⟩ h1 cw ⟨rfl, rfl, (by show d1 + 1 ≤ d; omega), (by show 8 + (maxL2 + 11) + 60 * d1 ≤ 60 * d; omega)⟩ hb1 hb2 hN hM hs8 kk
  · intro pc n nx tg x wd o k K y2 bytes2 maxL2 ret2 d1 N As h2 post2 lv st h1 cw hd1 hm hN hM hs8 kk
    exact Vt_callS C0 hml hA hSt hst ⟨Nat.zero_le _, Nat.zero_le _⟩ h1 cw ⟨rfl, rfl, (by show d1 + 1 ≤ d; omega), (by show 8 + (maxL2 + 11) + 60 * d1 ≤ 60 * d; omega)⟩ hN hM hs8 kk
  · have h1 := ent_args ad avs maxL 0 i v hi
    rw [Nat.zero_add] at h1
    exact hl0.2.2 _ h1
/-- Math's methods: which, and what it does to the stack -/
def mthY (f : Nat) : MethodName := match f with
  | 0 => y_Jm_absI
  | 1 => y_Jm_absJ
  | 2 => y_Jm_minI
  | 3 => y_Jm_maxI
  | 4 => y_Jm_minJ
  | _ => y_Jm_maxJ
def mth (f : Nat) (st : List Value) : Option (List Value × List Value) := match f, st with
  | 0, .int x :: r => some (.int (if 0 ≤ x then x else 0 - x) :: r, r)
  | 1, .long x :: r => some (.long (if 0 < x then x else -x) :: r, r)
  | 2, .int y :: .int x :: r => some (.int (if y < x then y else x) :: r, r)
  | 3, .int y :: .int x :: r => some (.int (if x < y then y else x) :: r, r)
  | 4, .long y :: .long x :: r => some (.long (if y < x then y else x) :: r, r)
  | 5, .long y :: .long x :: r => some (.long (if y < x then x else y) :: r, r)
  | _, _ => none
def Mx (own : String) (tl : List (Nat × RowE)) (V : VT) : Prop := ∀ (pc n nx tg x wd o f : Nat) (k : Int32) (K : Int64) (lv : List (Option Value)) (st st' rest : List Value) (h : Hp), lkT tl pc = some (.invokestatic o, n, nx, tg, x, wd, k, K) → Cond.methodLink own o (mthY f) ∈ wg → mth f st = some (st', rest) → (rest.map fun v => v.category).sum ≤ 8 → V nx lv st' h → V pc lv st h
theorem mw_i : Cond.initialized "java/lang/Math" ∈ wg := wg_in 7 (by decide +kernel) rfl
theorem mw_0s : Cond.static Lib.Math.abs.name ∈ wg := wg_in 125 (by decide +kernel) rfl
theorem mw_0c : Cond.code Lib.Math.abs.name Lib.Math.abs.code 1 (some .int) ∈ wg := wg_in 126 (by decide +kernel) rfl
theorem mw_1s : Cond.static Lib.MathLoose.abs_long.x ∈ wg := wg_in 295 (by decide +kernel) rfl
theorem mw_1c : Cond.code Lib.MathLoose.abs_long.x Lib.MathLoose.abs_long.code 2 (some .long) ∈ wg := wg_in 296 (by decide +kernel) rfl
theorem mw_2s : Cond.static Lib.Math.min.name ∈ wg := wg_in 525 (by decide +kernel) rfl
theorem mw_2c : Cond.code Lib.Math.min.name Lib.Math.min.code 2 (some .int) ∈ wg := wg_in 526 (by decide +kernel) rfl
theorem mw_3s : Cond.static Lib.Math.max.name ∈ wg := wg_in 528 (by decide +kernel) rfl
theorem mw_3c : Cond.code Lib.Math.max.name Lib.Math.max.code 2 (some .int) ∈ wg := wg_in 529 (by decide +kernel) rfl
theorem mw_4s : Cond.static Lib.MathLoose.min_long.x ∈ wg := wg_in 764 (by decide +kernel) rfl
theorem mw_4c : Cond.code Lib.MathLoose.min_long.x Lib.MathLoose.min_long.code 4 (some .long) ∈ wg := wg_in 765 (by decide +kernel) rfl
theorem mw_5s : Cond.static Lib.MathLoose.max_long.x ∈ wg := wg_in 767 (by decide +kernel) rfl
theorem mw_5c : Cond.code Lib.MathLoose.max_long.x Lib.MathLoose.max_long.code 4 (some .long) ∈ wg := wg_in 768 (by decide +kernel) rfl
theorem ml_Ba_41 : Cond.methodLink "TogetherOrders$Bars" 41 (mthY 0) ∈ wg := wg_in 124 (by decide +kernel) rfl
theorem ml_Ba_95 : Cond.methodLink "TogetherOrders$Bars" 95 (mthY 1) ∈ wg := wg_in 294 (by decide +kernel) rfl
theorem ml_It_23 : Cond.methodLink "TogetherOrders$Items" 23 (mthY 2) ∈ wg := wg_in 524 (by decide +kernel) rfl
theorem ml_It_29 : Cond.methodLink "TogetherOrders$Items" 29 (mthY 3) ∈ wg := wg_in 527 (by decide +kernel) rfl
theorem ml_TO_243 : Cond.methodLink "TogetherOrders" 243 (mthY 0) ∈ wg := wg_in 744 (by decide +kernel) rfl
theorem ml_Bx_37 : Cond.methodLink "TogetherOrders$Boxes" 37 (mthY 4) ∈ wg := wg_in 763 (by decide +kernel) rfl
theorem ml_Bx_43 : Cond.methodLink "TogetherOrders$Boxes" 43 (mthY 5) ∈ wg := wg_in 766 (by decide +kernel) rfl
set_option maxHeartbeats 1000000 in
theorem Mx_ok {d : Nat} (hd : 0 < d) {own : String} {tl : List (Nat × RowE)} {D : va_G} {cl : List vw_C} {cA : Nat → ClassId} {sl : List Sh} {St : (Nat → Prop) → State → Heap → Prop} {ad : Nat → Nat} : XOk d own tl D cl cA sl St ad (Mx own tl) := by
  intro p l e R s m args below meth c cc nL A Q C0 hml hA hst hR
  obtain ⟨hR1, hR2⟩ := hR
  intro pc n nx tg x wd o f k K lv st st' rest h h1 hlk hm hs8 kk ls H locs hl hP hD hS
  obtain ⟨hx, hb, hown, hts, htl, hK, hcl⟩ := C0
  obtain ⟨hdg, hc, -⟩ := rowOk_s htl h1
  simp only [ckE, Bool.and_eq_true, beq_iff_eq] at hc
  obtain ⟨rfl, rfl⟩ := hc
  have hml2 : c.maxLocals = ls.size := hml.trans hl.1.1.symm
  have k1 := kk ls H locs hl hP hD hS
  have r8 : ((rest.map (cv ad)).map fun v => v.category).sum ≤ 8 := by rw [cat_map]; exact hs8
  have hlo : 60 * d ≥ 60 := by omega
  match f, st, hm with
  | 0, .int x :: r, hm =>
    cases hm
    exact va_mabs hx hb hml2 hown (hts _ hlk) (hts _ mw_0s) (hts _ mw_i) (hts _ mw_0c) (by rw [hR1]; omega) (by rw [hR2]; omega) (Nat.zero_le _) (Nat.zero_le _) hdg k1
  | 1, .long x :: r, hm =>
    cases hm
    exact va_mabs_long hx hb hml2 hown (hts _ hlk) (hts _ mw_1s) (hts _ mw_i) (hts _ mw_1c) (by rw [hR1]; omega) (by rw [hR2]; omega) (Nat.zero_le _) (Nat.zero_le _) hdg k1
  | 2, .int y :: .int x :: r, hm =>
    cases hm
    exact va_mmin hx hb hml2 hown (hts _ hlk) (hts _ mw_2s) (hts _ mw_i) (hts _ mw_2c) (by rw [hR1]; omega) (by rw [hR2]; omega) (Nat.zero_le _) (Nat.zero_le _) hdg k1
  | 3, .int y :: .int x :: r, hm =>
    cases hm
    exact va_mmax hx hb hml2 hown (hts _ hlk) (hts _ mw_3s) (hts _ mw_i) (hts _ mw_3c) (by rw [hR1]; omega) (by rw [hR2]; omega) (Nat.zero_le _) (Nat.zero_le _) hdg k1
  | 4, .long y :: .long x :: r, hm =>
    cases hm
    exact va_mmin_long hx hb hml2 hown (hts _ hlk) (hts _ mw_4s) (hts _ mw_i) (hts _ mw_4c) (by rw [hR1]; omega) (by rw [hR2]; omega) (Nat.zero_le _) (Nat.zero_le _) hdg k1
  | 5, .long y :: .long x :: r, hm =>
    cases hm
    exact va_mmax_long hx hb hml2 hown (hts _ hlk) (hts _ mw_5s) (hts _ mw_i) (hts _ mw_5c) (by rw [hR1]; omega) (by rw [hR2]; omega) (Nat.zero_le _) (Nat.zero_le _) hdg k1
theorem Mx.m {own : String} {tl : List (Nat × RowE)} {V : VT} (M : Mx own tl V) (f : Nat) {pc n nx tg x wd o : Nat} {k : Int32} {K : Int64} {lv : List (Option Value)} {st st' rest : List Value} {h : Hp} (h1 : lkT tl pc = some (.invokestatic o, n, nx, tg, x, wd, k, K)) (hw : Cond.methodLink own o (mthY f) ∈ wg) (h2 : mth f st = some (st', rest)) (h3 : (rest.map fun v => v.category).sum ≤ 8) (kk : V nx lv st' h) : V pc lv st h := M pc n nx tg x wd o f k K lv st st' rest h h1 hw h2 h3 kk
end CX
