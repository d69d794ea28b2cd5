/-! THE WALK OVER ANY WORLD (constructors, the law): values are the machine's own, the world is a list of cells -/
section VW
variable {p : Program} {l : Launch} {e : Env} {R : Room} {s : State} {m : MethodId} {args : Array Value} {below : List Frame} {meth : Method} {c : Code} {cells slots : Nat} {Q : State → Prop} {cc : ByteArray} {own : String} {Ts : List Cond} {nL : Nat} {tl : List (Nat × RowE)} {D : va_G} {cl : List vw_C} {cA : Nat → ClassId} {A : Nat → Prop} {ws : va_W}
theorem cv_id (v : Value) : cv id v = v := by cases v <;> rfl
theorem cvs_id (st : List Value) : st.map (cv id) = st := by
  induction st with
  | nil => rfl
  | cons a r ih => rw [List.map_cons, cv_id, ih]
/-- the machine comes to Q from this place, whatever heap bears the world -/
def Vw (p : Program) (l : Launch) (e : Env) (R : Room) (s : State) (m : MethodId) (args : Array Value) (below : List Frame) (meth : Method) (c : Code) (nL : Nat) (D : va_G) (cl : List vw_C) (A : Nat → Prop) (Q : State → Prop) (cells slots : Nat) (ws : va_W) (pc : Nat) (lv : List (Option Value)) (st : List Value) : Prop :=
  ∀ (ls : Array Slot) (H : Heap) (locs : List Loc), lh ls nL id lv → va_P D cl ws H → va_D A ws → va_S A s.heap H locs → W p l e R s m args below meth c H locs cells slots Q (F0 m pc ls st)
section
variable {pc n nx tg x wd : Nat} {i : Instr} {k : Int32} {K : Int64} {lv lv' : List (Option Value)} {st st' : List Value}
theorem Vw_s (C0 : Cx p s m args c cc own Ts nL tl D cl cA) (h1 : lkT tl pc = some (i, n, nx, tg, x, wd, k, K)) (h2 : ps i x k K lv st = some (lv', st')) (h3 : Vw p l e R s m args below meth c nL D cl A Q cells slots ws nx lv' st') : Vw p l e R s m args below meth c nL D cl A Q cells slots ws pc lv st := by
  obtain ⟨hx, hb, hown, hts, htl, hK, hcl⟩ := C0
  intro ls H locs hl hP hD hS
  obtain ⟨hd, hc, -⟩ := rowOk_s htl h1
  have := ps_ok (l := l) (e := e) (R := R) (below := below) (meth := meth) (H := H) (locs := locs) (cells := cells) (slots := slots) (Q := Q) hx hb hown hts hd hc h2 hl (fun ls' hl' => by rw [cvs_id]; exact h3 ls' H locs hl' hP hD hS)
  rw [cvs_id] at this
  exact this
theorem Vw_br (C0 : Cx p s m args c cc own Ts nL tl D cl cA) {P1 P2 : Prop} (h1 : lkT tl pc = some (i, n, nx, tg, x, wd, k, K)) (h2 : pb i st = some (st', P1, P2)) (h3 : P1 → Vw p l e R s m args below meth c nL D cl A Q cells slots ws tg lv st') (h4 : P2 → Vw p l e R s m args below meth c nL D cl A Q cells slots ws nx lv st') : Vw p l e R s m args below meth c nL D cl A Q cells slots ws pc lv st := by
  obtain ⟨hx, hb, hown, hts, htl, hK, hcl⟩ := C0
  intro ls H locs hl hP hD hS
  obtain ⟨hd, hc, -⟩ := rowOk_s htl h1
  have := pb_ok (l := l) (e := e) (R := R) (s := s) (m := m) (args := args) (below := below) (meth := meth) (H := H) (locs := locs) (cells := cells) (slots := slots) (Q := Q) (ad := id) (ls := ls) hx hb hd hc h2 (fun q => by rw [cvs_id]; exact h3 q ls H locs hl hP hD hS) (fun q => by rw [cvs_id]; exact h4 q ls H locs hl hP hD hS)
  rw [cvs_id] at this
  exact this
theorem Vw_go (C0 : Cx p s m args c cc own Ts nL tl D cl cA) {o : Int} (h1 : lkT tl pc = some (.goto o, n, nx, tg, x, wd, k, K)) (h3 : Vw p l e R s m args below meth c nL D cl A Q cells slots ws tg lv st) : Vw p l e R s m args below meth c nL D cl A Q cells slots ws pc lv st := by
  obtain ⟨hx, hb, hown, hts, htl, hK, hcl⟩ := C0
  intro ls H locs hl hP hD hS
  obtain ⟨hd, hc, -⟩ := rowOk_s htl h1
  simp only [ckE, Bool.and_eq_true, beq_iff_eq, decide_eq_true_eq] at hc
  obtain ⟨-, rfl, ho⟩ := hc
  exact lv_goto hx hb hd ho (h3 ls H locs hl hP hD hS)
theorem Vw_less (h1 : ∀ (i : Nat) (v : Value), lk lv' i = some v → lk lv i = some v) (h3 : Vw p l e R s m args below meth c nL D cl A Q cells slots ws pc lv' st) : Vw p l e R s m args below meth c nL D cl A Q cells slots ws pc lv st := fun ls H locs hl hP hD hS => h3 ls H locs (hl.less h1) hP hD hS
theorem Vw_wide {k n : Nat} (h1 : cells ≤ k) (h2 : slots ≤ n) (h3 : Vw p l e R s m args below meth c nL D cl A Q k n ws pc lv st) : Vw p l e R s m args below meth c nL D cl A Q cells slots ws pc lv st := fun ls H locs hl hP hD hS => W.widen h1 h2 (h3 ls H locs hl hP hD hS)
/-- Object's constructor -/
theorem Vw_obj (C0 : Cx p s m args c cc own Ts nL tl D cl cA) (hml : c.maxLocals = nL) {o a : Nat} (h1 : lkT tl pc = some (.invokespecial o, n, nx, tg, x, wd, k, K)) (w1 : Cond.methodLink own o objectInit ∈ Ts) (w2 : Cond.instanceMethod objectInit ∈ Ts) (w3 : Cond.code objectInit ⟨#[0xb1]⟩ 1 none ∈ Ts) (hfr : 1 ≤ R.frames) (hlo : 20 ≤ R.locals) (hst : (st.map fun v => v.category).sum ≤ 8) (h3 : Vw p l e R s m args below meth c nL D cl A Q cells slots ws nx lv st) : Vw p l e R s m args below meth c nL D cl A Q cells slots ws pc lv (.ref a :: st) := by
  obtain ⟨hx, hb, hown, hts, htl, hK, hcl⟩ := C0
  intro ls H locs hl hP hD hS
  obtain ⟨hd, hc, -⟩ := rowOk_s htl h1
  simp only [ckE, Bool.and_eq_true, beq_iff_eq] at hc
  obtain ⟨rfl, rfl⟩ := hc
  refine W.objInit hx hb hown (hts _ w1) (hts _ w2) (hts _ w3) rfl (by rw [hml]; exact hl.1.1) rfl hd (Nat.le_trans (Nat.le_refl 1) hfr) (by have := hst; show 2 * 0 + (st.map fun v => v.category).sum + 12 ≤ R.locals; omega) ?_
  exact W.eq rfl (h3 ls H locs hl hP hD hS)
theorem Vw_get (C0 : Cx p s m args c cc own Ts nL tl D cl cA) {o j ci a q0 : Nat} (h1 : lkT tl pc = some (.getfield o, n, nx, j, ci, wd, k, K)) {fs : List Value} (he : ws[q0]? = some (a, .inr (ci, fs))) {v : Value} (hv : fs[j]? = some v) (h3 : Vw p l e R s m args below meth c nL D cl A Q cells slots ws nx lv (v :: st)) : Vw p l e R s m args below meth c nL D cl A Q cells slots ws pc lv (.ref a :: st) := by
  obtain ⟨hx, hb, hown, hts, htl, hK, hcl⟩ := C0
  intro ls H locs hl hP hD hS
  obtain ⟨hd, hc, hf⟩ := rowOk_s htl h1
  simp only [ckE, Bool.and_eq_true, beq_iff_eq] at hc
  obtain ⟨rfl, rfl⟩ := hc
  simp only [ckF] at hf
  split at hf
  · rename_i C T N hC
    simp only [Bool.and_eq_true, decide_eq_true_eq] at hf
    obtain ⟨⟨hj, hd1⟩, hw⟩ := hf
    exact va_get (ci := ci) (C := C) (T := T) (N := N) hx hb hts (hcl ci C T N hC).1 hown hK hP q0 he hC j hj (hts _ (List.mem_of_getElem? hw)) (fun y hy => by rw [hd1] at hy; exact hy) hv hd (h3 ls H locs hl hP hD hS)
  · cases hf
theorem Vw_put (C0 : Cx p s m args c cc own Ts nL tl D cl cA) (hin : meth.name = "<init>") {o j ci a q0 : Nat} (h1 : lkT tl pc = some (.putfield o, n, nx, j, ci, wd, k, K)) {fs : List Value} (he : ws[q0]? = some (a, .inr (ci, fs))) {C : String} {T : u_T} {N : Nat} (hC : cl[ci]? = some (C, T, N)) (hCo : C = own) {v : Value} {ty : FieldType} (hty : parseFieldDescriptor (T j).2.2.1 = some ty) (hnar : narrow ty v = v) (hfit : fits ty v = true) (hlen : j < fs.length) (h3 : Vw p l e R s m args below meth c nL D cl A Q cells slots (ws.set q0 (a, .inr (ci, fs.set j v))) nx lv st) : Vw p l e R s m args below meth c nL D cl A Q cells slots ws pc lv (v :: .ref a :: st) := by
  obtain ⟨hx, hb, hown, hts, htl, hK, hcl⟩ := C0
  intro ls H locs hl hP hD hS
  obtain ⟨hd, hc, hf⟩ := rowOk_s htl h1
  simp only [ckE, Bool.and_eq_true, beq_iff_eq] at hc
  obtain ⟨rfl, rfl⟩ := hc
  simp only [ckF, hC, Bool.and_eq_true, decide_eq_true_eq] at hf
  obtain ⟨⟨⟨⟨⟨hj, hd1⟩, hw⟩, hff⟩, -⟩, -⟩ := hf
  obtain ⟨i1, ⟨ty0, i2⟩, i3⟩ := hcl ci C T N hC
  by_cases hfin : (T j).2.2.2 = true
  · exact va_putF hx hb hts i1 ty0 i2 i3 hown hK hP hD hS q0 he hC j hj (hts _ (List.mem_of_getElem? hw)) (fun y hy => by rw [hd1] at hy; exact hy) hfin hin (by rw [hd1]; exact hCo) hty hnar hfit hlen hd (fun H1 locs1 hP1 hD1 hS1 => h3 ls H1 locs1 hl hP1 hD1 hS1)
  · exact va_put hx hb hts i1 ty0 i2 i3 hown hK hP hD hS q0 he hC j hj (hts _ (List.mem_of_getElem? hw)) (fun y hy => by rw [hd1] at hy; exact hy) (by simpa using hfin) hty hnar hfit hlen hd (fun H1 locs1 hP1 hD1 hS1 => h3 ls H1 locs1 hl hP1 hD1 hS1)
/-- a new array of ints, longs or booleans -/
theorem Vw_newa (C0 : Cx p s m args c cc own Ts nL tl D cl cA) (hA : ∀ q, s.heap.size ≤ q → A q) {at0 : ArrayType} {ty : FieldType} {t0 : Nat} (h1 : lkT tl pc = some (.newarray at0, n, nx, tg, x, wd, k, K)) (hty : newarray.typeOf at0 = ty) (ht0 : (tysOf cA)[t0]? = some (cA t0, ty)) (hob : ∀ C, ty ≠ .object C) (w1 : Cond.arrayClass ty ∈ Ts) {N : Nat} {a0 : vp_A} (ha : ∀ cA : ClassId, vp_cell cA a0 = arrV cA N (fun _ => defaultValue ty)) (hN31 : N < 2 ^ 31) (hby : N * componentBytes ty ≤ 536870912) (hce : cells + 1 ≤ R.cells) (hsl : slots + N ≤ R.slots) (h3 : ∀ q, Vw p l e R s m args below meth c nL D cl A Q (cells + 1) (slots + N) (ws ++ [(q, .inl (cA t0, a0))]) nx lv (.ref q :: st)) : Vw p l e R s m args below meth c nL D cl A Q cells slots ws pc lv (.int (nI N) :: st) := by
  obtain ⟨hx, hb, hown, hts, htl, hK, hcl⟩ := C0
  intro ls H locs hl hP hD hS
  obtain ⟨hd, hc, -⟩ := rowOk_s htl h1
  simp only [ckE, Bool.and_eq_true, beq_iff_eq] at hc
  obtain ⟨rfl, rfl⟩ := hc
  subst hty
  refine va_newa (a0 := a0) hx hb (hts _ w1) rfl hK hP hD hS hA ha (nI_pos hN31) (nI_clamp hN31) hby hce hsl hd (fun q cB H1 hK1 hP1 hD1 hS1 => ?_)
  have e : cB = cA t0 := by
    have r1 := (hK1.2 5 (cB, newarray.typeOf at0) rfl).2
    have r2 := (hK.2 t0 _ ht0).2
    have f1 : ∀ {c0 : ClassId}, va_RA s c0 (newarray.typeOf at0) → s.vm.findClass ("[" ++ (newarray.typeOf at0).toString) = some c0 := by
      intro c0 h0
      generalize hty : newarray.typeOf at0 = ty at h0 hob ⊢
      cases ty with
      | object C => exact absurd rfl (hob C)
      | _ => exact h0
    exact Option.some.inj ((f1 r1).symm.trans (f1 r2))
  subst e
  exact h3 q ls H1 locs hl hP1 hD1 hS1
/-- a new object -/
theorem Vw_new (C0 : Cx p s m args c cc own Ts nL tl D cl cA) (hA : ∀ q, s.heap.size ≤ q → A q) {o ci : Nat} (h1 : lkT tl pc = some (.new o, n, nx, tg, x, wd, k, K)) {C : String} {T : u_T} {N : Nat} (hC : cl[ci]? = some (C, T, N)) (w1 : Cond.classLink own o C ∈ Ts) (w2 : Cond.instantiable C N ∈ Ts) (w3 : Cond.initialized C ∈ Ts) {fs : List Value} {ty : Nat → FieldType} (hty : ∀ j, j < N → parseFieldDescriptor (T j).2.2.1 = some (ty j)) (hfs : ∀ j, j < N → defaultValue (ty j) = vp_V fs j) (hce : cells + 1 ≤ R.cells) (hsl : slots + N ≤ R.slots) (h3 : ∀ q, Vw p l e R s m args below meth c nL D cl A Q (cells + 1) (slots + N) (ws ++ [(q, .inr (ci, fs))]) nx lv (.ref q :: st)) : Vw p l e R s m args below meth c nL D cl A Q cells slots ws pc lv st := by
  obtain ⟨hx, hb, hown, hts, htl, hK, hcl⟩ := C0
  intro ls H locs hl hP hD hS
  obtain ⟨hd, hc, -⟩ := rowOk_s htl h1
  simp only [ckE, Bool.and_eq_true, beq_iff_eq] at hc
  obtain ⟨rfl, rfl⟩ := hc
  exact va_new (ci := ci) (C := C) (T := T) (N := N) hx hb hts (hcl ci C T N hC).1 ty hty hown (hts _ w1) (hts _ w2) (hts _ w3) hK hP hD hS hA hC hfs hce hsl hd (fun q H1 hP1 hD1 hS1 => h3 q ls H1 locs hl hP1 hD1 hS1)
end
end VW
