/-! THE LAW'S HELPERS: a call that may throw, caught -/
section HLA
/-- no one of the three exceptions is another -/
def NC (U : State) : Prop := ∀ E E' : Nat, E < 3 → E' < 3 → E ≠ E' → ∀ c c' : ClassId, U.vm.findClass (exN E) = some c → U.vm.findClass (exN E') = some c' → U.vm.assignable c c' = false
theorem NC.moved {u U : State} (hvm : u.vm.Alike U.vm) (h : NC u) : NC U := by
  intro E E' h1 h2 h3 c c' hc hc'
  rw [hvm.findClass] at hc hc'
  rw [hvm.assignable]
  exact h E E' h1 h2 h3 c c' hc hc'
variable {p : Program} {l : Launch} {e : Env} {R : Room} {s : State} {m : MethodId} {args : Array Value} {below : List Frame} {meth : Method} {c : Code} {cells slots : Nat} {cc : ByteArray} {own : String} {nL : Nat} {tl : List (Nat × RowE)} {D : va_G} {cl : List vw_C} {cA : Nat → ClassId} {ad : Nat → Nat} {A : Nat → Prop} {sl : List Sh} {St : (Nat → Prop) → State → Heap → Prop} {Q : State → Prop}
set_option maxHeartbeats 1000000 in
/-- a call of a method that may throw, over its own cells; what is below on the stack is as it is -/
theorem callR (C0 : Cx p s m args c cc own wg nL tl D cl cA) (hml : c.maxLocals = nL) (hSt : StOk St) (hst : St A s s.heap)
    {pc n nx tg x wd o : Nat} {k : Int32} {K : Int64} (h1 : lkT tl pc = some (.invokevirtual o, n, nx, tg, x, wd, k, K)) {y : MethodName} {bytes : ByteArray} {maxL : Nat} {ret : Option FieldType} {rm : Room} {N : Nat} (cw : CwV own o y bytes maxL ret N) (hrm : (rm.frames + 1 ≤ R.frames ∧ 8 + (maxL + 11) + rm.locals ≤ R.locals) ∧ cells + rm.cells ≤ R.cells ∧ slots + rm.slots ≤ R.slots)
    {b ci M : Nat} {fs : List Nat} {T0 : u_T} (hb1 : sl[b]? = some (.inl (ci, fs))) (hb2 : cl[ci]? = some (y.cls, T0, M)) {As : List Value} (hN : As.length = N) {h : Hp} {post : Option Value → Hp → Prop} {pst : Nat → Hp → Prop} (hM : CtT l y bytes maxL ret rm D cl cA sl St ad (.ref b :: As) h post pst) {rs : List Value} (hs8 : (rs.map fun v => v.category).sum ≤ 8)
    {ls : Array Slot} {locs : List Loc} {T : State} (hls : ls.size = nL) (hP : va_P D cl (Wd sl cA ad h) T.heap) (hDt : va_D (fun _ => True) (Wd sl cA ad h)) (hI : ∀ q, va_A (Wd sl cA ad h) T.heap.size q → A q) (hS : va_S A s.heap T.heap locs) (X : Stand p l e R s m args below meth c T locs cells slots) :
    (∃ (r : Option Value) (h' : Hp) (T' : State) (L : List Loc), post r h' ∧ va_P D cl (Wd sl cA ad h') T'.heap ∧ va_D (va_A (Wd sl cA ad h) T.heap.size) (Wd sl cA ad h') ∧ T.heap.size ≤ T'.heap.size ∧ (∀ q : Nat, q < T.heap.size → ¬ va_A (Wd sl cA ad h) T.heap.size q → T'.heap[q]? = T.heap[q]?) ∧ (∀ z ∈ L, va_A (Wd sl cA ad h) T.heap.size z.base) ∧ Stand p l e R s m args below meth c T' (locs ++ L) cells slots ∧ Steps p.tables e below (T.setTop (F0 m pc ls ((As.map (cv ad)).reverse ++ .ref (ad b) :: rs))) (T'.setTop (F0 m nx ls ((r.map (cv ad)).toList ++ rs)))) ∨
    (∃ (E : Nat) (h' : Hp) (q : Nat) (ce : Cell) (T' : State) (L : List Loc), E < 3 ∧ pst E h' ∧ T'.heap[q]? = some ce ∧ ce.vm = .none ∧ s.vm.findClass (exN E) = some ce.cls ∧ va_P D cl (Wd sl cA ad h') T'.heap ∧ va_D (va_A (Wd sl cA ad h) T.heap.size) (Wd sl cA ad h') ∧ T.heap.size ≤ T'.heap.size ∧ (∀ q : Nat, q < T.heap.size → ¬ va_A (Wd sl cA ad h) T.heap.size q → T'.heap[q]? = T.heap[q]?) ∧ (∀ z ∈ L, va_A (Wd sl cA ad h) T.heap.size z.base) ∧ Stand p l e R s m args below meth c T' (locs ++ L) (cells + 1) (slots + 6) ∧ Steps p.tables e below (T.setTop (F0 m pc ls ((As.map (cv ad)).reverse ++ .ref (ad b) :: rs))) ((T'.setTop (F0 m pc ls rs)).pushFrame (.throwing q))) := by
  obtain ⟨hx, hb, hown, hts, htl, hK, hcl⟩ := C0
  obtain ⟨hd, hc, -⟩ := rowOk_s htl h1
  simp only [ckE, Bool.and_eq_true, beq_iff_eq] at hc
  obtain ⟨rfl, rfl⟩ := hc
  obtain ⟨w1, w2, w3, w4, w5, w6, w7, w8⟩ := cw
  have hws : ∀ w ∈ wg, ∀ (a' : Array Value) (U : State), s.WarmedH U.vm → w.before a' U = true := fun w hw a' U hW => word_at hW (wg_good w hw).2 (hts w hw)
  obtain ⟨cellB, hcB, hoB, hclB⟩ := va_recv hK hP hb2 (Wd_at hb1)
  obtain ⟨mk, methM, hnamed, hmethM, hstM, habM⟩ := Cond.instanceMethod_spec (hts _ w2)
  obtain ⟨methM', cM, hmethM', -, -, -, -, -, -, hsigM⟩ := Cond.code_spec hnamed (hts _ w5)
  cases hmethM.symm.trans hmethM'
  obtain ⟨c2, r2, m2, q1, q2, q3, q4, kP, hkP, hkPi⟩ := Cond.selects_spec (hts _ w3)
  cases hclB.symm.trans q1
  cases (State.methodFound?_of_named hnamed ⟨w6, w7⟩).symm.trans q2
  cases hnamed.symm.trans q3
  have hselP : selectMethod e.platform s.vm cellB.cls mk = .method mk := by rw [Launch.admits_selectMethod X.admits]; exact q4
  have hlen : (As.map (cv ad)).length = methM.sig.parameters.length := by
    rw [hsigM] at w8
    rw [List.length_map, hN]
    exact (Option.some.inj w8).symm
  obtain ⟨vm₁, X₁, hstep₁⟩ := X.invokevirtual hx hown (hts _ w1) hnamed hmethM hstM hkP hkPi ⟨w6, w7⟩ (a := ad b) (cell := cellB) hcB (fun z hz => by rw [hz] at hoB; cases hoB) hselP hmethM habM hkP hkPi (g := F0 m pc ls ((As.map (cv ad)).reverse ++ .ref (ad b) :: rs)) rfl (argsL := As.map (cv ad)) (rest := rs) hlen rfl (by rw [hb]; exact hd)
  have hW₁ := X₁.warmed
  have hPx : Px D cl cA sl St ad (.ref b :: As) h T.heap.size (Value.ref (ad b) :: As.map (cv ad)).toArray (T.setVm vm₁) := by
    refine ⟨rfl, rfl, hP, va_K.moved hW₁.alike hK, hDt, ?_⟩
    exact hSt.1.2 _ s _ _ hW₁ (hSt.2.2 _ _ _ _ (hSt.2.1 _ _ _ _ hst (fun q z1 z2 => hS.2.1 q z1 z2)) hI)
  obtain ⟨o', t, hq, hk⟩ := call_any (W9 := 8) (a := (Value.ref (ad b) :: As.map (cv ad)).toArray) (hM T.heap.size) X₁ (g := F0 m pc ls rs) rfl (by rw [hml]; exact hls) (by rw [hb]; exact hd) (lv_room hs8) (X₁.named hnamed)
    (atoms_intro fun w hw => by
      rcases List.mem_cons.mp hw with rfl | hw
      · exact hws _ w5 _ _ hW₁
      · exact hws w hw _ _ hW₁) (bytes := bytes) (maxL := maxL) (ret := ret) (hws _ w5 _ _ hW₁) (hws _ w4 _ _ hW₁) hrm.1.1 hrm.1.2 hrm.2.1 hrm.2.2 (Px_blind hSt _ _ _ _ hPx)
  rcases hq with ⟨⟨⟨r, h', ho, hp, hP1, hD1⟩, hF⟩, L, hfe, hL⟩ | ⟨q, ho, ⟨E, h', ce, hE, hp, hce, hvm, hcn, hP1, hD1, hF⟩, hWt, L, hsm, hL⟩
  · left
    obtain ⟨T', e1, e2, X', stp⟩ := (hk L 0 0).1 _ ho hfe
    exact ⟨r, h', T', L, hp, by rw [e1]; exact hP1, hD1, by rw [e1]; exact hF.1, fun q z1 z2 => by rw [e1]; exact hF.2 q z1 z2, hL, X', hstep₁ _ (fun acts => by rw [doInvoke_state]; exact stp)⟩
  · right
    obtain ⟨T', e1, e2, X', stp⟩ := (hk L 1 6).2 q ho hWt hsm
    exact ⟨E, h', q, ce, T', L, hE, hp, by rw [e1]; exact hce, hvm, hW₁.alike.findClass (exN E) none ▸ hcn, by rw [e1]; exact hP1, hD1, by rw [e1]; exact hF.1, fun q z1 z2 => by rw [e1]; exact hF.2 q z1 z2, hL, X', hstep₁ _ (fun acts => by rw [doInvoke_state]; exact stp)⟩
/-- which exception a handler's row names -/
def ctE (ct : Nat) : Nat := if ct = 13 then 0 else if ct = 19 then 1 else 2
/-- the rows that a helper's table may have -/
def rowsOk (pc : Nat) (hh : List (Nat × Nat × Nat × Nat)) : Bool := hh.all (fun r => decide (r.1 ≤ pc) && decide (pc < r.2.1) && (r.2.2.2 == 13 || r.2.2.2 == 19 || r.2.2.2 == 21))
theorem lnk (hts : ∀ w ∈ wg, w.before args s = true) {ct : Nat} (h : ct = 13 ∨ ct = 19 ∨ ct = 21) : (Cond.classLink "TogetherOrdersLaw" ct (exN (ctE ct))).before args s = true := by
  rcases h with rfl | rfl | rfl
  · exact hts _ (wg_in 332 (by decide +kernel) rfl)
  · exact hts _ (wg_in 412 (by decide +kernel) rfl)
  · exact hts _ (wg_in 413 (by decide +kernel) rfl)
theorem ctE_lt (ct : Nat) : ctE ct < 3 := by
  unfold ctE
  split
  · omega
  · split <;> omega
/-- the throw of a callee, caught by the row that names it -/
theorem caught (hown : s.vm.findClass "TogetherOrdersLaw" = some m.cls) (hts : ∀ w ∈ wg, w.before args s = true) (hnc : NC s) (hcs : ∀ E, E < 3 → va_Nw (.castable (exN E) (exN E)) s) {hh : List (Nat × Nat × Nat × Nat)} (hex : c.exceptionTable.toList.map (fun h => (h.startPc, h.endPc, h.handlerPc, h.catchType)) = hh) {pc E : Nat} (hE : E < 3) (hr : rowsOk pc hh = true) {r0 : Nat × Nat × Nat × Nat} (hf : hh.find? (fun r => ctE r.2.2.2 == E) = some r0)
    {T : State} {locs : List Loc} (X : Stand p l e R s m args below meth c T locs cells slots) {q : Nat} {ce : Cell} (hce : T.heap[q]? = some ce) (hvm : ce.vm = .none) (hcl : s.vm.findClass (exN E) = some ce.cls) {ls : Array Slot} {rs : List Value} {s₀ : State} (hcome : Steps p.tables e below s₀ ((T.setTop (F0 m pc ls rs)).pushFrame (.throwing q))) :
    ∃ vm', Stand p l e R s m args below meth c (T.setVm vm') locs cells slots ∧ Steps p.tables e below s₀ ((T.setVm vm').setTop (F0 m r0.2.2.1 ls [.ref q])) := by
  subst hex
  rw [List.find?_map] at hf
  obtain ⟨x, hx, rfl⟩ := Option.map_eq_some_iff.mp hf
  obtain ⟨hpx, pre, rest, hsp, hpre⟩ := List.find?_eq_some_iff_append.mp hx
  have hpx : ctE x.catchType = E := by simpa using hpx
  have hall : ∀ y ∈ c.exceptionTable.toList, (y.startPc ≤ pc ∧ pc < y.endPc) ∧ (y.catchType = 13 ∨ y.catchType = 19 ∨ y.catchType = 21) := by
    intro y hy
    have h1 := List.all_eq_true.mp hr _ (List.mem_map.mpr ⟨y, hy, rfl⟩)
    simp only [Bool.and_eq_true, decide_eq_true_eq, Bool.or_eq_true, beq_iff_eq] at h1
    exact ⟨h1.1, by rcases h1.2 with (z | z) | z; exact Or.inl z; exact Or.inr (Or.inl z); exact Or.inr (Or.inr z)⟩
  have hcov : ∀ y ∈ c.exceptionTable.toList, covers y pc = true := fun y hy => by
    have := (hall y hy).1
    simp [covers, this.1, this.2]
  have hxm : x ∈ c.exceptionTable.toList := by rw [hsp]; simp
  have hne : ∀ y ∈ c.exceptionTable.toList, y.catchType ≠ 0 := fun y hy => by
    have := (hall y hy).2
    omega
  have hcX := lnk hts (hall x hxm).2
  rw [hpx] at hcX
  have hasg : s.vm.assignable ce.cls ce.cls = true := by
    have h1 := hcs E hE
    have h2 : (Cond.castable (exN E) (exN E)).before #[] s = true := h1
    simpa [Cond.before, Cond.holds, Cond.value, hcl] using h2
  obtain ⟨hend, hk0⟩ := X.catches_of_link hown (hne x hxm) hcX hcl hasg
  have hpl : e.platform.magicAccessors = ({} : Platform).magicAccessors := by rw [X.admits.platform]
  have hpass : ∀ y ∈ pre, RowPassed e.platform s m.cls (F0 m pc ls rs).pc ce.cls y := by
    intro y hy
    have hym : y ∈ c.exceptionTable.toList := by rw [hsp]; exact List.mem_append_left _ hy
    have hyE : ctE y.catchType ≠ E := by simpa using hpre y hy
    obtain ⟨c', hc', hcl'⟩ := Cond.classLink_spec hown (lnk hts (hall y hym).2) e.platform hpl
    exact Or.inr ⟨hne y hym, c', hcl', hnc E _ hE (ctE_lt _) (Ne.symm hyE) _ _ hcl hc'⟩
  obtain ⟨vm', X', st⟩ := X.thenCaughtThrough q (g := F0 m pc ls rs) rfl hcome hce (by rw [hvm]; rfl) hk0 pre x rest hsp hpass (hcov x hxm) hend
  exact ⟨vm', X', st⟩
/-- the call of the class's method by a helper: it goes on, or at its handler -/
theorem Vw_callT {ws : va_W} (C0 : Cx p s m args c cc "TogetherOrdersLaw" wg nL tl D cls cA) (hml : c.maxLocals = nL) (hA : ∀ q, s.heap.size ≤ q → A q) (hst : StX ad A s s.heap) (hnc : NC s) {hh : List (Nat × Nat × Nat × Nat)} (hex : c.exceptionTable.toList.map (fun h => (h.startPc, h.endPc, h.handlerPc, h.catchType)) = hh)
    {pc n nx tg x wd o : Nat} {k : Int32} {K : Int64} (h1 : lkT tl pc = some (.invokevirtual o, n, nx, tg, x, wd, k, K)) {y : MethodName} {bytes : ByteArray} {maxL : Nat} {ret : Option FieldType} {N : Nat} (cw : CwV "TogetherOrdersLaw" o y bytes maxL ret N) (hy : y.cls = "TogetherOrders") (hrm : (9 ≤ R.frames ∧ 8 + (maxL + 11) + 480 ≤ R.locals) ∧ cells + 1 ≤ R.cells ∧ slots + 6 ≤ R.slots)
    {As : List Value} (hN : As.length = N) {h : Hp} {post : Option Value → Hp → Prop} {pst : Nat → Hp → Prop} (hM : CtT l y bytes maxL ret (rmT 8) D cls cA slC (StX ad) ad (.ref 0 :: As) h post pst) {rs : List Value} (hs8 : (rs.map fun v => v.category).sum ≤ 8) {lv : List (Option Value)} (hr : rowsOk pc hh = true)
    (kn : ∀ r h', post r h' → Vw p l e R s m args below meth c nL D cls A Q cells slots (ws ++ Wd slC cA ad h') nx lv ((r.map (cv ad)).toList ++ rs))
    (kt : ∀ E h' q, E < 3 → pst E h' → ∃ r0, hh.find? (fun r => ctE r.2.2.2 == E) = some r0 ∧ Vw p l e R s m args below meth c nL D cls A Q (cells + 1) (slots + 6) (ws ++ Wd slC cA ad h') r0.2.2.1 lv [.ref q]) : Vw p l e R s m args below meth c nL D cls A Q cells slots (ws ++ Wd slC cA ad h) pc lv ((As.map (cv ad)).reverse ++ .ref (ad 0) :: rs) := by
  intro ls H locs hl hP hD hS T hT X
  subst hT
  obtain ⟨hPc, hDc⟩ := sub_r hP hD
  have hFc := free_r hD hS hA
  have hS2 : ∀ {T' : State} {L : List Loc}, T.heap.size ≤ T'.heap.size → (∀ q : Nat, q < T.heap.size → ¬ va_A (Wd slC cA ad h) T.heap.size q → T'.heap[q]? = T.heap[q]?) → (∀ z ∈ L, va_A (Wd slC cA ad h) T.heap.size z.base) → va_S A s.heap T'.heap (locs ++ L) := by
    intro T' L hz hk hL
    refine ⟨Nat.le_trans hS.1 hz, fun q z1 z2 => by rw [hk q (Nat.lt_of_lt_of_le z1 hS.1) (fun z => z2 (hFc q z))]; exact hS.2.1 q z1 z2, fun q hq => ?_⟩
    rcases List.mem_append.mp hq with hq | hq
    · exact hS.2.2 q hq
    · exact hFc _ (hL q hq)
  have hb2 : cls[0]? = some (y.cls, FK0, 9) := by rw [hy]; rfl
  rcases callR C0 hml (StX_ok ad) hst h1 cw ⟨hrm.1, hrm.2⟩ (b := 0) (ci := 0) rfl hb2 hN hM hs8 hl.1.1 hPc (hDc.weaken (fun _ _ _ _ => trivial)) hFc hS X with ⟨r, h', T', L, hp, hP1, hD1, hz, hk, hL, X', stp⟩ | ⟨E, h', q, ce, T', L, hE, hp, hce, hvm, hcn, hP1, hD1, hz, hk, hL, X', stp⟩
  · obtain ⟨hP2, hD2⟩ := join2 hP hD hk hFc hP1 hD1
    obtain ⟨t, a1, b1⟩ := kn r h' hp ls T'.heap (locs ++ L) hl hP2 hD2 (hS2 hz hk hL) T' rfl X'
    exact ⟨t, stp.trans a1, b1⟩
  · obtain ⟨hP2, hD2⟩ := join2 hP hD hk hFc hP1 hD1
    obtain ⟨r0, hf, V0⟩ := kt E h' q hE hp
    obtain ⟨vm', X2, st2⟩ := caught C0.2.2.1 C0.2.2.2.1 hnc hst.2.2.2.1 hex hE hr hf X' hce hvm hcn stp
    obtain ⟨t, a1, b1⟩ := V0 ls T'.heap (locs ++ L) hl hP2 hD2 (hS2 hz hk hL) (T'.setVm vm') rfl X2
    exact ⟨t, st2.trans a1, b1⟩
theorem Vw_last {ws : va_W} (C0 : Cx p s m args c cc own wg nL tl D cl cA) {pc n nx tg x wd q0 a N : Nat} {k : Int32} {K : Int64} {lv : List (Option Value)} {st : List Value} {f : Nat → Int64} {v : Int64} {i : Nat} (h1 : lkT tl pc = some (.lastore, n, nx, tg, x, wd, k, K)) (he : ws[q0]? = some (a, .inl (cA 1, N, .inr (.inl f)))) (hi : i < N) (hN : N < 2 ^ 31) (h3 : Vw p l e R s m args below meth c nL D cl A Q cells slots (ws.set q0 (a, .inl (cA 1, N, .inr (.inl (vp_updL f i v))))) nx lv st) : Vw p l e R s m args below meth c nL D cl A Q cells slots ws pc lv (.long v :: .int (nI i) :: .ref a :: st) := by
  obtain ⟨hx, hb, hown, hts, htl, hK, hcl⟩ := C0
  intro ls H locs hl hP hD hS
  obtain ⟨hd, hc, -⟩ := rowOk_s htl h1
  simp only [ckE, Bool.and_eq_true, beq_iff_eq] at hc
  obtain ⟨rfl, rfl⟩ := hc
  refine va_last hx hb hK hP hD hS q0 1 he (tys_1 cA) (vp_in_nI hi hN) hd (fun H1 locs1 hP1 hD1 hS1 => ?_)
  rw [nI_clamp (by omega)] at hP1 hD1
  exact h3 ls H1 locs1 hl hP1 hD1 hS1
theorem Vw_lald {ws : va_W} (C0 : Cx p s m args c cc own wg nL tl D cl cA) {pc n nx tg x wd q0 a N : Nat} {k : Int32} {K : Int64} {lv : List (Option Value)} {st : List Value} {f : Nat → Int64} {i : Nat} (h1 : lkT tl pc = some (.laload, n, nx, tg, x, wd, k, K)) (he : ws[q0]? = some (a, .inl (cA 1, N, .inr (.inl f)))) (hi : i < N) (hN : N < 2 ^ 31) (h3 : Vw p l e R s m args below meth c nL D cl A Q cells slots ws nx lv (.long (f i) :: st)) : Vw p l e R s m args below meth c nL D cl A Q cells slots ws pc lv (.int (nI i) :: .ref a :: st) := by
  obtain ⟨hx, hb, hown, hts, htl, hK, hcl⟩ := C0
  intro ls H locs hl hP hD hS
  obtain ⟨hd, hc, -⟩ := rowOk_s htl h1
  simp only [ckE, Bool.and_eq_true, beq_iff_eq] at hc
  obtain ⟨rfl, rfl⟩ := hc
  refine va_lald hx hb hK hP q0 1 he (tys_1 cA) (vp_in_nI hi hN) hd ?_
  rw [nI_clamp (by omega)]
  exact h3 ls H locs hl hP hD hS
/-- the world of a helper: the law's one long, the class's cells -/
def WH (cA : Nat → ClassId) (ad : Nat → Nat) (o : Nat) (f : Nat → Int64) (h : Hp) : va_W := [(o, .inl (cA 1, 1, .inr (.inl f)))] ++ Wd slC cA ad h
def PH (D : va_G) (cA : Nat → ClassId) (ad : Nat → Nat) (o : Nat) (f : Nat → Int64) (avs : List Value) (h : Hp) (sz : Nat) : Array Value → State → Prop := va_Pc avs (fun U => U.heap.size = sz ∧ va_P D cls (WH cA ad o f h) U.heap ∧ va_K D cls (tysOf cA) U ∧ va_D (fun _ => True) (WH cA ad o f h) ∧ StX ad (va_A (WH cA ad o f h) sz) U U.heap ∧ NC U)
def QH (D : va_G) (cA : Nat → ClassId) (ad : Nat → Nat) (o : Nat) (A : Nat → Prop) (res : Int32 → Hp → (Nat → Int64) → Prop) : Array Value → State → Outcome → State → Prop := va_Qi (S := Hp × (Nat → Int64)) (fun rc u => res rc u.1 u.2) (fun u t => va_P D cls (WH cA ad o u.2 u.1) t.heap ∧ va_D A (WH cA ad o u.2 u.1)) A
def CtH (l : Launch) (y : MethodName) (bytes : ByteArray) (maxL : Nat) (hh : List (Nat × Nat × Nat × Nat)) (D : va_G) (cA : Nat → ClassId) (ad : Nat → Nat) (o : Nat) (f : Nat → Int64) (avs : List Value) (h : Hp) (res : Int32 → Hp → (Nat → Int64) → Prop) : Prop :=
  ∀ sz : Nat, Met l y (Cond.codeWith y bytes maxL (some .int) hh :: wg) (rmN 9 1 6) (PH D cA ad o f avs h sz) (QH D cA ad o (va_A (WH cA ad o f h) sz) res) 1 6 (va_A (WH cA ad o f h) sz)
set_option maxHeartbeats 1000000 in
theorem CtH_of {l : Launch} {y : MethodName} {bytes : ByteArray} {maxL : Nat} {hh : List (Nat × Nat × Nat × Nat)} {D : va_G} {cA : Nat → ClassId} {ad : Nat → Nat} {o : Nat} {f : Nat → Int64} {avs : List Value} {h : Hp} {res : Int32 → Hp → (Nat → Int64) → Prop} {tl : List (Nat × RowE)} (hy : y.cls = "TogetherOrdersLaw") (htl : tl.all (rowOk bytes "TogetherOrdersLaw" wg maxL cls) = true) (hlen : (lg_sl avs).length ≤ maxL)
    (body : ∀ {p : Program} {e : Env} {s : State} {m : MethodId} {args : Array Value} {below : List Frame} {meth : Method} {c : Code} {A : Nat → Prop} {Q : State → Prop}, Cx p s m args c bytes "TogetherOrdersLaw" wg maxL tl D cls cA → c.maxLocals = maxL → (∀ q, s.heap.size ≤ q → A q) → StX ad A s s.heap → NC s → c.exceptionTable.toList.map (fun h => (h.startPc, h.endPc, h.handlerPc, h.catchType)) = hh → (∀ {cells slots : Nat} {h' : Hp} {f' : Nat → Int64} {pc n nx tg x wd : Nat} {k : Int32} {K : Int64} {lv : List (Option Value)} {v : Int32}, cells ≤ 1 → slots ≤ 6 → lkT tl pc = some (.ireturn, n, nx, tg, x, wd, k, K) → res v h' f' → Vw p l e (rmN 9 1 6) s m args below meth c maxL D cls A Q cells slots (WH cA ad o f' h') pc lv [.int v]) → Vw p l e (rmN 9 1 6) s m args below meth c maxL D cls A Q 0 0 (WH cA ad o f h) 0 (ent avs maxL) []) : CtH l y bytes maxL hh D cA ad o f avs h res := by
  intro sz
  refine va_MetW (cc := bytes) (maxL := maxL) (ret := some .int) (hh := hh) (by rw [hy]; decide) rfl ?_
  intro p e s m args below meth c s₁ B hml hv
  obtain ⟨rfl, hsz, hP, hK, hD0, hst, hnc⟩ := hv
  have hx := B.exec
  have hb := B.bytes
  have hr := B.returns
  have hts0 := atoms_spec (ws := Cond.codeWith y bytes maxL (some .int) hh :: wg) B.pre
  have hts : ∀ w ∈ wg, w.before avs.toArray s = true := fun w hw => hts0 w (List.mem_cons_of_mem _ hw)
  have hown : s.vm.findClass "TogetherOrdersLaw" = some m.cls := by
    rw [← hy]
    exact findClass_of_methodNamed B.named
  have hlocks := B.notSynchronized
  have X0 := Stand.of_body B
  have hex : c.exceptionTable.toList.map (fun h => (h.startPc, h.endPc, h.handlerPc, h.catchType)) = hh := by
    obtain ⟨m9, meth', c', hn9, h1, h2, -, -, h5, -⟩ := Cond.codeWith_spec (hts0 _ List.mem_cons_self)
    cases hn9.symm.trans B.named
    have e1 : meth' = meth := Option.some.inj (h1.symm.trans B.method)
    subst e1
    have e2 : c' = c := Option.some.inj (h2.symm.trans X0.code)
    subst e2
    exact h5
  subst hsz
  have hD := hD0.self (sz := s.heap.size)
  have hA : ∀ q : Nat, s.heap.size ≤ q → va_A (WH cA ad o f h) s.heap.size q := fun q hq => Or.inr hq
  have C0 : Cx p s m avs.toArray c bytes "TogetherOrdersLaw" wg maxL tl D cls cA := ⟨hx, hb, hown, hts, htl, hK, cls_ok⟩
  have hl0 := lv_entry avs (n := maxL) hlen
  rw [lg_entry_eq]
  refine body C0 hml hA hst hnc hex ?_ _ s.heap [] ⟨⟨hl0.1, hl0.2.1, fun q hq => by cases hq⟩, fun i v hi => ?_⟩ hP hD va_S.rf
  · intro cells slots h' f' pc n nx tg x wd k K lv v hce hsl h1 hp ls H locs hl hP hD hS
    obtain ⟨hd, hc, -⟩ := rowOk_s htl h1
    simp only [ckE, Bool.and_eq_true, beq_iff_eq] at hc
    obtain ⟨-, rfl⟩ := hc
    refine W.widen hce hsl ?_
    exact W.iret hx hb hr (fun t ht _ => ⟨⟨v, (h', f'), rfl, hp, by rw [ht]; exact hP, hD⟩, hS.F ht⟩) hS.2.2 hd
  · have h1 := ent_args id avs maxL 0 i v hi
    rw [Nat.zero_add, cvs_id] at h1
    exact hl0.2.2 _ h1
end HLA
