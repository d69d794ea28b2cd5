/-! THE LAW: its calls, the script, the switch -/
section LWA
variable {p : Program} {l : Launch} {e : Env} {R : Room} {s : State} {m : MethodId} {args : Array Value} {below : List Frame} {meth : Method} {c : Code} {cells slots : Nat} {cc : ByteArray} {own : String} {nL : Nat} {tl : List (Nat × RowE)} {D : va_G} {cl : List vw_C} {cA : Nat → ClassId} {ad : Nat → Nat} {A : Nat → Prop} {sl : List Sh} {St : (Nat → Prop) → State → Heap → Prop} {Q : State → Prop}
theorem Vw_swap {a b c0 : va_W} {pc : Nat} {lv : List (Option Value)} {st : List Value} (h3 : Vw p l e R s m args below meth c nL D cl A Q cells slots ((a ++ c0) ++ b) pc lv st) : Vw p l e R s m args below meth c nL D cl A Q cells slots ((a ++ b) ++ c0) pc lv st := Vw_conv (fun H hP => hP.swap) (fun hD => hD.swap) h3
theorem Vw_callV {wr : va_W} (C0 : Cx p s m args c cc own wg nL tl D cl cA) (hml : c.maxLocals = nL) (hA : ∀ q, s.heap.size ≤ q → A q) (hSt : StOk St) (hst : St A s s.heap) (hcap : cells ≤ R.cells ∧ slots ≤ R.slots)
    {pc n nx tg x wd o : Nat} {k : Int32} {K : Int64} (h1 : lkT tl pc = some (.invokevirtual o, n, nx, tg, x, wd, k, K)) {y : MethodName} {bytes : ByteArray} {maxL : Nat} {ret : Option FieldType} {rm : Room} {N : Nat} (cw : CwV own o y bytes maxL ret N) (hrm : rm.cells = 0 ∧ rm.slots = 0 ∧ rm.frames + 1 ≤ R.frames ∧ 8 + (maxL + 11) + rm.locals ≤ R.locals)
    {b ci M : Nat} {fs : List Nat} {T0 : u_T} (hb1 : sl[b]? = some (.inl (ci, fs))) (hb2 : cl[ci]? = some (y.cls, T0, M)) {As : List Value} (hN : As.length = N) {h : Hp} {post : Option Value → Hp → Prop} (hM : Ct l y bytes maxL ret rm D cl cA sl St ad (.ref b :: As) h post) {lv : List (Option Value)} {rs : List Value} (hs8 : (rs.map fun v => v.category).sum ≤ 8)
    (kk : ∀ (r : Option Value) (h' : Hp), post r h' → Vw p l e R s m args below meth c nL D cl A Q cells slots (wr ++ Wd sl cA ad h') nx lv ((r.map (cv ad)).toList ++ rs)) : Vw p l e R s m args below meth c nL D cl A Q cells slots (wr ++ Wd sl cA ad h) pc lv ((As.map (cv ad)).reverse ++ .ref (ad b) :: rs) := by
  intro ls H locs hl hP hD hS T hT X
  obtain ⟨hx, hb, hown, hts, htl, hK, hcl⟩ := C0
  obtain ⟨hd, hc, -⟩ := rowOk_s htl h1
  simp only [ckE, Bool.and_eq_true, beq_iff_eq] at hc
  obtain ⟨rfl, rfl⟩ := hc
  obtain ⟨w1, w2, w3, w4, w5, w6⟩ := cw
  obtain ⟨hPc, hDc⟩ := sub_r hP hD
  have hFc := free_r hD hS hA
  have cb : CallW R s args own y.cls o y bytes maxL ret (Cond.code y bytes maxL ret :: wg) rm 0 0 N := ⟨callB_of N hts (wg_cons w5) rfl hrm.1 hrm.2.1 (hts _ w4) (hts _ w1) w6 hrm.2.2, hts _ w2, hts _ w3⟩
  have hpre : PreV s H y.cls (ad b) (Px D cl cA sl St ad (.ref b :: As) h H.size) (As.map (cv ad)) := by
    refine ⟨Px_blind hSt, va_recv hK hPc hb2 (Wd_at hb1), fun U hU hW => ⟨rfl, by rw [hU], by rw [hU]; exact hPc, va_K.moved hW.alike hK, hDc.weaken (fun _ _ _ _ => trivial), ?_⟩⟩
    rw [hU]
    exact hSt.1.2 _ _ _ _ hW (hSt.2.2 _ _ _ _ (hSt.2.1 _ _ _ _ hst (fun q h1 h2 => hS.2.1 q h1 h2)) hFc)
  have hr := va_runV (l := l) (e := e) (below := below) (meth := meth) (locs := locs) (cells := cells) (slots := slots) (g := F0 m pc ls ((As.map (cv ad)).reverse ++ .ref (ad b) :: rs)) (rest := rs) ⟨hx, hb, hml, hown, hts⟩ (hM H.size) cb hpre rfl (by rw [List.length_map]; exact hN) hl.1.1 rfl (lv_room hs8) hd ⟨hcap.1, hcap.2⟩
  obtain ⟨v, st₀, t, T', L, h0, X', hL, e1, e2, ⟨⟨r, h', hv, hp, hP1, hD1⟩, hz, hk⟩, stp⟩ := hr T hT X
  rw [h0] at hz hk
  have hv : v = r.map (cv ad) := Outcome.returned.inj hv
  subst hv
  rw [← e1] at hP1
  obtain ⟨hP2, hD2⟩ := join2 (H1 := T'.heap) hP hD (fun q z1 z2 => by rw [e1]; exact hk q z1 z2) hFc hP1 hD1
  have hS1 : va_S A s.heap T'.heap (locs ++ L) := ⟨Nat.le_trans hS.1 (by rw [e1]; exact hz), fun q z1 z2 => by rw [e1, hk q (Nat.lt_of_lt_of_le z1 hS.1) (fun z => z2 (hFc q z))]; exact hS.2.1 q z1 z2, fun q hq => by
    rcases List.mem_append.mp hq with hq | hq
    · exact hS.2.2 q hq
    · exact hFc _ (hL q hq)⟩
  obtain ⟨t2, a1, b1⟩ := kk r h' hp ls T'.heap (locs ++ L) hl hP2 hD2 hS1 T' rfl X'
  exact ⟨t2, stp t2 a1, b1⟩
theorem callSW {T : State} {locs : List Loc} (X : Stand p l e R s m args below meth c T locs cells slots) (hexec : p.tables.exec = Jvm.exec) {index : Nat} {y : MethodName} {bytes : ByteArray} {maxL : Nat} {ret : Option FieldType} {hh : List (Nat × Nat × Nat × Nat)}
    (hown : s.vm.findClass own = some m.cls) (hlink : (Cond.methodLink own index y).before args s = true) (hstat : (Cond.static y).before args s = true) (hinit : (Cond.initialized y.cls).before args s = true)
    (hcode : (Cond.codeWith y bytes maxL ret hh).before args s = true) (hy : y.cls ≠ "java/lang/invoke/MethodHandle" ∧ y.cls ≠ "java/lang/invoke/VarHandle")
    {W : Nat} {Pre : Pt → Array Value → Prop} {Post : Pt → Array Value → Option Value → Pt → Prop} (hK : Back l R p e below s args y 3 W Pre Post)
    {g : JFrame} (hg : g.method = m) (hsize : g.locals.size = c.maxLocals) {argsL rest : List Value} (hlen : ∀ sig, parseMethodDescriptor y.desc = some sig → argsL.length = sig.parameters.length)
    (hstack : g.stack = argsL.reverse ++ rest) (hW : 2 * g.monitorRoom + (rest.map fun v => v.category).sum ≤ W) (hdg : decode c.code g.pc = .ok (.invokestatic index, 3))
    (hpre : ∀ vm₁, s.WarmedH vm₁ → Pre ⟨T.setVm vm₁, locs, cells, slots⟩ argsL.toArray) :
    ∃ (v : Option Value) (vm₁ : Vm) (B : Pt), s.WarmedH vm₁ ∧ Stand p l e R s m args below meth c B.U B.locs B.cells B.slots ∧ Post ⟨T.setVm vm₁, locs, cells, slots⟩ argsL.toArray v B ∧
      ∀ target, Steps p.tables e below (B.U.setTop { g with pc := g.pc + 3, stack := v.toList ++ rest }) target → Steps p.tables e below (T.setTop g) target := by
  obtain ⟨mk, methM, cM, hnamed, hmethM, -, -, -, -, -, -, hsigM⟩ := Cond.codeWith_spec hcode
  have hstatic : methM.isStatic = true := Cond.static_spec hnamed hmethM hstat
  obtain ⟨kP, hkP, -⟩ := className_of_methodNamed hnamed
  have hinitP : kP.init = .initialized := Cond.initialized_spec (findClass_of_methodNamed hnamed) hkP hinit
  obtain ⟨vm₁, X₁, hstep₁⟩ := X.invokestatic hexec hown hlink hnamed hmethM hstatic hkP hinitP hy (g := g) hg (argsL := argsL) (rest := rest) (hlen _ hsigM) hstack hdg
  obtain ⟨v, B, X', hpost, hsteps⟩ := hK m meth c ⟨T.setVm vm₁, locs, cells, slots⟩ { g with stack := rest } (.invokestatic index) mk argsL.toArray X₁ hg hsize hdg hW (X₁.named hnamed) (hpre vm₁ X₁.warmed)
  exact ⟨v, vm₁, B, X₁.warmed, X', hpost, fun target h => hstep₁ _ fun acts => by rw [doInvoke_state]; exact hsteps.trans h⟩
/-- the call of a helper -/
theorem Vw_callH {wr : va_W} (C0 : Cx p s m args c cc "TogetherOrdersLaw" wg nL tl D cls cA) (hml : c.maxLocals = nL) (hA : ∀ q, s.heap.size ≤ q → A q) (hst : StX ad A s s.heap) (hnc : NC s) (hcap : cells + 1 ≤ R.cells ∧ slots + 6 ≤ R.slots)
    {pc n nx tg x wd o : Nat} {k : Int32} {K : Int64} (h1 : lkT tl pc = some (.invokestatic o, n, nx, tg, x, wd, k, K)) {y : MethodName} {bytes : ByteArray} {maxL : Nat} {hh : List (Nat × Nat × Nat × Nat)} {N : Nat} (cw : CwW "TogetherOrdersLaw" o y bytes maxL hh N) (hrm : 10 ≤ R.frames ∧ 8 + (maxL + 11) + 540 ≤ R.locals)
    {avs : List Value} (hN : avs.length = N) {oo : Nat} {f : Nat → Int64} {h : Hp} {res : Int32 → Hp → (Nat → Int64) → Prop} (hM : CtH l y bytes maxL hh D cA ad oo f avs h res) {lv : List (Option Value)} {rs : List Value} (hs8 : (rs.map fun v => v.category).sum ≤ 8)
    (kk : ∀ rc h' f', res rc h' f' → Vw p l e R s m args below meth c nL D cls A Q (cells + 1) (slots + 6) (wr ++ WH cA ad oo f' h') nx lv (.int rc :: rs)) : Vw p l e R s m args below meth c nL D cls A Q cells slots (wr ++ WH cA ad oo f h) pc lv (avs.reverse ++ rs) := by
  intro ls H locs hl hP hD hS T hT X
  obtain ⟨hx, hb, hown, hts, htl, hK, hcl⟩ := C0
  obtain ⟨hd, hc, -⟩ := rowOk_s htl h1
  simp only [ckE, Bool.and_eq_true, beq_iff_eq] at hc
  obtain ⟨rfl, rfl⟩ := hc
  obtain ⟨w1, w2, w4, w5, w6, w7, w8⟩ := cw
  obtain ⟨hPc, hDc⟩ := sub_r hP hD
  have hFc := free_r hD hS hA
  have hws : ∀ w ∈ wg, ∀ (a' : Array Value) (U : State), s.WarmedH U.vm → w.before a' U = true := fun w hw a' U hW => word_at hW (wg_good w hw).2 (hts w hw)
  have hblind : FrameBlind (PH D cA ad oo f avs h H.size) := by
    intro a U g mk q
    obtain ⟨q0, q1, qP, qK, qD, qS, qN⟩ := q
    exact ⟨q0, q1, qP, va_K.moved (u := U) (U := U.calling g mk a) (Vm.Alike.refl U.vm) qK, qD, (StX_ok ad).1.1 _ U (U.calling g mk a) U.heap rfl qS, NC.moved (u := U) (U := U.calling g mk a) (Vm.Alike.refl U.vm) qN⟩
  have hB : Back l R p e below s args y 3 8 (PreOf R 1 6 (PH D cA ad oo f avs h H.size)) (PostOf (QH D cA ad oo (va_A (WH cA ad oo f h) H.size) res) 1 6 (va_A (WH cA ad oo f h) H.size)) :=
    va_backW (bytes := bytes) (maxL := maxL) (ret := some .int) (hh := hh) (hM H.size) hblind rfl rfl hrm.1 hrm.2 (fun w hw a' U hW => by
      rcases List.mem_cons.mp hw with rfl | hw
      · exact hws _ w5 a' U hW
      · exact hws w hw a' U hW) List.mem_cons_self (fun a' U hW => hws _ w4 a' U hW)
  obtain ⟨v, vm₁, ⟨U', l2, c2, s2⟩, hW₁, X', ⟨g', mk, t, L, e1, e2, hq, z1, hL, z2, z3⟩, stp⟩ := callSW X hx hown (hts _ w1) (hts _ w2) (hts _ w4) (hts _ w5) ⟨w6, w7⟩ hB (g := F0 m pc ls (avs.reverse ++ rs)) rfl (hl.1.1.trans hml.symm) (argsL := avs) (rest := rs) (fun sig hs => by rw [hs] at w8; rw [hN]; exact (Option.some.inj w8).symm) rfl (lv_room hs8) (by rw [hb]; exact hd)
    (fun vm₁ hW₁ => ⟨hcap.1, hcap.2, rfl, (by rw [show (T.setVm vm₁).heap = H from hT]), (by rw [show (T.setVm vm₁).heap = H from hT]; exact hPc), va_K.moved hW₁.alike hK, hDc.weaken (fun _ _ _ _ => trivial), (by
      rw [show (T.setVm vm₁).heap = H from hT]
      exact (StX_ok ad).1.2 _ s (T.setVm vm₁) H hW₁ ((StX_ok ad).2.2 _ _ _ _ ((StX_ok ad).2.1 _ _ _ _ hst (fun q a1 a2 => hS.2.1 q a1 a2)) hFc)), NC.moved (u := s) (U := T.setVm vm₁) hW₁.alike hnc⟩)
  dsimp only [Pt.U, Pt.locs, Pt.cells, Pt.slots] at X' e1 e2 z1 z2 z3 stp
  subst z1; subst z2; subst z3
  obtain ⟨⟨rc, ⟨h', f'⟩, hv, hres, hP1, hD1⟩, hz, hk⟩ := hq
  cases hv
  have hst0 : ((T.setVm vm₁).calling g' mk avs.toArray).heap = H := hT
  rw [hst0] at hz hk
  have e1' : U'.heap = t.heap := e1
  rw [← e1'] at hP1
  obtain ⟨hP2, hD2⟩ := join2 (H1 := U'.heap) hP hD (fun q a1 a2 => by rw [e1']; exact hk q a1 a2) hFc hP1 hD1
  have hS1 : va_S A s.heap U'.heap (locs ++ L) := ⟨Nat.le_trans hS.1 (by rw [e1']; exact hz), fun q a1 a2 => by rw [e1', hk q (Nat.lt_of_lt_of_le a1 hS.1) (fun z => a2 (hFc q z))]; exact hS.2.1 q a1 a2, fun q hq => by
    rcases List.mem_append.mp hq with hq | hq
    · exact hS.2.2 q hq
    · exact hFc _ (hL q hq)⟩
  obtain ⟨t2, a1, b1⟩ := kk rc h' f' hres ls U'.heap (locs ++ L) hl hP2 hD2 hS1 U' rfl X'
  exact ⟨t2, stp t2 a1, b1⟩
theorem Vw_sld {ws : va_W} (C0 : Cx p s m args c cc own wg nL tl D cl cA) {b L : Nat} {xs : Nat → Int32} (hX : va_X b L xs s s.heap) (hbl : b < s.heap.size) (hbA : ¬ A b) {pc n nx tg x wd : Nat} {k : Int32} {K : Int64} {lv : List (Option Value)} {st : List Value} {i : Int32} (h1 : lkT tl pc = some (.iaload, n, nx, tg, x, wd, k, K)) (hin : vp_in i L) (h3 : Vw p l e R s m args below meth c nL D cl A Q cells slots ws nx lv (.int (xs i.toNatClampNeg) :: st)) : Vw p l e R s m args below meth c nL D cl A Q cells slots ws pc lv (.int i :: .ref b :: st) := by
  obtain ⟨hx, hb, hown, hts, htl, hK, hcl⟩ := C0
  intro ls H locs hl hP hD hS
  obtain ⟨hd, hc, -⟩ := rowOk_s htl h1
  simp only [ckE, Bool.and_eq_true, beq_iff_eq] at hc
  obtain ⟨rfl, rfl⟩ := hc
  exact va_sld hx hb hX hbl hbA hS hin hd (h3 ls H locs hl hP hD hS)
theorem Vw_slen {ws : va_W} (C0 : Cx p s m args c cc own wg nL tl D cl cA) {b L : Nat} {xs : Nat → Int32} (hX : va_X b L xs s s.heap) (hbl : b < s.heap.size) (hbA : ¬ A b) {pc n nx tg x wd : Nat} {k : Int32} {K : Int64} {lv : List (Option Value)} {st : List Value} (h1 : lkT tl pc = some (.arraylength, n, nx, tg, x, wd, k, K)) (h3 : Vw p l e R s m args below meth c nL D cl A Q cells slots ws nx lv (.int (nI L) :: st)) : Vw p l e R s m args below meth c nL D cl A Q cells slots ws pc lv (.ref b :: st) := by
  obtain ⟨hx, hb, hown, hts, htl, hK, hcl⟩ := C0
  intro ls H locs hl hP hD hS
  obtain ⟨hd, hc, -⟩ := rowOk_s htl h1
  simp only [ckE, Bool.and_eq_true, beq_iff_eq] at hc
  obtain ⟨rfl, rfl⟩ := hc
  exact va_slen hx hb hX hbl hbA hS hd (h3 ls H locs hl hP hD hS)
/-- both sides of a call agree: the reference's answer, its code, what holds behind -/
def Agr (b : Bool) (rc : Int32) (h' : Hp) (f' : Nat → Int64) (r' : Option Value) (g' : Hp) : Prop := ∃ v', r' = some (.int v') ∧ g'.1 0 0 = rc ∧ Rl h' g' ∧ (rc = 0 → f' 0 = (if b then (if v' = 0 then 0 else 1) else v'.toInt64))
theorem agr_of {b : Bool} {post : Option Value → Hp → Prop} {pst : Nat → Hp → Prop} {f : Nat → Int64} {a1 a2 a3 rc : Int32} {h' g' : Hp} {f' : Nat → Int64} {r' : Option Value} (h1 : ∀ r h', post r h' → Ag1 h' g' r r') (h2 : ∀ E h', pst E h' → Ag2 h' g' (ce a1 a2 a3 E) r') (h3 : ∀ E h', pst E h' → ce a1 a2 a3 E ≠ 0) (hR : HR b post pst f a1 a2 a3 rc h' f') : Agr b rc h' f' r' g' := by
  rcases hR with ⟨v, hp, rfl, hf⟩ | ⟨E, hE, hp, rfl, rfl⟩
  · obtain ⟨v2, e1, e2, e3, e4⟩ := h1 _ _ hp
    cases e1
    exact ⟨v, e2, e3, e4, fun _ => hf⟩
  · obtain ⟨⟨v, e2⟩, e3, e4⟩ := h2 _ _ hp
    exact ⟨v, e2, e3, e4, fun z => absurd z (h3 _ _ hp)⟩
end LWA
