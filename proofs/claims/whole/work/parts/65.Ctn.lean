/-! CONSTRUCTORS: contracts with a world that grows; calls of them -/
section CTN
theorem join2 {A0 : Nat → Prop} {D : va_G} {cl : List vw_C} {wr wc w1 : va_W} {H H1 : Heap} (hP : va_P D cl (wr ++ wc) H) (hD : va_D A0 (wr ++ wc)) (hk : ∀ q : Nat, q < H.size → ¬ va_A wc H.size q → H1[q]? = H[q]?) (hF : ∀ q, va_A wc H.size q → A0 q) (hP1 : va_P D cl w1 H1) (hD1 : va_D (va_A wc H.size) w1) : va_P D cl (wr ++ w1) H1 ∧ va_D A0 (wr ++ w1) := by
  have gr : ∀ {k : Nat} {x : Nat × va_E}, wr[k]? = some x → (wr ++ wc)[k]? = some x ∧ k < wr.length := by
    intro k x hx
    have hl : k < wr.length := (List.getElem?_eq_some_iff.mp hx).1
    exact ⟨by rw [List.getElem?_append_left hl]; exact hx, hl⟩
  have na : ∀ {k : Nat} {x : Nat × va_E}, wr[k]? = some x → x.1 < H.size ∧ ¬ va_A wc H.size x.1 := by
    intro k x hx
    obtain ⟨h1, h2⟩ := gr hx
    have lt := (hP k x h1).lt
    refine ⟨lt, fun z => ?_⟩
    rcases z with ⟨j, e, hj⟩ | z
    · have h3 : (wr ++ wc)[wr.length + j]? = some (x.1, e) := by
        rw [List.getElem?_append_right (by omega), show wr.length + j - wr.length = j by omega]
        exact hj
      have := hD.1 k (wr.length + j) x (x.1, e) h1 h3 rfl
      omega
    · omega
  have hPr : va_P D cl wr H1 := by
    have h0 : va_P D cl wr H := fun k x hx => hP k x (gr hx).1
    exact h0.kept (fun k x hx => hk x.1 (na hx).1 (na hx).2)
  refine ⟨hPr.app hP1, fun i j x y hx hy hxy => ?_, fun k x hx => ?_⟩
  · by_cases hi : i < wr.length
    · rw [List.getElem?_append_left hi] at hx
      by_cases hj : j < wr.length
      · rw [List.getElem?_append_left hj] at hy
        exact hD.1 i j x y (gr hx).1 (gr hy).1 hxy
      · rw [List.getElem?_append_right (by omega)] at hy
        exact absurd (by rw [hxy]; exact hD1.2 _ y hy) (na hx).2
    · rw [List.getElem?_append_right (by omega)] at hx
      by_cases hj : j < wr.length
      · rw [List.getElem?_append_left hj] at hy
        exact absurd (by rw [← hxy]; exact hD1.2 _ x hx) (na hy).2
      · rw [List.getElem?_append_right (by omega)] at hy
        have := hD1.1 _ _ x y hx hy hxy
        omega
  · by_cases hi : k < wr.length
    · rw [List.getElem?_append_left hi] at hx
      exact hD.2 k x (gr hx).1
    · rw [List.getElem?_append_right (by omega)] at hx
      exact hF _ (hD1.2 _ x hx)
theorem sub_r {D : va_G} {cl : List vw_C} {A : Nat → Prop} {wr wc : va_W} {H : Heap} (hP : va_P D cl (wr ++ wc) H) (hD : va_D A (wr ++ wc)) : va_P D cl wc H ∧ va_D A wc := by
  have g : ∀ {k : Nat} {x : Nat × va_E}, wc[k]? = some x → (wr ++ wc)[wr.length + k]? = some x := by
    intro k x hx
    rw [List.getElem?_append_right (by omega), show wr.length + k - wr.length = k by omega]
    exact hx
  refine ⟨fun k x hx => hP _ x (g hx), fun i j x y hx hy hxy => ?_, fun k x hx => hD.2 _ x (g hx)⟩
  have := hD.1 _ _ x y (g hx) (g hy) hxy
  omega
theorem free_r {A0 : Nat → Prop} {wr wc : va_W} {H0 H : Heap} {locs : List Loc} (hD : va_D A0 (wr ++ wc)) (hS : va_S A0 H0 H locs) (hA : ∀ q, H0.size ≤ q → A0 q) : ∀ q, va_A wc H.size q → A0 q := by
  intro q hq
  rcases hq with ⟨k, e, hk⟩ | hq
  · refine hD.2 (wr.length + k) (q, e) ?_
    rw [List.getElem?_append_right (by omega), show wr.length + k - wr.length = k by omega]
    exact hk
  · exact hA q (Nat.le_trans hS.1 hq)
def rmN (d mc ms : Nat) : Room := { frames := d, cells := mc, slots := ms, locals := 60 * d }
/-- what a constructor finds: its world, the tables -/
def PN (D : va_G) (cl : List vw_C) (cA : Nat → ClassId) (avs : List Value) (w0 : va_W) (sz : Nat) : Array Value → State → Prop := va_Pc avs (fun U => U.heap.size = sz ∧ va_P D cl w0 U.heap ∧ va_K D cl (tysOf cA) U ∧ va_D (fun _ => True) w0 ∧ va_AOA .long U ∧ va_AOA .int U)
def QN (D : va_G) (cl : List vw_C) (A : Nat → Prop) (post : va_W → Prop) : Array Value → State → Outcome → State → Prop := va_Qv post (fun w1 t => va_P D cl w1 t.heap ∧ va_D A w1) A
def CtN (l : Launch) (y : MethodName) (bytes : ByteArray) (maxL d mc ms : Nat) (D : va_G) (cl : List vw_C) (cA : Nat → ClassId) (avs : List Value) (w0 : va_W) (post : va_W → Prop) : Prop :=
  ∀ sz : Nat, Met l y (Cond.code y bytes maxL none :: wg) (rmN d mc ms) (PN D cl cA avs w0 sz) (QN D cl (va_A w0 sz) post) mc ms (va_A w0 sz)
/-- the words of a constructor's call -/
def CwI (own : String) (o : Nat) (y : MethodName) (bytes : ByteArray) (maxL N : Nat) : Prop := Cond.methodLink own o y ∈ wg ∧ Cond.instanceMethod y ∈ wg ∧ Cond.initialized y.cls ∈ wg ∧ Cond.code y bytes maxL none ∈ wg ∧ (y.cls ≠ "java/lang/invoke/MethodHandle" ∧ y.cls ≠ "java/lang/invoke/VarHandle" ∧ (parseMethodDescriptor y.desc).map (fun d => d.parameters.length) = some N) ∧ y.name = "<init>"
variable {p : Program} {l : Launch} {e : Env} {R : Room} {s : State} {m : MethodId} {args : Array Value} {below : List Frame} {meth : Method} {c : Code} {cells slots : Nat} {Q : State → Prop} {cc : ByteArray} {own : String} {nL : Nat} {tl : List (Nat × RowE)} {D : va_G} {cl : List vw_C} {cA : Nat → ClassId} {A : Nat → Prop}
theorem Vw_conv {ws ws' : va_W} {pc : Nat} {lv : List (Option Value)} {st : List Value} (hp : ∀ H, va_P D cl ws H → va_P D cl ws' H) (hd : va_D A ws → va_D A ws') (h3 : Vw p l e R s m args below meth c nL D cl A Q cells slots ws' pc lv st) : Vw p l e R s m args below meth c nL D cl A Q cells slots ws pc lv st := fun ls H locs hl hP hD hS => h3 ls H locs hl (hp H hP) (hd hD) hS
theorem Vw_callI (C0 : Cx p s m args c cc own wg nL tl D cl cA) (hml : c.maxLocals = nL) (hA : ∀ q, s.heap.size ≤ q → A q) (ha1 : va_AOA .long s) (ha2 : va_AOA .int s) {pc n nx tg x wd o : Nat} {k : Int32} {K : Int64} (h1 : lkT tl pc = some (.invokespecial o, n, nx, tg, x, wd, k, K)) {y : MethodName} {bytes : ByteArray} {maxL d1 mc ms N b : Nat} (cw : CwI own o y bytes maxL N) {As : List Value} (hN : As.length = N) {wr wc : va_W} {post : va_W → Prop} (hM : CtN l y bytes maxL d1 mc ms D cl cA (.ref b :: As) wc post) (hfr : d1 + 1 ≤ R.frames) (hlo : 8 + (maxL + 11) + 60 * d1 ≤ R.locals) (hce : cells + mc ≤ R.cells) (hsl : slots + ms ≤ R.slots) {lv : List (Option Value)} {st : List Value} (hs8 : (st.map fun v => v.category).sum ≤ 8)
    (h3 : ∀ w1, post w1 → Vw p l e R s m args below meth c nL D cl A Q (cells + mc) (slots + ms) (wr ++ w1) nx lv st) : Vw p l e R s m args below meth c nL D cl A Q cells slots (wr ++ wc) pc lv (As.reverse ++ .ref b :: st) := by
  obtain ⟨hx, hb, hown, hts, htl, hK, hcl⟩ := C0
  intro ls H locs hl hP hD hS
  obtain ⟨hd, hc, -⟩ := rowOk_s htl h1
  simp only [ckE, Bool.and_eq_true, beq_iff_eq] at hc
  obtain ⟨rfl, rfl⟩ := hc
  obtain ⟨w1, w2, w4, w5, w6, w7⟩ := cw
  obtain ⟨hPc, hDc⟩ := sub_r hP hD
  have hFc := free_r hD hS hA
  have cb := callB_of (R := R) (own := own) (index := o) (rm := rmN d1 mc ms) (mc := mc) (ms := ms) N hts (wg_cons w5) rfl rfl rfl (hts _ w4) (hts _ w1) w6 ⟨hfr, hlo⟩
  refine va_callv (va_runI (As := As) (rest := st) ⟨hx, hb, hml, hown, hts⟩ (hM H.size) ⟨cb, w7, hts _ w2⟩ ⟨fun a U g mk q => ?_, fun U hU hW => ⟨rfl, by rw [hU], by rw [hU]; exact hPc, va_K.moved hW.alike hK, hDc.weaken (fun _ _ _ _ => trivial), va_AOA.moved hW.alike ha1, va_AOA.moved hW.alike ha2⟩⟩ rfl hN hl.1.1 rfl (lv_room hs8) hd ⟨hce, hsl⟩) hS (fun q _ h => hFc q h) hFc (fun w t H1 locs1 ht hvm hw hB hz1 hk1 hS1 => ?_)
  · obtain ⟨q0, q1, qP, qK, qD, qa, qb⟩ := q
    exact ⟨q0, q1, qP, va_K.moved (u := U) (U := U.calling g mk a) (Vm.Alike.refl U.vm) qK, qD, va_AOA.moved (u := U) (U := U.calling g mk a) (Vm.Alike.refl U.vm) qa, va_AOA.moved (u := U) (U := U.calling g mk a) (Vm.Alike.refl U.vm) qb⟩
  · obtain ⟨hP1, hD1⟩ := hB
    rw [ht] at hP1
    obtain ⟨hP2, hD2⟩ := join2 hP hD hk1 hFc hP1 hD1
    exact h3 w hw ls H1 locs1 hl hP2 hD2 hS1
set_option maxHeartbeats 1000000 in
/-- a constructor's contract out of its walk -/
theorem CtN_of {l : Launch} {y : MethodName} {bytes : ByteArray} {maxL d mc ms : Nat} {D : va_G} {cl : List vw_C} {cA : Nat → ClassId} {avs : List Value} {w0 : va_W} {post : va_W → Prop} {tl : List (Nat × RowE)} (hy : plainName y.cls = true) (hyn : y.name = "<init>") (htl : tl.all (rowOk bytes y.cls wg maxL cl) = true) (hcl : ClsOk cl wg) (hlen : (lg_sl avs).length ≤ maxL)
    (body : ∀ {p : Program} {e : Env} {s : State} {m : MethodId} {args : Array Value} {below : List Frame} {meth : Method} {c : Code} {A : Nat → Prop} {Q : State → Prop}, Cx p s m args c bytes y.cls wg maxL tl D cl cA → c.maxLocals = maxL → meth.name = "<init>" → (∀ q, s.heap.size ≤ q → A q) → va_AOA .long s → va_AOA .int s → (∀ {cells slots : Nat} {ws : va_W} {pc n nx tg x wd : Nat} {k : Int32} {K : Int64} {lv : List (Option Value)}, cells ≤ mc → slots ≤ ms → lkT tl pc = some (.return_, n, nx, tg, x, wd, k, K) → post ws → Vw p l e (rmN d mc ms) s m args below meth c maxL D cl A Q cells slots ws pc lv []) → Vw p l e (rmN d mc ms) s m args below meth c maxL D cl A Q 0 0 w0 0 (ent avs maxL) []) : CtN l y bytes maxL d mc ms D cl cA avs w0 post := by
  intro sz
  refine Met.ofW (cc := bytes) (maxL := maxL) (ret := none) hy rfl ?_
  intro p e s m args below meth c s₁ B hml hv
  obtain ⟨rfl, hsz, hP, hK, hD0, ha1, ha2⟩ := hv
  have hx := B.exec
  have hb := B.bytes
  have hr := B.returns
  have hts0 := atoms_spec (ws := Cond.code y bytes maxL none :: wg) B.pre
  have hts : ∀ w ∈ wg, w.before avs.toArray s = true := fun w hw => hts0 w (List.mem_cons_of_mem _ hw)
  have hown : s.vm.findClass y.cls = some m.cls := findClass_of_methodNamed B.named
  have hlocks := B.notSynchronized
  have hin : meth.name = "<init>" := ((name_of_methodNamed B.named B.method).1).trans hyn
  subst hsz
  have hD := hD0.self (sz := s.heap.size)
  have hA : ∀ q : Nat, s.heap.size ≤ q → va_A w0 s.heap.size q := fun q hq => Or.inr hq
  have C0 : Cx p s m avs.toArray c bytes y.cls wg maxL tl D cl cA := ⟨hx, hb, hown, hts, htl, hK, hcl⟩
  have hl0 := lv_entry avs (n := maxL) hlen
  rw [lg_entry_eq]
  refine body C0 hml hin hA ha1 ha2 ?_ _ s.heap [] ⟨⟨hl0.1, hl0.2.1, fun q hq => by cases hq⟩, fun i v hi => ?_⟩ hP hD va_S.rf
  · intro cells slots ws pc n nx tg x wd k K lv hce hsl h1 hp ls H locs hl hP hD hS
    obtain ⟨hd, hc, -⟩ := rowOk_s htl h1
    simp only [ckE, Bool.and_eq_true, beq_iff_eq] at hc
    obtain ⟨-, rfl⟩ := hc
    refine W.widen hce hsl ?_
    exact W.vret hx hb hr (fun t ht _ => ⟨⟨ws, rfl, hp, by rw [ht]; exact hP, hD⟩, hS.F ht⟩) hS.2.2 hd
  · have h1 := ent_args id avs maxL 0 i v hi
    rw [Nat.zero_add, cvs_id] at h1
    exact hl0.2.2 _ h1
end CTN
