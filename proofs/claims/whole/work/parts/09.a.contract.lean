/-! CONTRACTS in the walk's words: a method, its arguments, the heap before; what it answers and the heap behind it. The calls of the walk, and a method's contract out of its walk. -/
section CT
/-- what a method knows of cells that are no part of its world (static arrays): it stays -/
def StOk (St : (Nat → Prop) → State → Heap → Prop) : Prop := ((∀ A u U H, u.vm = U.vm → St A u H → St A U H) ∧ (∀ A u U H, u.WarmedH U.vm → St A u H → St A U H)) ∧ (∀ A U H H1, St A U H → (∀ a : Nat, a < H.size → ¬ A a → H1[a]? = H[a]?) → St A U H1) ∧ (∀ A B U H, St A U H → (∀ q, B q → A q) → St B U H)
def Px (D : va_G) (cl : List vw_C) (cA : Nat → ClassId) (sl : List Sh) (St : (Nat → Prop) → State → Heap → Prop) (ad : Nat → Nat) (avs : List Value) (h : Hp) (sz : Nat) : Array Value → State → Prop := va_Pc (avs.map (cv ad)) (fun U => U.heap.size = sz ∧ va_P D cl (Wd sl cA ad h) U.heap ∧ va_K D cl (tysOf cA) U ∧ va_D (fun _ => True) (Wd sl cA ad h) ∧ St (va_A (Wd sl cA ad h) sz) U U.heap)
def Qx (D : va_G) (cl : List vw_C) (cA : Nat → ClassId) (sl : List Sh) (ad : Nat → Nat) (A : Nat → Prop) (post : Option Value → Hp → Prop) : Array Value → State → Outcome → State → Prop := fun _ st oc t => (∃ (r : Option Value) (h' : Hp), oc = .returned (r.map (cv ad)) ∧ post r h' ∧ va_P D cl (Wd sl cA ad h') t.heap ∧ va_D A (Wd sl cA ad h')) ∧ va_F A st t
def Ct (l : Launch) (y : MethodName) (bytes : ByteArray) (maxL : Nat) (ret : Option FieldType) (rm : Room) (D : va_G) (cl : List vw_C) (cA : Nat → ClassId) (sl : List Sh) (St : (Nat → Prop) → State → Heap → Prop) (ad : Nat → Nat) (avs : List Value) (h : Hp) (post : Option Value → Hp → Prop) : Prop :=
  ∀ sz : Nat, Met l y (Cond.code y bytes maxL ret :: wg) rm (Px D cl cA sl St ad avs h sz) (Qx D cl cA sl ad (va_A (Wd sl cA ad h) sz) post) 0 0 (va_A (Wd sl cA ad h) sz)
theorem Px_blind {D : va_G} {cl : List vw_C} {cA : Nat → ClassId} {sl : List Sh} {St : (Nat → Prop) → State → Heap → Prop} {ad : Nat → Nat} {avs : List Value} {h : Hp} {sz : Nat} (hS : StOk St) : FrameBlind (Px D cl cA sl St ad avs h sz) := by
  intro a U g mk q
  obtain ⟨q0, q1, qP, qK, qD, qS⟩ := q
  exact ⟨q0, q1, qP, va_K.moved (u := U) (U := U.calling g mk a) (Vm.Alike.refl U.vm) qK, qD, hS.1.1 _ U (U.calling g mk a) U.heap rfl qS⟩
variable {p : Program} {l : Launch} {e : Env} {R : Room} {s : State} {m : MethodId} {args : Array Value} {below : List Frame} {meth : Method} {c : Code} {cells slots : Nat} {Q : State → Prop} {cc : ByteArray} {own : String} {nL : Nat} {tl : List (Nat × RowE)} {D : va_G} {cl : List vw_C} {cA : Nat → ClassId} {ad : Nat → Nat} {A : Nat → Prop} {sl : List Sh} {St : (Nat → Prop) → State → Heap → Prop}
theorem A_in {sl : List Sh} {cA : Nat → ClassId} {ad : Nat → Nat} {h : Hp} {A : Nat → Prop} {H0 H : Heap} {locs : List Loc} (hA : ∀ q, H0.size ≤ q → A q) (hD : va_D A (Wd sl cA ad h)) (hS : va_S A H0 H locs) : ∀ q, va_A (Wd sl cA ad h) H.size q → A q := by
  intro q hq
  rcases hq with ⟨k, e, hk⟩ | hq
  · exact hD.2 k (q, e) hk
  · exact hA q (Nat.le_trans hS.1 hq)
/-- behind a call -/
theorem Vt_run {pc nx : Nat} {lv : List (Option Value)} {st st0 : List Value} {h : Hp} {post : Option Value → Hp → Prop} {a : Array Value} {ls : Array Slot} {H : Heap} {locs : List Loc}
    (hr : va_Run p l e R s m args below meth c H locs cells slots 0 0 (F0 m pc ls st0) (st.map (cv ad)) (Qx D cl cA sl ad (va_A (Wd sl cA ad h) H.size) post a) (va_A (Wd sl cA ad h) H.size)) (hnx : nx = pc + 3)
    (hA : ∀ q, s.heap.size ≤ q → A q) (hD : va_D A (Wd sl cA ad h)) (hS : va_S A s.heap H locs) (hl : lh ls nL ad lv) (kk : ∀ (r : Option Value) (h' : Hp), post r h' → Vt p l e R s m args below meth c nL ad D cl sl cA A cells slots Q nx lv (r.toList ++ st) h') : W p l e R s m args below meth c H locs cells slots Q (F0 m pc ls st0) := by
  intro T hT X
  have hF := A_in hA hD hS
  obtain ⟨v, st₀, t, T', L, h0, X', hL, e1, e2, ⟨⟨r, h', hv, hp, hP1, hD1⟩, hz, hk⟩, stp⟩ := hr T hT X
  rw [h0] at hz hk
  have hv : v = r.map (cv ad) := Outcome.returned.inj hv
  subst hv
  subst hnx
  have hS1 : va_S A s.heap T'.heap (locs ++ L) := ⟨Nat.le_trans hS.1 (by rw [e1]; exact hz), fun q h1 h2 => by rw [e1, hk q (Nat.lt_of_lt_of_le h1 hS.1) (fun z => h2 (hF q z))]; exact hS.2.1 q h1 h2, fun q hq => by
    rcases List.mem_append.mp hq with hq | hq
    · exact hS.2.2 q hq
    · exact hF _ (hL q hq)⟩
  have k1 := kk r h' hp ls T'.heap (locs ++ L) hl (by rw [e1]; exact hP1) (hD1.weaken (fun _ q _ hq => hF q.1 hq)) hS1
  have e3 : (r.toList ++ st).map (cv ad) = (r.map (cv ad)).toList ++ st.map (cv ad) := by cases r <;> simp
  rw [e3] at k1
  obtain ⟨t2, a1, b1⟩ := k1 T' rfl X'
  exact ⟨t2, stp t2 a1, b1⟩
theorem cat_map (ad : Nat → Nat) (st : List Value) : ((st.map (cv ad)).map fun v => v.category).sum = (st.map fun v => v.category).sum := by
  rw [List.map_map]
  congr 1
  exact List.map_congr_left (fun v _ => cv_cat ad v)
theorem Vt_callV (C0 : Cx p s m args c cc own wg nL tl D cl cA) (hml : c.maxLocals = nL) (hA : ∀ q, s.heap.size ≤ q → A q) (hSt : StOk St) (hst : St A s s.heap) (hcap : cells ≤ R.cells ∧ slots ≤ R.slots)
    {pc n nx tg x wd o : Nat} {k : Int32} {K : Int64} (h1 : lkT tl pc = some (.invokevirtual o, n, nx, tg, x, wd, k, K)) {y : MethodName} {bytes : ByteArray} {maxL : Nat} {ret : Option FieldType} {rm : Room} {N : Nat} (cw : CwV own o y bytes maxL ret N) (hrm : rm.cells = 0 ∧ rm.slots = 0 ∧ rm.frames + 1 ≤ R.frames ∧ 8 + (maxL + 11) + rm.locals ≤ R.locals)
    {b ci M : Nat} {fs : List Nat} {T : u_T} (hb1 : sl[b]? = some (.inl (ci, fs))) (hb2 : cl[ci]? = some (y.cls, T, M)) {As : List Value} (hN : As.length = N) {h : Hp} {post : Option Value → Hp → Prop} (hM : Ct l y bytes maxL ret rm D cl cA sl St ad (.ref b :: As) h post) {lv : List (Option Value)} {st : List Value} (hs8 : (st.map fun v => v.category).sum ≤ 8)
    (kk : ∀ (r : Option Value) (h' : Hp), post r h' → Vt p l e R s m args below meth c nL ad D cl sl cA A cells slots Q nx lv (r.toList ++ st) h') : Vt p l e R s m args below meth c nL ad D cl sl cA A cells slots Q pc lv (As.reverse ++ .ref b :: st) h := by
  intro ls H locs hl hP hD hS
  obtain ⟨hx, hb, hown, hts, htl, hK, hcl⟩ := C0
  obtain ⟨hd, hc, -⟩ := rowOk_s htl h1
  simp only [ckE, Bool.and_eq_true, beq_iff_eq] at hc
  obtain ⟨hnx, rfl⟩ := hc
  obtain ⟨w1, w2, w3, w4, w5, w6⟩ := cw
  have cb : CallW R s args own y.cls o y bytes maxL ret (Cond.code y bytes maxL ret :: wg) rm 0 0 N := ⟨callB_of N hts (wg_cons w5) rfl hrm.1 hrm.2.1 (hts _ w4) (hts _ w1) w6 hrm.2.2, hts _ w2, hts _ w3⟩
  have hF := A_in hA hD hS
  have hpre : PreV s H y.cls (ad b) (Px D cl cA sl St ad (.ref b :: As) h H.size) (As.map (cv ad)) := by
    refine ⟨Px_blind hSt, va_recv hK hP hb2 (Wd_at hb1), fun U hU hW => ⟨rfl, by rw [hU], by rw [hU]; exact hP, va_K.moved hW.alike hK, hD.weaken (fun _ _ _ _ => trivial), ?_⟩⟩
    rw [hU]
    exact hSt.1.2 _ _ _ _ hW (hSt.2.2 _ _ _ _ (hSt.2.1 _ _ _ _ hst (fun q h1 h2 => hS.2.1 q h1 h2)) hF)
  have e0 : (As.reverse ++ Value.ref b :: st).map (cv ad) = (As.map (cv ad)).reverse ++ .ref (ad b) :: st.map (cv ad) := by simp [cv]
  rw [e0]
  exact Vt_run (va_runV (g := F0 m pc ls ((As.map (cv ad)).reverse ++ .ref (ad b) :: st.map (cv ad))) ⟨hx, hb, hml, hown, hts⟩ (hM H.size) cb hpre rfl (by rw [List.length_map]; exact hN) hl.1.1 rfl (lv_room (by rw [cat_map]; exact hs8)) hd ⟨hcap.1, hcap.2⟩) hnx hA hD hS hl kk
theorem Vt_callS (C0 : Cx p s m args c cc own wg nL tl D cl cA) (hml : c.maxLocals = nL) (hA : ∀ q, s.heap.size ≤ q → A q) (hSt : StOk St) (hst : St A s s.heap) (hcap : cells ≤ R.cells ∧ slots ≤ R.slots)
    {pc n nx tg x wd o : Nat} {k : Int32} {K : Int64} (h1 : lkT tl pc = some (.invokestatic o, n, nx, tg, x, wd, k, K)) {y : MethodName} {bytes : ByteArray} {maxL : Nat} {ret : Option FieldType} {rm : Room} {N : Nat} (cw : CwS own o y bytes maxL ret N) (hrm : rm.cells = 0 ∧ rm.slots = 0 ∧ rm.frames + 1 ≤ R.frames ∧ 8 + (maxL + 11) + rm.locals ≤ R.locals)
    {As : List Value} (hN : As.length = N) {h : Hp} {post : Option Value → Hp → Prop} (hM : Ct l y bytes maxL ret rm D cl cA sl St ad As h post) {lv : List (Option Value)} {st : List Value} (hs8 : (st.map fun v => v.category).sum ≤ 8)
    (kk : ∀ (r : Option Value) (h' : Hp), post r h' → Vt p l e R s m args below meth c nL ad D cl sl cA A cells slots Q nx lv (r.toList ++ st) h') : Vt p l e R s m args below meth c nL ad D cl sl cA A cells slots Q pc lv (As.reverse ++ st) h := by
  intro ls H locs hl hP hD hS
  obtain ⟨hx, hb, hown, hts, htl, hK, hcl⟩ := C0
  obtain ⟨hd, hc, -⟩ := rowOk_s htl h1
  simp only [ckE, Bool.and_eq_true, beq_iff_eq] at hc
  obtain ⟨hnx, rfl⟩ := hc
  obtain ⟨w1, w2, w4, w5, w6⟩ := cw
  have cb : CallB R s args own o y bytes maxL ret (Cond.code y bytes maxL ret :: wg) rm 0 0 N ∧ (Cond.static y).before args s = true := ⟨callB_of N hts (wg_cons w5) rfl hrm.1 hrm.2.1 (hts _ w4) (hts _ w1) w6 hrm.2.2, hts _ w2⟩
  have hF := A_in hA hD hS
  have hpre : PreS s H (Px D cl cA sl St ad As h H.size) (As.map (cv ad)) := by
    refine ⟨Px_blind hSt, fun U hU hW => ⟨rfl, by rw [hU], by rw [hU]; exact hP, va_K.moved hW.alike hK, hD.weaken (fun _ _ _ _ => trivial), ?_⟩⟩
    rw [hU]
    exact hSt.1.2 _ _ _ _ hW (hSt.2.2 _ _ _ _ (hSt.2.1 _ _ _ _ hst (fun q h1 h2 => hS.2.1 q h1 h2)) hF)
  have e0 : (As.reverse ++ st).map (cv ad) = (As.map (cv ad)).reverse ++ st.map (cv ad) := by simp
  rw [e0]
  exact Vt_run (va_runS (g := F0 m pc ls ((As.map (cv ad)).reverse ++ st.map (cv ad))) ⟨hx, hb, hml, hown, hts⟩ (hM H.size) cb hpre rfl (by rw [List.length_map]; exact hN) hl.1.1 rfl (lv_room (by rw [cat_map]; exact hs8)) hd ⟨hcap.1, hcap.2⟩) hnx hA hD hS hl kk
/-- the locals with which a method begins -/
def ent : List Value → Nat → List (Option Value)
  | [], n => List.replicate n none
  | .long x :: r, n => some (.long x) :: none :: ent r (n - 2)
  | .double x :: r, n => some (.double x) :: none :: ent r (n - 2)
  | .int x :: r, n => some (.int x) :: ent r (n - 1)
  | .float x :: r, n => some (.float x) :: ent r (n - 1)
  | .null :: r, n => some .null :: ent r (n - 1)
  | .ref x :: r, n => some (.ref x) :: ent r (n - 1)
  | .retAddr x :: r, n => some (.retAddr x) :: ent r (n - 1)
theorem lk_rep (n i : Nat) : lk (List.replicate n none) i = none := by
  induction n generalizing i with
  | zero => rfl
  | succ n ih => cases i with
    | zero => rfl
    | succ i => exact ih i
theorem ent_1 {v : Value} (hc : v.category = 1) (r : List Value) (n : Nat) : ent (v :: r) n = some v :: ent r (n - 1) := by
  cases v <;> first | rfl | cases hc
theorem ent_2 {v : Value} (hc : v.category = 2) (r : List Value) (n : Nat) : ent (v :: r) n = some v :: none :: ent r (n - 2) := by
  cases v <;> first | rfl | cases hc
theorem ent_args (ad : Nat → Nat) : ∀ (vs : List Value) (n b i : Nat) (v : Value), lk (ent vs n) i = some v → (b + i, cv ad v) ∈ lv_args b (vs.map (cv ad))
  | [], n, b, i, v, h => by
    rw [show ent [] n = List.replicate n none from rfl, lk_rep] at h
    cases h
  | w :: r, n, b, i, v, h => by
    rw [List.map_cons, lv_args, cv_cat]
    rcases lv_cat w with hc | hc
    · rw [ent_1 hc] at h
      rw [if_neg (by omega)]
      cases i with
      | zero =>
        have e1 : w = v := Option.some.inj h
        rw [e1]
        exact List.mem_cons_self
      | succ i =>
        have h1 := ent_args ad r (n - 1) (b + 1) i v h
        rw [show b + (i + 1) = b + 1 + i by omega]
        exact List.mem_cons_of_mem _ h1
    · rw [ent_2 hc] at h
      rw [if_pos hc]
      match i, h with
      | 0, h =>
        have e1 : w = v := Option.some.inj h
        rw [e1]
        exact List.mem_cons_self
      | 1, h => cases h
      | i + 2, h =>
        have h1 := ent_args ad r (n - 2) (b + 2) i v h
        rw [show b + (i + 2) = b + 2 + i by omega]
        exact List.mem_cons_of_mem _ h1
theorem sl_len (ad : Nat → Nat) : ∀ vs : List Value, (lg_sl (vs.map (cv ad))).length = (lg_sl vs).length
  | [] => rfl
  | v :: r => by
    have ih := sl_len ad r
    simp only [lg_sl, List.map_cons, List.flatMap_cons, List.length_append] at ih ⊢
    rw [cv_cat]
    rw [ih]
    congr 1
    split <;> rfl
/-- how a method ends -/
def Rt (tl : List (Nat × RowE)) (ret : Option FieldType) (post : Option Value → Hp → Prop) (V : VT) : Prop :=
  (∀ (pc n nx tg x wd : Nat) (k : Int32) (K : Int64) (lv : List (Option Value)) (h : Hp) (v : Int32), lkT tl pc = some (.ireturn, n, nx, tg, x, wd, k, K) → (ret = some .int ∨ ret = some .boolean ∧ (v = 0 ∨ v = 1)) → post (some (.int v)) h → V pc lv [.int v] h) ∧
  (∀ (pc n nx tg x wd : Nat) (k : Int32) (K : Int64) (lv : List (Option Value)) (h : Hp) (v : Int64), lkT tl pc = some (.lreturn, n, nx, tg, x, wd, k, K) → ret = some .long → post (some (.long v)) h → V pc lv [.long v] h) ∧
  (∀ (pc n nx tg x wd : Nat) (k : Int32) (K : Int64) (lv : List (Option Value)) (h : Hp), lkT tl pc = some (.return_, n, nx, tg, x, wd, k, K) → ret = none → post none h → V pc lv [] h)
/-- all calls that the room allows, of methods whose contracts stand -/
def Cl (l : Launch) (d : Nat) (D : va_G) (cl : List vw_C) (cA : Nat → ClassId) (sl : List Sh) (St : (Nat → Prop) → State → Heap → Prop) (ad : Nat → Nat) (own : String) (tl : List (Nat × RowE)) (V : VT) : Prop :=
  (∀ (pc n nx tg x wd o : Nat) (k : Int32) (K : Int64) (y : MethodName) (bytes : ByteArray) (maxL : Nat) (ret : Option FieldType) (d1 N b ci M : Nat) (fs : List Nat) (T : u_T) (As : List Value) (h : Hp) (post : Option Value → Hp → Prop) (lv : List (Option Value)) (st : List Value), lkT tl pc = some (.invokevirtual o, n, nx, tg, x, wd, k, K) → CwV own o y bytes maxL ret N → d1 < d → maxL ≤ 40 → sl[b]? = some (.inl (ci, fs)) → cl[ci]? = some (y.cls, T, M) → As.length = N →
    Ct l y bytes maxL ret (rmD d1) D cl cA sl St ad (.ref b :: As) h post → (st.map fun v => v.category).sum ≤ 8 → (∀ (r : Option Value) (h' : Hp), post r h' → V nx lv (r.toList ++ st) h') → V pc lv (As.reverse ++ .ref b :: st) h) ∧
  (∀ (pc n nx tg x wd o : Nat) (k : Int32) (K : Int64) (y : MethodName) (bytes : ByteArray) (maxL : Nat) (ret : Option FieldType) (d1 N : Nat) (As : List Value) (h : Hp) (post : Option Value → Hp → Prop) (lv : List (Option Value)) (st : List Value), lkT tl pc = some (.invokestatic o, n, nx, tg, x, wd, k, K) → CwS own o y bytes maxL ret N → d1 < d → maxL ≤ 40 → As.length = N →
    Ct l y bytes maxL ret (rmD d1) D cl cA sl St ad As h post → (st.map fun v => v.category).sum ≤ 8 → (∀ (r : Option Value) (h' : Hp), post r h' → V nx lv (r.toList ++ st) h') → V pc lv (As.reverse ++ st) h)
set_option maxHeartbeats 1000000 in
/-- a contract out of the walk -/
theorem Ct.of {l : Launch} {y : MethodName} {bytes : ByteArray} {maxL : Nat} {ret : Option FieldType} {d : Nat} {D : va_G} {cl : List vw_C} {cA : Nat → ClassId} {sl : List Sh} {St : (Nat → Prop) → State → Heap → Prop} {ad : Nat → Nat} {avs : List Value} {h : Hp} {post : Option Value → Hp → Prop} {tl : List (Nat × RowE)}
    (hy : plainName y.cls = true) (htl : tl.all (rowOk bytes y.cls wg maxL cl) = true) (hcl : ClsOk cl wg) (hSt : StOk St) (hlen : (lg_sl avs).length ≤ maxL)
    (body : ∀ V : VT, Gd sl tl V → Rt tl ret post V → Cl l d D cl cA sl St ad y.cls tl V → V 0 (ent avs maxL) [] h) : Ct l y bytes maxL ret (rmD d) D cl cA sl St ad avs h post := by
  intro sz
  refine Met.ofW (cc := bytes) (maxL := maxL) (ret := ret) hy rfl ?_
  intro p e s m args below meth c s₁ B hml hv
  obtain ⟨rfl, hsz, hP, hK, hD0, hst⟩ := hv
  have hx := B.exec
  have hb := B.bytes
  have hr := B.returns
  have hts0 := atoms_spec (ws := Cond.code y bytes maxL ret :: wg) B.pre
  have hts : ∀ w ∈ wg, w.before (avs.map (cv ad)).toArray s = true := fun w hw => hts0 w (List.mem_cons_of_mem _ hw)
  have hown : s.vm.findClass y.cls = some m.cls := findClass_of_methodNamed B.named
  have hlocks := B.notSynchronized
  subst hsz
  have hD := hD0.self (sz := s.heap.size)
  have hA : ∀ q : Nat, s.heap.size ≤ q → va_A (Wd sl cA ad h) s.heap.size q := fun q hq => Or.inr hq
  have C0 : Cx p s m (avs.map (cv ad)).toArray c bytes y.cls wg maxL tl D cl cA := ⟨hx, hb, hown, hts, htl, hK, hcl⟩
  have hl0 := lv_entry (avs.map (cv ad)) (n := maxL) (by rw [sl_len]; exact hlen)
  rw [lg_entry_eq]
  refine body (Vt p l e (headSpec (Cond.code y bytes maxL ret :: wg) (rmD d)).room s m (avs.map (cv ad)).toArray below meth c maxL ad D cl sl cA (va_A (Wd sl cA ad h) s.heap.size) 0 0 (MQ below (Qx D cl cA sl ad (va_A (Wd sl cA ad h) s.heap.size) post) (avs.map (cv ad)).toArray s 0 0 (va_A (Wd sl cA ad h) s.heap.size))) (Vt_Gd C0) ⟨?_, ?_, ?_⟩ ⟨?_, ?_⟩ _ s.heap [] ⟨⟨hl0.1, hl0.2.1, fun q hq => by cases hq⟩, fun i v hi => ?_⟩ hP hD va_S.rf
  · intro pc n nx tg x wd k K lv h2 v h1 hret hp ls H locs hl hP hD hS
    obtain ⟨hd, hc, -⟩ := rowOk_s htl h1
    simp only [ckE, Bool.and_eq_true, beq_iff_eq] at hc
    obtain ⟨-, rfl⟩ := hc
    rcases hret with rfl | ⟨rfl, hv⟩
    · exact W.iret hx hb hr (fun t ht _ => ⟨⟨some (.int v), h2, rfl, hp, by rw [ht]; exact hP, hD⟩, hS.F ht⟩) hS.2.2 hd
    · exact W.zret hx hb hr (nar_b hv).1 (fun t ht _ => ⟨⟨some (.int v), h2, rfl, hp, by rw [ht]; exact hP, hD⟩, hS.F ht⟩) hS.2.2 hd
  · intro pc n nx tg x wd k K lv h2 v h1 hret hp ls H locs hl hP hD hS
    obtain ⟨hd, hc, -⟩ := rowOk_s htl h1
    simp only [ckE, Bool.and_eq_true, beq_iff_eq] at hc
    obtain ⟨-, rfl⟩ := hc
    subst hret
    exact W.lret hx hb hr (fun t ht _ => ⟨⟨some (.long v), h2, rfl, hp, by rw [ht]; exact hP, hD⟩, hS.F ht⟩) hS.2.2 hd
  · intro pc n nx tg x wd k K lv h2 h1 hret hp ls H locs hl hP hD hS
    obtain ⟨hd, hc, -⟩ := rowOk_s htl h1
    simp only [ckE, Bool.and_eq_true, beq_iff_eq] at hc
    obtain ⟨-, rfl⟩ := hc
    subst hret
    exact W.vret hx hb hr (fun t ht _ => ⟨⟨none, h2, rfl, hp, by rw [ht]; exact hP, hD⟩, hS.F ht⟩) hS.2.2 hd
  · intro pc n nx tg x wd o k K y2 bytes2 maxL2 ret2 d1 N b ci M fs T As h2 post2 lv st h1 cw hd1 hm hb1 hb2 hN hM hs8 kk
    exact Vt_callV C0 hml hA hSt hst ⟨Nat.zero_le _, Nat.zero_le _⟩ h1 cw ⟨rfl, rfl, (by show d1 + 1 ≤ d; omega), (by show 8 + (maxL2 + 11) + 60 * d1 ≤ 60 * d; omega)⟩ hb1 hb2 hN hM hs8 kk
  · intro pc n nx tg x wd o k K y2 bytes2 maxL2 ret2 d1 N As h2 post2 lv st h1 cw hd1 hm hN hM hs8 kk
    exact Vt_callS C0 hml hA hSt hst ⟨Nat.zero_le _, Nat.zero_le _⟩ h1 cw ⟨rfl, rfl, (by show d1 + 1 ≤ d; omega), (by show 8 + (maxL2 + 11) + 60 * d1 ≤ 60 * d; omega)⟩ hN hM hs8 kk
  · have h1 := ent_args ad avs maxL 0 i v hi
    rw [Nat.zero_add] at h1
    exact hl0.2.2 _ h1
end CT
