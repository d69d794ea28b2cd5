/-! The call of a method that may throw: both ends -/
section CTa
variable {p : Program} {l : Launch} {e : Env} {R : Room} {s : State} {m : MethodId} {args : Array Value} {below : List Frame} {meth : Method} {c : Code} {cells slots : Nat} {cc : ByteArray} {own : String} {nL : Nat} {tl : List (Nat × RowE)} {D : va_G} {cl : List vw_C} {cA : Nat → ClassId} {ad : Nat → Nat} {A : Nat → Prop} {sl : List Sh} {St : (Nat → Prop) → State → Heap → Prop}
/-- where the machine stands behind a call: heap, world, places that were written -/
def Bhd (D : va_G) (cl : List vw_C) (cA : Nat → ClassId) (sl : List Sh) (ad : Nat → Nat) (A : Nat → Prop) (s : State) (h' : Hp) (H' : Heap) (locs' : List Loc) : Prop := va_P D cl (Wd sl cA ad h') H' ∧ va_D A (Wd sl cA ad h') ∧ va_S A s.heap H' locs'
theorem Bhd_of {h h' : Hp} {T t st₀ : State} {locs L : List Loc} {H' : Heap} (hA : ∀ q, s.heap.size ≤ q → A q) (hD : va_D A (Wd sl cA ad h)) (hS : va_S A s.heap T.heap locs) (h0 : st₀.heap = T.heap) (e1 : H' = t.heap) (hP1 : va_P D cl (Wd sl cA ad h') t.heap) (hD1 : va_D (va_A (Wd sl cA ad h) T.heap.size) (Wd sl cA ad h')) (hF : va_F (va_A (Wd sl cA ad h) T.heap.size) st₀ t) (hL : ∀ z ∈ L, va_A (Wd sl cA ad h) T.heap.size z.base) : Bhd D cl cA sl ad A s h' H' (locs ++ L) := by
  have hI := A_in hA hD hS
  obtain ⟨hz, hk⟩ := hF
  rw [h0] at hz hk
  refine ⟨by rw [e1]; exact hP1, hD1.weaken (fun _ q _ hq => hI q.1 hq), Nat.le_trans hS.1 (by rw [e1]; exact hz), fun q h1 h2 => by rw [e1, hk q (Nat.lt_of_lt_of_le h1 hS.1) (fun z => h2 (hI q z))]; exact hS.2.1 q h1 h2, fun q hq => ?_⟩
  rcases List.mem_append.mp hq with hq | hq
  · exact hS.2.2 q hq
  · exact hI _ (hL q hq)
set_option maxHeartbeats 1000000 in
theorem callT (C0 : Cx p s m args c cc own wg nL tl D cl cA) (hml : c.maxLocals = nL) (hA : ∀ q, s.heap.size ≤ q → A q) (hSt : StOk St) (hst : St A s s.heap)
    {pc n nx tg x wd o : Nat} {k : Int32} {K : Int64} (h1 : lkT tl pc = some (.invokevirtual o, n, nx, tg, x, wd, k, K)) {y : MethodName} {bytes : ByteArray} {maxL : Nat} {ret : Option FieldType} {rm : Room} {N : Nat} (cw : CwV own o y bytes maxL ret N) (hrm : (rm.frames + 1 ≤ R.frames ∧ 8 + (maxL + 11) + rm.locals ≤ R.locals) ∧ cells + rm.cells ≤ R.cells ∧ slots + rm.slots ≤ R.slots)
    {b ci M : Nat} {fs : List Nat} {T0 : u_T} (hb1 : sl[b]? = some (.inl (ci, fs))) (hb2 : cl[ci]? = some (y.cls, T0, M)) {As : List Value} (hN : As.length = N) {h : Hp} {post : Option Value → Hp → Prop} {pst : Nat → Hp → Prop} (hM : CtT l y bytes maxL ret rm D cl cA sl St ad (.ref b :: As) h post pst) {st : List Value} (hs8 : (st.map fun v => v.category).sum ≤ 8)
    {ls : Array Slot} {locs : List Loc} {T : State} (hls : ls.size = nL) (hP : va_P D cl (Wd sl cA ad h) T.heap) (hD : va_D A (Wd sl cA ad h)) (hS : va_S A s.heap T.heap locs) (X : Stand p l e R s m args below meth c T locs cells slots) :
    (∃ (r : Option Value) (h' : Hp) (T' : State) (L : List Loc), post r h' ∧ Bhd D cl cA sl ad A s h' T'.heap (locs ++ L) ∧ Stand p l e R s m args below meth c T' (locs ++ L) cells slots ∧ Steps p.tables e below (T.setTop (F0 m pc ls ((As.reverse ++ Value.ref b :: st).map (cv ad)))) (T'.setTop (F0 m nx ls ((r.toList ++ st).map (cv ad))))) ∨
    (∃ (E : Nat) (h' : Hp) (q : Nat) (ce : Cell) (T' : State) (L : List Loc), E < 3 ∧ pst E h' ∧ T'.heap[q]? = some ce ∧ ce.vm = .none ∧ s.vm.findClass (exN E) = some ce.cls ∧ Bhd D cl cA sl ad A s h' T'.heap (locs ++ L) ∧ Stand p l e R s m args below meth c T' (locs ++ L) (cells + 1) (slots + 6) ∧ Steps p.tables e below (T.setTop (F0 m pc ls ((As.reverse ++ Value.ref b :: st).map (cv ad)))) ((T'.setTop (F0 m pc ls (st.map (cv ad)))).pushFrame (.throwing q))) := by
  obtain ⟨hx, hb, hown, hts, htl, hK, hcl⟩ := C0
  obtain ⟨hd, hc, -⟩ := rowOk_s htl h1
  simp only [ckE, Bool.and_eq_true, beq_iff_eq] at hc
  obtain ⟨rfl, rfl⟩ := hc
  obtain ⟨w1, w2, w3, w4, w5, w6, w7, w8⟩ := cw
  have hws : ∀ w ∈ wg, ∀ (a' : Array Value) (U : State), s.WarmedH U.vm → w.before a' U = true := fun w hw a' U hW => word_at hW (wg_good w hw).2 (hts w hw)
  obtain ⟨cellB, hcB, hoB, hclB⟩ := va_recv hK hP hb2 (Wd_at hb1)
  obtain ⟨mk, methM, hnamed, hmethM, hstM, habM⟩ := Cond.instanceMethod_spec (hts _ w2)
  obtain ⟨methM', cM, hmethM', -, -, -, -, -, -, hsigM⟩ := Cond.code_spec hnamed (hts _ w5)
  cases hmethM.symm.trans hmethM'
  obtain ⟨c2, r2, m2, q1, q2, q3, q4, kP, hkP, hkPi⟩ := Cond.selects_spec (hts _ w3)
  cases hclB.symm.trans q1
  cases (State.methodFound?_of_named hnamed ⟨w6, w7⟩).symm.trans q2
  cases hnamed.symm.trans q3
  have hselP : selectMethod e.platform s.vm cellB.cls mk = .method mk := by rw [Launch.admits_selectMethod X.admits]; exact q4
  have hlen : (As.map (cv ad)).length = methM.sig.parameters.length := by
    rw [hsigM] at w8
    rw [List.length_map, hN]
    exact (Option.some.inj w8).symm
  have e0 : (As.reverse ++ Value.ref b :: st).map (cv ad) = (As.map (cv ad)).reverse ++ .ref (ad b) :: st.map (cv ad) := by simp [cv]
  rw [e0]
  obtain ⟨vm₁, X₁, hstep₁⟩ := X.invokevirtual hx hown (hts _ w1) hnamed hmethM hstM hkP hkPi ⟨w6, w7⟩ (a := ad b) (cell := cellB) hcB (fun z hz => by rw [hz] at hoB; cases hoB) hselP hmethM habM hkP hkPi (g := F0 m pc ls ((As.map (cv ad)).reverse ++ .ref (ad b) :: st.map (cv ad))) rfl (argsL := As.map (cv ad)) (rest := st.map (cv ad)) hlen rfl (by rw [hb]; exact hd)
  have hW₁ := X₁.warmed
  have hI := A_in hA hD hS
  have hPx : Px D cl cA sl St ad (.ref b :: As) h T.heap.size (Value.ref (ad b) :: As.map (cv ad)).toArray (T.setVm vm₁) := by
    refine ⟨rfl, rfl, hP, va_K.moved hW₁.alike hK, hD.weaken (fun _ _ _ _ => trivial), ?_⟩
    exact hSt.1.2 _ s _ _ hW₁ (hSt.2.2 _ _ _ _ (hSt.2.1 _ _ _ _ hst (fun q z1 z2 => hS.2.1 q z1 z2)) hI)
  obtain ⟨o', t, hq, hk⟩ := call_any (W9 := 8) (a := (Value.ref (ad b) :: As.map (cv ad)).toArray) (hM T.heap.size) X₁ (g := F0 m pc ls (st.map (cv ad))) rfl (by rw [hml]; exact hls) (by rw [hb]; exact hd) (lv_room (by rw [cat_map]; exact hs8)) (X₁.named hnamed)
    (atoms_intro fun w hw => by
      rcases List.mem_cons.mp hw with rfl | hw
      · exact hws _ w5 _ _ hW₁
      · exact hws w hw _ _ hW₁) (bytes := bytes) (maxL := maxL) (ret := ret) (hws _ w5 _ _ hW₁) (hws _ w4 _ _ hW₁) hrm.1.1 hrm.1.2 hrm.2.1 hrm.2.2 (Px_blind hSt _ _ _ _ hPx)
  rcases hq with ⟨⟨⟨r, h', ho, hp, hP1, hD1⟩, hF⟩, L, hfe, hL⟩ | ⟨q, ho, ⟨E, h', ce, hE, hp, hce, hvm, hcn, hP1, hD1, hF⟩, hWt, L, hsm, hL⟩
  · left
    obtain ⟨T', e1, e2, X', stp⟩ := (hk L 0 0).1 _ ho hfe
    have e3 : (r.toList ++ st).map (cv ad) = (r.map (cv ad)).toList ++ st.map (cv ad) := by cases r <;> simp
    refine ⟨r, h', T', L, hp, Bhd_of hA hD hS rfl e1 hP1 hD1 hF hL, X', ?_⟩
    rw [e3]
    exact hstep₁ _ (fun acts => by rw [doInvoke_state]; exact stp)
  · right
    obtain ⟨T', e1, e2, X', stp⟩ := (hk L 1 6).2 q ho hWt hsm
    exact ⟨E, h', q, ce, T', L, hE, hp, by rw [e1]; exact hce, hvm, hW₁.alike.findClass (exN E) none ▸ hcn, Bhd_of hA hD hS rfl e1 hP1 hD1 hF hL, X', hstep₁ _ (fun acts => by rw [doInvoke_state]; exact stp)⟩
end CTa
