/-! A contract of a method that may throw out of its walk; one that doesn't throw, among those that do -/
section CTo
/-- calls of methods that may throw, from one that has no handlers -/
def ClT (l : Launch) (d : Nat) (D : va_G) (cl : List vw_C) (cA : Nat → ClassId) (sl : List Sh) (St : (Nat → Prop) → State → Heap → Prop) (ad : Nat → Nat) (own : String) (tl : List (Nat × RowE)) (pst : Nat → Hp → Prop) (V : VT) : Prop :=
  ∀ (pc n nx tg x wd o : Nat) (k : Int32) (K : Int64) (y : MethodName) (bytes : ByteArray) (maxL : Nat) (ret : Option FieldType) (d1 N b ci M : Nat) (fs : List Nat) (T : u_T) (As : List Value) (h : Hp) (post : Option Value → Hp → Prop) (pst2 : Nat → Hp → Prop) (lv : List (Option Value)) (st : List Value), lkT tl pc = some (.invokevirtual o, n, nx, tg, x, wd, k, K) → CwV own o y bytes maxL ret N → d1 < d → maxL ≤ 40 → sl[b]? = some (.inl (ci, fs)) → cl[ci]? = some (y.cls, T, M) → As.length = N →
    CtT l y bytes maxL ret (rmT d1) D cl cA sl St ad (.ref b :: As) h post pst2 → (st.map fun v => v.category).sum ≤ 8 → (∀ (r : Option Value) (h' : Hp), post r h' → V nx lv (r.toList ++ st) h') → (∀ (E : Nat) (h' : Hp), pst2 E h' → pst E h') → V pc lv (As.reverse ++ .ref b :: st) h
/-- the throw -/
def Thr (tl : List (Nat × RowE)) (pst : Nat → Hp → Prop) (V : VT) : Prop :=
  ∀ (E k pc p2 p3 p4 p5 n1 n2 n3 n4 n5 g1 g2 g3 g4 g5 x1 x2 x3 x4 x5 w1 w2 w3 w4 w5 q5 : Nat) (k1 k2 k3 k4 k5 : Int32) (K1 K2 K3 K4 K5 : Int64) (lv : List (Option Value)) (st : List Value) (h : Hp), E < 3 → lkT tl pc = some (.new (exC E), n1, p2, g1, x1, w1, k1, K1) → lkT tl p2 = some (.dup, n2, p3, g2, x2, w2, k2, K2) → (lkT tl p3 = some (.ldc k, n3, p4, g3, x3, w3, k3, K3) ∨ lkT tl p3 = some (.ldc_w k, n3, p4, g3, x3, w3, k3, K3)) → k ∈ strK → lkT tl p4 = some (.invokespecial (exI E), n4, p5, g4, x4, w4, k4, K4) → lkT tl p5 = some (.athrow, n5, q5, g5, x5, w5, k5, K5) → (st.map fun v => v.category).sum ≤ 8 → pst E h → V pc lv st h
set_option maxHeartbeats 2000000 in
theorem CtT.of {l : Launch} {y : MethodName} {bytes : ByteArray} {maxL : Nat} {ret : Option FieldType} {d : Nat} {D : va_G} {cl : List vw_C} {cA : Nat → ClassId} {sl : List Sh} {ad : Nat → Nat} {avs : List Value} {h : Hp} {post : Option Value → Hp → Prop} {pst : Nat → Hp → Prop} {tl : List (Nat × RowE)} (X : VT → Prop) (hX : XOk d "TogetherOrders" tl D cl cA sl (StX ad) ad X) (hfl : l.flags = flags0) (h6 : 6 ≤ d)
    (hy : y.cls = "TogetherOrders") (htl : tl.all (rowOk bytes y.cls wg maxL cl) = true) (hcl : ClsOk cl wg) (hlen : (lg_sl avs).length ≤ maxL)
    (body : ∀ V : VT, Gd sl tl V → Rt tl ret post V → Cl l d D cl cA sl (StX ad) ad "TogetherOrders" tl V → ClT l d D cl cA sl (StX ad) ad "TogetherOrders" tl pst V → Thr tl pst V → X V → V 0 (ent avs maxL) [] h) : CtT l y bytes maxL ret (rmT d) D cl cA sl (StX ad) ad avs h post pst := by
  intro sz
  refine MetFree.of_bodyS (code := bytes) (maxLocals := maxL) (ret := ret) (by rw [hy]; decide +kernel) ?_ ?_
  · intro args s m hw hn
    obtain ⟨meth, c, h1, h2, h3, h4, h5, h6, -, -⟩ := Cond.code_spec hn (atoms_spec (ws := Cond.code y bytes maxL ret :: wg) hw _ List.mem_cons_self)
    exact ⟨meth, c, h1, h2, h3, h4, h5, h6⟩
  intro p e s m args below meth c s₁ B hml hv _
  obtain ⟨rfl, hsz, hP, hK, hD0, hst⟩ := hv
  have hx := B.exec
  have hb := B.bytes
  have hr := B.returns
  have hts0 := atoms_spec (ws := Cond.code y bytes maxL ret :: wg) B.pre
  have hts : ∀ w ∈ wg, w.before (avs.map (cv ad)).toArray s = true := fun w hw => hts0 w (List.mem_cons_of_mem _ hw)
  have hown : s.vm.findClass "TogetherOrders" = some m.cls := by
    rw [← hy]
    exact findClass_of_methodNamed B.named
  have hlocks := B.notSynchronized
  have hSt := StX_ok ad
  have hh0 : s₁.heap = s.heap := by rw [B.state]; rfl
  have X0 := Stand.of_body B
  have hex : c.exceptionTable.toList = [] := by
    obtain ⟨meth', c', h1, h2, -, -, -, -, h7, -⟩ := Cond.code_spec B.named (hts0 _ List.mem_cons_self)
    have e1 : meth' = meth := Option.some.inj (h1.symm.trans B.method)
    subst e1
    have e2 : c' = c := Option.some.inj (h2.symm.trans X0.code)
    subst e2
    simpa using h7
  have htr : e.platform.stackTraces = false := Launch.traces_off hfl B.admits
  subst hsz
  rw [hy] at htl
  have hD := hD0.self (sz := s.heap.size)
  have hA : ∀ q : Nat, s.heap.size ≤ q → va_A (Wd sl cA ad h) s.heap.size q := fun q hq => Or.inr hq
  have C0 : Cx p s m (avs.map (cv ad)).toArray c bytes "TogetherOrders" wg maxL tl D cl cA := ⟨hx, hb, hown, hts, htl, hK, hcl⟩
  have hl0 := lv_entry (avs.map (cv ad)) (n := maxL) (by rw [sl_len]; exact hlen)
  have w : Vt p l e (rmT d) s m (avs.map (cv ad)).toArray below meth c maxL ad D cl sl cA (va_A (Wd sl cA ad h) s.heap.size) 0 0 (QT below D cl cA sl ad (va_A (Wd sl cA ad h) s.heap.size) post pst (avs.map (cv ad)).toArray s) 0 (ent avs maxL) [] h := by
    have hQ : ∀ t, MQ below (Qx D cl cA sl ad (va_A (Wd sl cA ad h) s.heap.size) post) (avs.map (cv ad)).toArray s 0 0 (va_A (Wd sl cA ad h) s.heap.size) t → QT below D cl cA sl ad (va_A (Wd sl cA ad h) s.heap.size) post pst (avs.map (cv ad)).toArray s t := by
      intro t ht
      obtain ⟨o, a1, a2, a3, a4⟩ := ht
      exact ⟨o, a1, a2, Or.inl ⟨a3, a4⟩⟩
    refine body _ (Vt_Gd C0) ⟨?_, ?_, ?_⟩ ⟨?_, ?_⟩ ?_ ?_ (hX _ _ _ _ _ _ _ _ _ _ _ _ _ _ C0 hml hA hst ⟨rfl, rfl⟩)
    · intro pc n nx tg x wd k K lv h2 v h1 hret hp ls H locs hl hP hD hS
      obtain ⟨hd, hc, -⟩ := rowOk_s htl h1
      simp only [ckE, Bool.and_eq_true, beq_iff_eq] at hc
      obtain ⟨-, rfl⟩ := hc
      refine W_mono hQ ?_
      rcases hret with rfl | ⟨rfl, hv⟩
      · exact W.iret hx hb hr (fun t ht _ => ⟨⟨some (.int v), h2, rfl, hp, by rw [ht]; exact hP, hD⟩, hS.F ht⟩) hS.2.2 hd
      · exact W.zret hx hb hr (nar_b hv).1 (fun t ht _ => ⟨⟨some (.int v), h2, rfl, hp, by rw [ht]; exact hP, hD⟩, hS.F ht⟩) hS.2.2 hd
    · intro pc n nx tg x wd k K lv h2 v h1 hret hp ls H locs hl hP hD hS
      obtain ⟨hd, hc, -⟩ := rowOk_s htl h1
      simp only [ckE, Bool.and_eq_true, beq_iff_eq] at hc
      obtain ⟨-, rfl⟩ := hc
      subst hret
      exact W_mono hQ (W.lret hx hb hr (fun t ht _ => ⟨⟨some (.long v), h2, rfl, hp, by rw [ht]; exact hP, hD⟩, hS.F ht⟩) hS.2.2 hd)
    · intro pc n nx tg x wd k K lv h2 h1 hret hp ls H locs hl hP hD hS
      obtain ⟨hd, hc, -⟩ := rowOk_s htl h1
      simp only [ckE, Bool.and_eq_true, beq_iff_eq] at hc
      obtain ⟨-, rfl⟩ := hc
      subst hret
      exact W_mono hQ (W.vret hx hb hr (fun t ht _ => ⟨⟨none, h2, rfl, hp, by rw [ht]; exact hP, hD⟩, hS.F ht⟩) hS.2.2 hd)
    · intro pc n nx tg x wd o k K y2 bytes2 maxL2 ret2 d1 N b ci M fs T As h2 post2 lv st h1 cw hd1 hm hb1 hb2 hN hM hs8 kk
      exact Vt_callV C0 hml hA hSt hst ⟨Nat.zero_le _, Nat.zero_le _⟩ h1 cw ⟨rfl, rfl, (by show d1 + 1 ≤ d; omega), (by show 8 + (maxL2 + 11) + 60 * d1 ≤ 60 * d; omega)⟩ hb1 hb2 hN hM hs8 kk
    · intro pc n nx tg x wd o k K y2 bytes2 maxL2 ret2 d1 N As h2 post2 lv st h1 cw hd1 hm hN hM hs8 kk
      exact Vt_callS C0 hml hA hSt hst ⟨Nat.zero_le _, Nat.zero_le _⟩ h1 cw ⟨rfl, rfl, (by show d1 + 1 ≤ d; omega), (by show 8 + (maxL2 + 11) + 60 * d1 ≤ 60 * d; omega)⟩ hN hM hs8 kk
    · intro pc n nx tg x wd o k K y2 bytes2 maxL2 ret2 d1 N b ci M fs T As h2 post2 pst2 lv st h1 cw hd1 hm hb1 hb2 hN hM hs8 kk kt ls H locs hl hP hD hS T1 hT X1
      subst hT
      rcases callT C0 hml hA hSt hst h1 cw ⟨⟨(by show d1 + 1 ≤ d; omega), (by show 8 + (maxL2 + 11) + 60 * d1 ≤ 60 * d; omega)⟩, Nat.le_refl _, Nat.le_refl _⟩ hb1 hb2 hN hM hs8 hl.1.1 hP hD hS X1 with ⟨r, h', T', L, hp, ⟨b1, b2, b3⟩, X', stp⟩ | ⟨E, h', q, ce, T', L, hE, hp, hce, hvm, hcn, ⟨b1, b2, b3⟩, X', stp⟩
      · obtain ⟨t, a1, a2⟩ := kk r h' hp ls T'.heap (locs ++ L) hl b1 b2 b3 T' rfl X'
        exact ⟨t, stp.trans a1, a2⟩
      · obtain ⟨a1, a2, a3, a4, a5⟩ := X'.leaveThrown q (g := F0 m pc ls (st.map (cv ad))) rfl rfl rfl (by rw [hex]; exact fun x hx => by cases hx) hlocks
        exact ⟨_, stp.trans a1, .threw q, a2, a3, Or.inr ⟨q, rfl, ⟨E, h', ce, hE, kt E h' hp, hce, hvm, hcn, b1, b2, b3.F rfl⟩, a4, locs ++ L, a5, b3.2.2⟩⟩
    · intro E k pc p2 p3 p4 p5 n1 n2 n3 n4 n5 g1 g2 g3 g4 g5 x1 x2 x3 x4 x5 w1 w2 w3 w4 w5 q5 k1 k2 k3 k4 k5 K1 K2 K3 K4 K5 lv st h2 hE h1 h2' h3 hk h4 h5 hs8 hp
      exact Vt_throw C0 hml hst htr hex hlocks ⟨rfl, rfl, h6, (by show 200 ≤ 60 * d; omega)⟩ hE h1 h2' h3 hk h4 h5 hs8 hp
  obtain ⟨t, a1, o, b1, b2, b3⟩ := w _ s.heap [] ⟨⟨hl0.1, hl0.2.1, fun q hq => by cases hq⟩, fun i v hi => by
    have h1 := ent_args ad avs maxL 0 i v hi
    rw [Nat.zero_add] at h1
    exact hl0.2.2 _ h1⟩ hP hD va_S.rf s₁ hh0 X0
  rw [lg_entry_eq]
  exact ⟨t, o, a1, b1, b2, b3⟩
end CTo
