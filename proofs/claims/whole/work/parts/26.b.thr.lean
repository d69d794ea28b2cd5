/-! WHAT A THROWING METHOD KNOWS, and the throw itself: 'new E("..")' and athrow, in a method without handlers -/
section THb
/-- a static field of Throwable: it is laid, and holds a reference -/
def zTh (n d : String) (A : Nat → Prop) (U : State) (H : Heap) : Prop := ∃ (c : ClassId) (k : Class) (i : Nat) (f : Field) (a : Nat) (cell : Cell) (v : Value), U.vm.findClass Bundle.tN = some c ∧ U.fieldFound? Bundle.tN n d = some (c, k, i, f) ∧ f.isStatic = true ∧ k.statics = some a ∧ k.staticTypes[f.slot]? = some f.type ∧ H[a]? = some cell ∧ cell.vm.isStatics = true ∧ cell.cls = c ∧ f.slot < cell.slots.size ∧ cell.slots[f.slot]? = some v ∧ v.isRef = true ∧ ¬ A a
theorem zTh.moved {n d : String} {A : Nat → Prop} {u U : State} {H : Heap} (hvm : u.vm.Alike U.vm) (h : zTh n d A u H) : zTh n d A U H := by
  obtain ⟨c, k, i, f, a, cell, v, h0, h1, h2, h3, h4, h5⟩ := h
  obtain ⟨k', hi', he⟩ := State.fieldFound?_setVm hvm h1
  exact ⟨c, k', i, f, a, cell, v, by rw [hvm.findClass]; exact h0, hi', h2, by rw [he]; exact h3, by rw [he]; exact h4, h5⟩
theorem zTh.kept {n d : String} {A : Nat → Prop} {U : State} {H H1 : Heap} (h : zTh n d A U H) (hq : ∀ a : Nat, a < H.size → ¬ A a → H1[a]? = H[a]?) : zTh n d A U H1 := by
  obtain ⟨c, k, i, f, a, cell, v, h0, h1, h2, h3, h4, h5, h6, h7, h8, h9, h10, h11⟩ := h
  exact ⟨c, k, i, f, a, cell, v, h0, h1, h2, h3, h4, by rw [hq a (Array.getElem?_eq_some_iff.mp h5).1 h11]; exact h5, h6, h7, h8, h9, h10, h11⟩
theorem zTh.narrow {n d : String} {A B : Nat → Prop} {U : State} {H : Heap} (h : zTh n d A U H) (hAB : ∀ q, B q → A q) : zTh n d B U H := by
  obtain ⟨c, k, i, f, a, cell, v, h0, h1, h2, h3, h4, h5, h6, h7, h8, h9, h10, h11⟩ := h
  exact ⟨c, k, i, f, a, cell, v, h0, h1, h2, h3, h4, h5, h6, h7, h8, h9, h10, fun z => h11 (hAB a z)⟩
theorem zTh.lays {n d : String} {A : Nat → Prop} {U : State} {args : Array Value} (h : zTh n d A U U.heap) : (Cond.laysStatic Bundle.tN n d).before args U = true := by
  obtain ⟨c, k, i, f, a, cell, v, h0, h1, h2, h3, h4, h5, h6, h7, h8, h9, h10, h11⟩ := h
  exact Cond.laysStatic_of h0 h1 h2 h3 h5 h6 h7 h8 h4
theorem zTh.isr {n d : String} {A : Nat → Prop} {U : State} {args : Array Value} (h : zTh n d A U U.heap) : (Cond.isRef (.static Bundle.tN n d)).before args U = true := by
  obtain ⟨c, k, i, f, a, cell, v, h0, h1, h2, h3, h4, h5, h6, h7, h8, h9, h10, h11⟩ := h
  simp [Cond.before, Cond.holds, Cond.value, Term.eval, State.fieldNamed?, h1, h2, h3, h5, h6, h9]
  cases v <;> first | rfl | cases h10
/-- the texts of the class's exceptions, by their entries -/
def strK : List Nat := [81, 97, 105, 111, 123, 133, 135, 150, 152, 177, 179, 211, 216, 227, 251, 261, 263, 265, 267, 269]
def StX (ad : Nat → Nat) (A : Nat → Prop) (U : State) (H : Heap) : Prop := StT ad A U H ∧ zTh "UNASSIGNED_STACK" Bundle.steD A U H ∧ zTh "SUPPRESSED_SENTINEL" Bundle.listD A U H ∧ (∀ E, E < 3 → va_Nw (.castable (exN E) (exN E)) U) ∧ (va_Nw (.declares (Bundle.initS "java/lang/RuntimeException")) U ∧ va_Nw (.declares (Bundle.initS "java/lang/Exception")) U ∧ va_Nw (.declares (Bundle.initS Bundle.tN)) U) ∧ ∀ k ∈ strK, ∃ (tx : String) (a : Nat), vk_R "TogetherOrders" k tx a U
theorem StX_ok (ad : Nat → Nat) : StOk (StX ad) := by
  refine ⟨⟨fun A u U H e h => ?_, fun A u U H hW h => ?_⟩, fun A U H H1 h hq => ?_, fun A B U H h hq => ?_⟩
  · obtain ⟨a, b, c, d, ⟨f1, f2, f3⟩, g⟩ := h
    have ha : u.vm.Alike U.vm := by rw [e]; exact Vm.Alike.refl _
    refine ⟨(StT_ok ad).1.1 A u U H e a, b.moved ha, c.moved ha, fun E hE => va_Nw.same rfl e (d E hE), ⟨va_Nw.same rfl e f1, va_Nw.same rfl e f2, va_Nw.same rfl e f3⟩, fun k hk => ?_⟩
    obtain ⟨tx, q, hq⟩ := g k hk
    exact ⟨tx, q, vk_R.same e.symm hq⟩
  · obtain ⟨a, b, c, d, ⟨f1, f2, f3⟩, g⟩ := h
    refine ⟨(StT_ok ad).1.2 A u U H hW a, b.moved hW.alike, c.moved hW.alike, fun E hE => va_Nw.warmC hW (d E hE), ⟨va_Nw.warmD hW f1, va_Nw.warmD hW f2, va_Nw.warmD hW f3⟩, fun k hk => ?_⟩
    obtain ⟨tx, q, hq⟩ := g k hk
    exact ⟨tx, q, vk_R.warm hW hq⟩
  · obtain ⟨a, b, c, d, f, g⟩ := h
    exact ⟨(StT_ok ad).2.1 A U H H1 a hq, b.kept hq, c.kept hq, d, f, g⟩
  · obtain ⟨a, b, c, d, f, g⟩ := h
    exact ⟨(StT_ok ad).2.2 A B U H a hq, b.narrow hq, c.narrow hq, d, f, g⟩
variable {p : Program} {l : Launch} {e : Env} {R : Room} {s : State} {m : MethodId} {args : Array Value} {below : List Frame} {meth : Method} {c : Code} {Q : State → Prop} {T : State} {locs : List Loc}
/-- the start of the method, with the heap of now -/
def rbS (s T : State) : State := { s with heap := T.heap, slotsUsed := T.slotsUsed }
theorem Stand_rb (X : Stand p l e R s m args below meth c T locs 0 0) : Stand p l e R (rbS s T) m args below meth c T [] 0 0 := by
  have hz : T.heap.size = s.heap.size := Nat.le_antisymm X.heapSize X.same.2.1
  have hu : T.slotsUsed ≤ s.slotsUsed := X.used
  have hbk := X.book
  refine ⟨X.admits, X.cas, X.clock, X.frames, ?_, X.hears, X.method, X.code, X.here, X.tail, State.WarmedH.of_rootvm rfl X.warmed, X.limits, X.bytes, ?_⟩
  · have hr := X.room
    simp only [State.hasRoom, Bool.and_eq_true, decide_eq_true_eq] at hr ⊢
    refine ⟨⟨⟨hr.1.1.1, ?_⟩, ?_⟩, hbk⟩
    · show T.heap.size + R.cells ≤ _
      rw [hz]
      exact hr.1.1.2
    · show T.slotsUsed + R.slots ≤ _
      have := hr.1.2
      omega
  · refine ⟨?_, Nat.le_refl _, Nat.le_refl _, ?_, ?_, fun a cl hc => ⟨cl, hc, rfl, rfl, fun _ _ => rfl⟩⟩
    · have h1 := X.same.1
      exact h1
    · show T.slotsUsed = T.slotsUsed + _
      rw [show (T.setVm (rbS s T).vm).heap = T.heap from rfl, show (rbS s T).heap = T.heap from rfl, List.drop_of_length_le (by simp)]
      simp
    · rw [show (T.setVm (rbS s T).vm).heap = T.heap from rfl, show (rbS s T).heap = T.heap from rfl, List.drop_of_length_le (by simp)]
      simp
theorem same_rb {U : State} {k n : Nat} (X : Stand p l e R s m args below meth c T locs 0 0) (h : (rbS s T).sameButNew ({ U with vm := s.vm } : State) [] k n) : s.sameButNew ({ U with vm := s.vm } : State) locs k n := by
  have hz : T.heap.size = s.heap.size := Nat.le_antisymm X.heapSize X.same.2.1
  obtain ⟨a1, a2, a3, a4, a5, a6⟩ := h
  have hd : (rbS s T).heap.size = s.heap.size := hz
  have hu0 : T.slotsUsed = s.slotsUsed := by
    have h4 : T.slotsUsed = s.slotsUsed + ((T.heap.toList.drop s.heap.size).map (·.slots.size)).sum := X.same.2.2.2.1
    have h5 : ((T.heap.toList.drop s.heap.size).map (·.slots.size)).sum ≤ 0 := X.same.2.2.2.2.1
    omega
  rw [hd] at a2 a3 a4 a5
  refine ⟨a1, a2, a3, ?_, a5, fun a cl hc => ?_⟩
  · rw [a4]
    show T.slotsUsed + _ = _
    rw [hu0]
  · obtain ⟨c1, b1, b2, b3, b4⟩ := X.same.2.2.2.2.2 a cl hc
    obtain ⟨c2, d1, d2, d3, d4⟩ := a6 a c1 b1
    refine ⟨c2, d1, ?_, d3.trans b3, fun i hi => (d4 i (fun z => by cases z)).trans (b4 i hi)⟩
    rw [d2, b2]
theorem W_mono {H : Heap} {cells slots : Nat} {Q Q' : State → Prop} {g : JFrame} (h : ∀ t, Q t → Q' t) (w : W p l e R s m args below meth c H locs cells slots Q g) : W p l e R s m args below meth c H locs cells slots Q' g := fun T hT X => by
  obtain ⟨t, a, b⟩ := w T hT X
  exact ⟨t, a, h t b⟩
/-- how a method that may throw ends -/
def QT (below : List Frame) (D : va_G) (cl : List vw_C) (cA : Nat → ClassId) (sl : List Sh) (ad : Nat → Nat) (A : Nat → Prop) (post : Option Value → Hp → Prop) (pst : Nat → Hp → Prop) (args : Array Value) (s : State) : State → Prop := fun t =>
  ∃ o, t.status = .running ∧ Ended t below o ∧ QB D cl cA sl ad A post pst args s o t
variable {cc : ByteArray} {nL : Nat} {tl : List (Nat × RowE)} {D : va_G} {cl : List vw_C} {cA : Nat → ClassId} {ad : Nat → Nat} {A : Nat → Prop} {sl : List Sh}
theorem word_rb {w : Cond} (hw : w ∈ wg) (h : w.before args s = true) : w.before args (rbS s T) = true := word_at (s := s) (U := rbS s T) (State.WarmedH.refl s) (wg_good w hw).2 h
theorem ex_names : ∀ n ∈ ["java/lang/RuntimeException", "java/lang/Exception"], Bundle.fit n = true := by decide +kernel
set_option maxHeartbeats 1000000 in
theorem Vt_throw {post : Option Value → Hp → Prop} {pst : Nat → Hp → Prop} (C0 : Cx p s m args c cc "TogetherOrders" wg nL tl D cl cA) (hml : c.maxLocals = nL) (hst : StX ad A s s.heap) (htr : e.platform.stackTraces = false) (hex : c.exceptionTable.toList = []) (hlk : meth.locks = false) (hR : R.cells = 1 ∧ R.slots = 6 ∧ 6 ≤ R.frames ∧ 200 ≤ R.locals)
    {E k pc p2 p3 p4 p5 n1 n2 n3 n4 n5 g1 g2 g3 g4 g5 x1 x2 x3 x4 x5 w1 w2 w3 w4 w5 q5 : Nat} {k1 k2 k3 k4 k5 : Int32} {K1 K2 K3 K4 K5 : Int64} (hE : E < 3) (h1 : lkT tl pc = some (.new (exC E), n1, p2, g1, x1, w1, k1, K1)) (h2 : lkT tl p2 = some (.dup, n2, p3, g2, x2, w2, k2, K2))
    (h3 : lkT tl p3 = some (.ldc k, n3, p4, g3, x3, w3, k3, K3) ∨ lkT tl p3 = some (.ldc_w k, n3, p4, g3, x3, w3, k3, K3)) (hk : k ∈ strK) (h4 : lkT tl p4 = some (.invokespecial (exI E), n4, p5, g4, x4, w4, k4, K4)) (h5 : lkT tl p5 = some (.athrow, n5, q5, g5, x5, w5, k5, K5))
    {lv : List (Option Value)} {st : List Value} {h : Hp} (hs8 : (st.map fun v => v.category).sum ≤ 8) (hp : pst E h) : Vt p l e R s m args below meth c nL ad D cl sl cA A 0 0 (QT below D cl cA sl ad A post pst args s) pc lv st h := by
  intro ls H locs hl hP hD hS T hT X
  subst hT
  have X0 := Stand_rb X
  obtain ⟨hx, hb, hown, hts, htl, hK, hcl⟩ := C0
  obtain ⟨-, z1, z2, zc, ⟨zd1, zd2, zd3⟩, zs⟩ := hst
  have hown' : (rbS s T).vm.findClass "TogetherOrders" = some m.cls := hown
  have hts' : ∀ w ∈ wg, w.before args (rbS s T) = true := fun w hw => word_rb hw (hts w hw)
  obtain ⟨hd1, hc1, -⟩ := rowOk_s htl h1
  obtain ⟨hd2, hc2, -⟩ := rowOk_s htl h2
  obtain ⟨hd4, hc4, -⟩ := rowOk_s htl h4
  obtain ⟨hd5, hc5, -⟩ := rowOk_s htl h5
  simp only [ckE, Bool.and_eq_true, beq_iff_eq] at hc1 hc2 hc4 hc5
  obtain ⟨rfl, rfl⟩ := hc1
  obtain ⟨rfl, rfl⟩ := hc2
  obtain ⟨rfl, rfl⟩ := hc4
  obtain ⟨rfl, rfl⟩ := hc5
  obtain ⟨y1, y2, y3⟩ := own_x hE
  obtain ⟨tx, q, hq⟩ := zs k hk
  have hq' : vk_R "TogetherOrders" k tx q (rbS s T) := vk_R.same rfl hq
  have zz1 : zTh "UNASSIGNED_STACK" Bundle.steD A (rbS s T) (rbS s T).heap := (z1.kept (H1 := T.heap) hS.2.1).moved (Vm.Alike.refl _)
  have zz2 : zTh "SUPPRESSED_SENTINEL" Bundle.listD A (rbS s T) (rbS s T).heap := (z2.kept (H1 := T.heap) hS.2.1).moved (Vm.Alike.refl _)
  have hown_w : ∀ a ∈ Bundle.ownAtoms "TogetherOrders" (exI E) (exN E) ["java/lang/RuntimeException", "java/lang/Exception"], a.before args (rbS s T) = true := by
    intro a ha
    rcases own_w hE a ha with hw | hw
    · exact hts' a hw
    · simp only [ngW, List.mem_cons, List.not_mem_nil, or_false] at hw
      rcases hw with rfl | rfl | rfl | rfl | rfl | rfl | rfl | rfl
      · exact va_Nw.use rfl (va_Nw.same rfl rfl (zc E hE))
      · exact zz1.lays
      · exact zz2.lays
      · exact zz1.isr
      · exact zz2.isr
      · exact va_Nw.use rfl (va_Nw.same rfl rfl zd1)
      · exact va_Nw.use rfl (va_Nw.same rfl rfl zd2)
      · exact va_Nw.use rfl (va_Nw.same rfl rfl zd3)
  have w : W p l e R (rbS s T) m args below meth c T.heap [] 0 0 (QT below D cl cA sl ad A post pst args s) (F0 m pc ls (st.map (cv ad))) := by
    refine W.newc hx hb hown' (hts' _ y1) (hts' _ y2) (hts' _ y3) rfl hd1 (by omega) (by omega) (fun cC kC f1 f2 f3 f4 => ?_)
    refine lv_dup (va := .ref T.heap.size) (ls := ls) (rest := st.map (cv ad)) hx hb hd2 rfl ?_
    have fin : W p l e R (rbS s T) m args below meth c (T.heap.push { cls := cC, slots := kC.instanceTypes.map defaultValue, vm := .none }) [] (0 + 1) (0 + 6) (QT below D cl cA sl ad A post pst args s) (F0 m p4 ls (.ref q :: .ref T.heap.size :: .ref T.heap.size :: st.map (cv ad))) := by
      intro T2 hT2 X2
      obtain ⟨U, a1, a2, a3, a4, a5, ce, a6, a7⟩ := X2.ctorThrowS hx htr hown' (ex_fit hE) ex_names hown_w (fun x hx => by cases hx) (a := T.heap.size) (cX := cC) (kX := kC) f1 f2 (by rw [hT2]; simp [freshCell]) (Nat.le_refl _) (msg := .ref q) rfl (g := F0 m p4 ls (.ref q :: .ref T.heap.size :: .ref T.heap.size :: st.map (cv ad))) rfl (hl.1.1.trans hml.symm) rfl rfl (rest := st.map (cv ad)) rfl (by rw [hb]; exact hd4) (by rw [hb]; exact hd5) (by rw [hex]; exact fun x hx => by cases hx) (by show 2 + 3 < R.frames; omega) (by
          have e1 := cat_map ad st
          show 2 * 0 + (1 + ((st.map (cv ad)).map fun v => v.category).sum) + (13 * (2 + 1) + 42) ≤ R.locals
          rw [e1]
          omega) hlk
      have b5 := same_rb X a5
      have old : ∀ (a : Nat) (c0 : Cell), T.heap[a]? = some c0 → U.heap[a]? = some c0 := fun a c0 h0 => State.sameButNew.old_cell a5 h0
      refine ⟨U, a1, .threw T.heap.size, a2, a3, Or.inr ⟨_, rfl, ⟨E, h, ce, hE, hp, a6, a7.vm, a7.cls, ?_, hD, b5.2.1, ?_⟩, State.WarmedH.of_rootvm rfl a4, locs, b5, hS.2.2⟩⟩
      · refine hP.kept (fun k2 q2 hq2 => ?_)
        have hlt := (hP k2 q2 hq2).lt
        obtain ⟨c0, hc0⟩ : ∃ c0, T.heap[q2.1]? = some c0 := ⟨_, Array.getElem?_eq_getElem hlt⟩
        rw [hc0]
        exact old _ _ hc0
      · intro q2 h21 h22
        have h23 := hS.2.1 q2 h21 h22
        obtain ⟨c0, hc0⟩ : ∃ c0, s.heap[q2]? = some c0 := ⟨_, Array.getElem?_eq_getElem h21⟩
        rw [hc0] at h23 ⊢
        exact old _ _ h23
    rcases h3 with h3 | h3
    · obtain ⟨hd3, hc3, -⟩ := rowOk_s htl h3
      simp only [ckE, Bool.and_eq_true, beq_iff_eq] at hc3
      obtain ⟨rfl, rfl, -⟩ := hc3
      exact va_ldcS hx hb hown' hq' hd3 fin
    · obtain ⟨hd3, hc3, -⟩ := rowOk_s htl h3
      simp only [ckE, Bool.and_eq_true, beq_iff_eq] at hc3
      obtain ⟨rfl, rfl, -⟩ := hc3
      intro T2 hT2 X2
      obtain ⟨t, b1, b2⟩ := fin T2 hT2 X2
      exact ⟨t, X2.ldcStringW hx hown' (text := tx) (a := q) hq'.1 hq'.2 (g := F0 m (pc + 3 + 1) ls (.ref T.heap.size :: .ref T.heap.size :: st.map (cv ad))) rfl (by rw [hb]; exact hd3) t b1, b2⟩
  exact w T rfl X0
end THb
