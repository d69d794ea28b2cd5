/-! METHODS THAT MAY THROW: contracts with a second end, calls of such methods -/
section ExA
/-- the three exceptions -/
def exN (E : Nat) : String := match E with
  | 0 => "java/lang/IllegalStateException"
  | 1 => "java/lang/IndexOutOfBoundsException"
  | _ => "java/lang/IllegalArgumentException"
/-- the room of a method that may throw: one object of six fields -/
def rmT (d : Nat) : Room := { frames := d, cells := 1, slots := 6, locals := 60 * d }
/-- the end of a method that has thrown: which exception, the heap behind it -/
def QxT (D : va_G) (cl : List vw_C) (cA : Nat → ClassId) (sl : List Sh) (ad : Nat → Nat) (A : Nat → Prop) (pst : Nat → Hp → Prop) (st : State) (q : Addr) (t : State) : Prop :=
  ∃ (E : Nat) (h' : Hp) (ce : Cell), E < 3 ∧ pst E h' ∧ t.heap[q]? = some ce ∧ ce.vm = .none ∧ st.vm.findClass (exN E) = some ce.cls ∧ va_P D cl (Wd sl cA ad h') t.heap ∧ va_D A (Wd sl cA ad h') ∧ va_F A st t
/-- both ends -/
def QB (D : va_G) (cl : List vw_C) (cA : Nat → ClassId) (sl : List Sh) (ad : Nat → Nat) (A : Nat → Prop) (post : Option Value → Hp → Prop) (pst : Nat → Hp → Prop) (a : Array Value) (st : State) (o : Outcome) (t : State) : Prop :=
  (Qx D cl cA sl ad A post a st o t ∧ ∃ L, FrameEnd st o t L 0 0 ∧ ∀ z ∈ L, A z.base) ∨ (∃ q, o = .threw q ∧ QxT D cl cA sl ad A pst st q t ∧ st.WarmedH t.vm ∧ ∃ L, st.sameButNew ({ t with vm := st.vm } : State) L 1 6 ∧ ∀ z ∈ L, A z.base)
def CtT (l : Launch) (y : MethodName) (bytes : ByteArray) (maxL : Nat) (ret : Option FieldType) (rm : Room) (D : va_G) (cl : List vw_C) (cA : Nat → ClassId) (sl : List Sh) (St : (Nat → Prop) → State → Heap → Prop) (ad : Nat → Nat) (avs : List Value) (h : Hp) (post : Option Value → Hp → Prop) (pst : Nat → Hp → Prop) : Prop :=
  ∀ sz : Nat, MetFree l y (headSpec (Cond.code y bytes maxL ret :: wg) rm) (Px D cl cA sl St ad avs h sz) (fun _ _ _ _ _ => True) (QB D cl cA sl ad (va_A (Wd sl cA ad h) sz) post pst)
variable {p : Program} {l : Launch} {e : Env} {R : Room} {s : State} {m : MethodId} {args : Array Value} {below : List Frame} {meth : Method} {c : Code} {cells slots : Nat} {Q : State → Prop}
/-- what a call comes to: the machine stands behind it with the answer, or with an exception over the frame -/
theorem call_any {T : State} {locs : List Loc} {y : MethodName} {S : Spec} {Pc : Array Value → State → Prop} {QQ : Array Value → State → Outcome → State → Prop} {bytes : ByteArray} {maxL : Nat} {ret : Option FieldType} {g : JFrame} {ig : Instr} {len W9 : Nat} {mk : MethodId} {a : Array Value}
    (hM : MetFree l y S Pc (fun _ _ _ _ _ => True) QQ) (X : Stand p l e R s m args below meth c T locs cells slots) (hg : g.method = m) (hsize : g.locals.size = c.maxLocals) (hdg : decode c.code g.pc = .ok (ig, len)) (hW : 2 * g.monitorRoom + (g.stack.map fun v => v.category).sum ≤ W9) (hn : T.methodNamed? y = some mk)
    (hpre : S.pre.before a T = true) (hcode : (Cond.code y bytes maxL ret).before a T = true) (hini : (Cond.initialized y.cls).before a T = true) (hfr : S.room.frames + 1 ≤ R.frames) (hlo : W9 + (maxL + 11) + S.room.locals ≤ R.locals) (hce : cells + S.room.cells ≤ R.cells) (hsl : slots + S.room.slots ≤ R.slots) (hPc : Pc a (T.calling g mk a)) :
    ∃ (o : Outcome) (t : State), QQ a (T.calling g mk a) o t ∧ ∀ (L : List Loc) (k n : Nat),
      (∀ v, o = .returned v → FrameEnd (T.calling g mk a) o t L k n → ∃ T' : State, T'.heap = t.heap ∧ T'.vm = t.vm ∧ Stand p l e R s m args below meth c T' (locs ++ L) (cells + k) (slots + n) ∧ Steps p.tables e below (doInvoke e (T.setTop g) [] mk a).1 (T'.setTop { g with pc := g.pc + len, stack := v.toList ++ g.stack })) ∧
      (∀ q, o = .threw q → (T.calling g mk a).WarmedH t.vm → (T.calling g mk a).sameButNew ({ t with vm := (T.calling g mk a).vm } : State) L k n → ∃ T' : State, T'.heap = t.heap ∧ T'.vm = t.vm ∧ Stand p l e R s m args below meth c T' (locs ++ L) (cells + k) (slots + n) ∧ Steps p.tables e below (doInvoke e (T.setTop g) [] mk a).1 ((T'.setTop g).pushFrame (.throwing q))) := by
  subst hg
  obtain ⟨methY, cY, hmY, hcY, -, hlY, -, -, -, -⟩ := Cond.code_spec hn hcode
  obtain ⟨kY, hkY, -⟩ := className_of_methodNamed hn
  have hinitY : kY.init = .initialized := Cond.initialized_spec (findClass_of_methodNamed hn) hkY hini
  have hat : At T g.method c below := X.here
  have happ : S.appliesLoose y e.platform (T.calling g mk a) = true := Spec.appliesLoose_calling (g := g) hat hdg hn hkY hinitY (X.room_calling (g := g) (R' := S.room) hsize hmY hcY hfr (by rw [hlY]; omega) hce hsl) hpre
  obtain ⟨mid, hmid⟩ := hat.above
  have hframes : (T.setTop g).frames = (.java g :: mid) ++ below := by rw [State.frames_setTop' g hat.top, hmid]; rfl
  obtain ⟨o, t, hsteps, -, hend, hq⟩ := Steps.callFree hM p X.admits X.cas X.clock (acts := []) hframes happ hPc trivial
  rw [State.frames_setTop' g hat.top] at hend
  obtain ⟨g₀, hg0⟩ := Option.isSome_iff_exists.mp hat.top
  obtain ⟨r, hr⟩ := State.topJava?_eq_some.mp hg0
  generalize hT' : (({ T with heap := t.heap, slotsUsed := t.slotsUsed } : State).setVm t.vm) = T'
  have hr' : T'.frames = .java g₀ :: r := by rw [← hT']; exact hr
  have stand : ∀ (L : List Loc) (k n : Nat), (T.calling g mk a).WarmedH t.vm → (T.calling g mk a).sameButNew ({ t with vm := (T.calling g mk a).vm } : State) L k n → Stand p l e R s g.method args below meth c T' (locs ++ L) (cells + k) (slots + n) ∧ t = ({ (T.calling g mk a).setFrames t.frames with heap := t.heap, slotsUsed := t.slotsUsed } : State).setVm t.vm := by
    intro L k n hWm hsm
    obtain ⟨e2, q2, q3, q4, q5, q6⟩ := id hsm
    have hW' : T.WarmedH t.vm := hWm
    have hsame : T.sameButNew ({ T with heap := t.heap, slotsUsed := t.slotsUsed } : State) L k n := by
      refine ⟨?_, q2, q3, q4, q5, q6⟩
      obtain ⟨th, hth, -⟩ := State.frames_cons hr
      show ({ T with heap := t.heap, slotsUsed := t.slotsUsed } : State) = { T.setFrames T.frames with heap := t.heap, slotsUsed := t.slotsUsed }
      rw [State.setFrames_self hth]
    refine ⟨?_, ?_⟩
    · rw [← hT']
      exact ⟨X.admits, X.cas, X.clock, X.frames, X.room, X.hears, X.method, X.code, (X.here.setHeapUsed t.heap t.slotsUsed).setVm hW'.alike, X.tail, State.WarmedH.trans X.warmed hW', X.limits, X.bytes, X.same.trans (hsame.setVm s.vm)⟩
    · have h0 : t = ({ t with vm := (T.calling g mk a).vm } : State).setVm t.vm := rfl
      rw [e2] at h0
      exact h0
  refine ⟨o, t, hq, fun L k n => ⟨fun v ho hfe => ?_, fun q ho hWm hsm => ?_⟩⟩
  · subst ho
    obtain ⟨⟨v', hv'⟩, hWm, hsm⟩ := hfe
    cases hv'
    obtain ⟨X', e3⟩ := stand L k n hWm hsm
    obtain ⟨c₂, i₂, len₂, hc₂, hd₂, hf₂⟩ := hend
    have hW' : T.WarmedH t.vm := hWm
    have hcc : c₂ = c := by
      have h1 : t.code? g.method = T.code? g.method := by rw [State.code?_eq, State.code?_eq, hW'.alike.method?]
      exact Option.some.inj (hc₂.symm.trans (h1.trans hat.code))
    subst hcc
    rw [hdg] at hd₂
    cases hd₂
    refine ⟨T', by rw [← hT']; rfl, by rw [← hT']; rfl, X', ?_⟩
    have hs2 : t = T'.setTop { g with pc := g.pc + len, stack := v.toList ++ g.stack } := by
      refine e3.trans ?_
      rw [hf₂, State.calling_eq hat.top, State.setFrames_setFrames, State.setTop_of_frames _ hr', hr, ← hT']
      rfl
    rw [← hs2]
    exact hsteps
  · subst ho
    obtain ⟨X', e3⟩ := stand L k n hWm hsm
    have hf₂ : t.frames = .throwing q :: .java g :: T.frames.tail := hend
    refine ⟨T', by rw [← hT']; rfl, by rw [← hT']; rfl, X', ?_⟩
    have hs2 : t = (T'.setTop g).pushFrame (.throwing q) := by
      refine e3.trans ?_
      rw [hf₂, State.calling_eq hat.top, State.setFrames_setFrames, State.pushFrame, State.frames_setTop _ hr', State.setTop_of_frames _ hr', State.setFrames_setFrames, hr, ← hT']
      rfl
    rw [← hs2]
    exact hsteps
end ExA
