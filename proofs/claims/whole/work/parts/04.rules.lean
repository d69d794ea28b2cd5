/-! THE RULES OF THE WALK: what a predicate V of places (pc, locals, stack, heap) keeps to (Gd), and that the machine's own predicate (Vt) keeps to it. A method is then walked over any V with Gd. -/
section RU
def ckF (cl : List vw_C) (own : String) (Ts : List Cond) (e : RowE) : Bool := match e with
  | (i, _, _, tg, x, wd, k, _) => match i with
    | .getfield a => match cl[x]? with
      | some (C, T, N) => decide (tg < N) && decide ((T tg).1 = C) && decide (Ts[wd]? = some (Cond.fieldLink own a C (T tg).2.1 (T tg).2.2.1))
      | none => false
    | .putfield a => match cl[x]? with
      | some (C, T, N) => decide (tg < N) && decide ((T tg).1 = C) && decide (Ts[wd]? = some (Cond.fieldLink own a C (T tg).2.1 (T tg).2.2.1)) && ((k == 2) || !(T tg).2.2.2) && (!(k == 0) || decide (parseFieldDescriptor (T tg).2.2.1 = some .int)) && (!(k == 1) || decide (parseFieldDescriptor (T tg).2.2.1 = some .boolean))
      | none => false
    | _ => true
def ClsOk (cl : List vw_C) (Ts : List Cond) : Prop := ∀ (ci : Nat) (C : String) (T : u_T) (N : Nat), cl[ci]? = some (C, T, N) → (∀ w ∈ u_ws C T N, w ∈ Ts) ∧ (∃ ty0 : Nat → FieldType, ∀ k, k < N → parseFieldDescriptor (T k).2.2.1 = some (ty0 k)) ∧ (∀ a, a < N → ∀ b, b < N → a ≠ b → (T a).2.1 ≠ (T b).2.1)
def tysOf (cA : Nat → ClassId) : List (ClassId × FieldType) := [(cA 0, .int), (cA 1, .long), (cA 2, .boolean), (cA 3, .array .long), (cA 4, .array .int)]
def rowOk (cc : ByteArray) (own : String) (Ts : List Cond) (nL : Nat) (cl : List vw_C) (q : Nat × RowE) : Bool := decide (decode cc q.1 = .ok (q.2.1, q.2.2.1)) && ckE own Ts nL q.1 q.2 && ckF cl own Ts q.2
def Cx (p : Program) (s : State) (m : MethodId) (args : Array Value) (c : Code) (cc : ByteArray) (own : String) (Ts : List Cond) (nL : Nat) (tl : List (Nat × RowE)) (D : va_G) (cl : List vw_C) (cA : Nat → ClassId) : Prop :=
  p.tables.exec = Jvm.exec ∧ c.code = cc ∧ s.vm.findClass own = some m.cls ∧ (∀ w ∈ Ts, w.before args s = true) ∧ tl.all (rowOk cc own Ts nL cl) = true ∧ va_K D cl (tysOf cA) s ∧ ClsOk cl Ts
abbrev VT : Type := Nat → List (Option Value) → List Value → Hp → Prop
def Gd (sl : List Sh) (tl : List (Nat × RowE)) (V : VT) : Prop :=
  (∀ (pc n nx tg x wd : Nat) (i : Instr) (k : Int32) (K : Int64) (lv lv' : List (Option Value)) (st st' : List Value) (h : Hp), lkT tl pc = some (i, n, nx, tg, x, wd, k, K) → ps i x k K lv st = some (lv', st') → V nx lv' st' h → V pc lv st h) ∧
  (∀ (pc n nx tg x wd : Nat) (i : Instr) (k : Int32) (K : Int64) (lv : List (Option Value)) (st st' : List Value) (P1 P2 : Prop) (h : Hp), lkT tl pc = some (i, n, nx, tg, x, wd, k, K) → pb i st = some (st', P1, P2) → (P1 → V tg lv st' h) → (P2 → V nx lv st' h) → V pc lv st h) ∧
  (∀ (pc n nx tg x wd : Nat) (o : Int) (k : Int32) (K : Int64) (lv : List (Option Value)) (st : List Value) (h : Hp), lkT tl pc = some (.goto o, n, nx, tg, x, wd, k, K) → V tg lv st h → V pc lv st h) ∧
  (∀ (pc n nx j ci wd a f o : Nat) (k : Int32) (K : Int64) (fs : List Nat) (lv : List (Option Value)) (st : List Value) (h : Hp), lkT tl pc = some (.getfield o, n, nx, j, ci, wd, k, K) → sl[a]? = some (.inl (ci, fs)) → fs[j]? = some f → V nx lv (gF h a j f :: st) h → V pc lv (.ref a :: st) h) ∧
  (∀ (pc n nx j ci wd a o : Nat) (K : Int64) (fs : List Nat) (lv : List (Option Value)) (st : List Value) (h : Hp) (v : Int32), lkT tl pc = some (.putfield o, n, nx, j, ci, wd, 0, K) → sl[a]? = some (.inl (ci, fs)) → fs[j]? = some 0 → V nx lv st (upI h a j v) → V pc lv (.int v :: .ref a :: st) h) ∧
  (∀ (pc n nx j ci wd a o : Nat) (K : Int64) (fs : List Nat) (lv : List (Option Value)) (st : List Value) (h : Hp) (v : Int32), lkT tl pc = some (.putfield o, n, nx, j, ci, wd, 1, K) → sl[a]? = some (.inl (ci, fs)) → fs[j]? = some 2 → (v = 0 ∨ v = 1) → V nx lv st (upI h a j v) → V pc lv (.int v :: .ref a :: st) h) ∧
  (∀ (pc n nx tg x wd a N b : Nat) (k : Int32) (K : Int64) (lv : List (Option Value)) (st : List Value) (h : Hp) (i : Int32), lkT tl pc = some (.iaload, n, nx, tg, x, wd, k, K) → sl[a]? = some (.inr (N, 0, b)) → vp_in i N → V nx lv (.int (h.1 a i.toNatClampNeg) :: st) h → V pc lv (.int i :: .ref a :: st) h) ∧
  (∀ (pc n nx tg x wd a N b : Nat) (k : Int32) (K : Int64) (lv : List (Option Value)) (st : List Value) (h : Hp) (i : Int32), lkT tl pc = some (.baload, n, nx, tg, x, wd, k, K) → sl[a]? = some (.inr (N, 2, b)) → vp_in i N → V nx lv (.int (h.1 a i.toNatClampNeg) :: st) h → V pc lv (.int i :: .ref a :: st) h) ∧
  (∀ (pc n nx tg x wd a N b : Nat) (k : Int32) (K : Int64) (lv : List (Option Value)) (st : List Value) (h : Hp) (i : Int32), lkT tl pc = some (.laload, n, nx, tg, x, wd, k, K) → sl[a]? = some (.inr (N, 1, b)) → vp_in i N → V nx lv (.long (h.2 a i.toNatClampNeg) :: st) h → V pc lv (.int i :: .ref a :: st) h) ∧
  (∀ (pc n nx tg x wd a N t b : Nat) (k : Int32) (K : Int64) (lv : List (Option Value)) (st : List Value) (h : Hp) (i : Int32), lkT tl pc = some (.aaload, n, nx, tg, x, wd, k, K) → sl[a]? = some (.inr (N, t + 3, b)) → t < 2 → vp_in i N → V nx lv (.ref (b + i.toNatClampNeg) :: st) h → V pc lv (.int i :: .ref a :: st) h) ∧
  (∀ (pc n nx tg x wd a N b : Nat) (k : Int32) (K : Int64) (lv : List (Option Value)) (st : List Value) (h : Hp) (i v : Int32), lkT tl pc = some (.iastore, n, nx, tg, x, wd, k, K) → sl[a]? = some (.inr (N, 0, b)) → vp_in i N → V nx lv st (upI h a i.toNatClampNeg v) → V pc lv (.int v :: .int i :: .ref a :: st) h) ∧
  (∀ (pc n nx tg x wd a N b : Nat) (k : Int32) (K : Int64) (lv : List (Option Value)) (st : List Value) (h : Hp) (i v : Int32), lkT tl pc = some (.bastore, n, nx, tg, x, wd, k, K) → sl[a]? = some (.inr (N, 2, b)) → vp_in i N → (v = 0 ∨ v = 1) → V nx lv st (upI h a i.toNatClampNeg v) → V pc lv (.int v :: .int i :: .ref a :: st) h) ∧
  (∀ (pc n nx tg x wd a N b : Nat) (k : Int32) (K : Int64) (lv : List (Option Value)) (st : List Value) (h : Hp) (i : Int32) (v : Int64), lkT tl pc = some (.lastore, n, nx, tg, x, wd, k, K) → sl[a]? = some (.inr (N, 1, b)) → vp_in i N → V nx lv st (upL h a i.toNatClampNeg v) → V pc lv (.long v :: .int i :: .ref a :: st) h) ∧
  (∀ (pc n nx tg x wd a N t b : Nat) (k : Int32) (K : Int64) (lv : List (Option Value)) (st : List Value) (h : Hp), lkT tl pc = some (.arraylength, n, nx, tg, x, wd, k, K) → sl[a]? = some (.inr (N, t, b)) → t < 5 → V nx lv (.int (nI N) :: st) h → V pc lv (.ref a :: st) h) ∧
  (∀ (pc n nx tg x wd : Nat) (k : Int32) (K : Int64) (lv : List (Option Value)) (st : List Value) (h : Hp) (a b : Int32), lkT tl pc = some (.idiv, n, nx, tg, x, wd, k, K) → ¬ b = 0 → V nx lv (.int (a / b) :: st) h → V pc lv (.int b :: .int a :: st) h) ∧
  (∀ (pc n nx tg x wd : Nat) (k : Int32) (K : Int64) (lv : List (Option Value)) (st : List Value) (h : Hp) (a b : Int32), lkT tl pc = some (.irem, n, nx, tg, x, wd, k, K) → ¬ b = 0 → V nx lv (.int (a - a / b * b) :: st) h → V pc lv (.int b :: .int a :: st) h) ∧
  (∀ (pc : Nat) (lv lv' : List (Option Value)) (st : List Value) (h : Hp), (∀ (i : Nat) (v : Value), lk lv' i = some v → lk lv i = some v) → V pc lv' st h → V pc lv st h)
section
variable {sl : List Sh} {tl : List (Nat × RowE)} {V : VT} {pc n nx tg x wd a N t b j ci f o : Nat} {k : Int32} {K : Int64} {lv lv' : List (Option Value)} {st st' : List Value} {h : Hp} {i v : Int32} {fs : List Nat}
theorem Gd.s (G : Gd sl tl V) {i : Instr} (h1 : lkT tl pc = some (i, n, nx, tg, x, wd, k, K)) (h2 : ps i x k K lv st = some (lv', st')) (h3 : V nx lv' st' h) : V pc lv st h := G.1 pc n nx tg x wd i k K lv lv' st st' h h1 h2 h3
theorem Gd.br (G : Gd sl tl V) {i : Instr} {P1 P2 : Prop} (h1 : lkT tl pc = some (i, n, nx, tg, x, wd, k, K)) (h2 : pb i st = some (st', P1, P2)) (h3 : P1 → V tg lv st' h) (h4 : P2 → V nx lv st' h) : V pc lv st h := G.2.1 pc n nx tg x wd i k K lv st st' P1 P2 h h1 h2 h3 h4
theorem Gd.go (G : Gd sl tl V) {o : Int} (h1 : lkT tl pc = some (.goto o, n, nx, tg, x, wd, k, K)) (h3 : V tg lv st h) : V pc lv st h := G.2.2.1 pc n nx tg x wd o k K lv st h h1 h3
theorem Gd.get (G : Gd sl tl V) (h1 : lkT tl pc = some (.getfield o, n, nx, j, ci, wd, k, K)) (h2 : sl[a]? = some (.inl (ci, fs))) (h3 : fs[j]? = some f) (h4 : V nx lv (gF h a j f :: st) h) : V pc lv (.ref a :: st) h := G.2.2.2.1 pc n nx j ci wd a f o k K fs lv st h h1 h2 h3 h4
theorem Gd.put (G : Gd sl tl V) (h1 : lkT tl pc = some (.putfield o, n, nx, j, ci, wd, 0, K)) (h2 : sl[a]? = some (.inl (ci, fs))) (h3 : fs[j]? = some 0) (h4 : V nx lv st (upI h a j v)) : V pc lv (.int v :: .ref a :: st) h := G.2.2.2.2.1 pc n nx j ci wd a o K fs lv st h v h1 h2 h3 h4
theorem Gd.putz (G : Gd sl tl V) (h1 : lkT tl pc = some (.putfield o, n, nx, j, ci, wd, 1, K)) (h2 : sl[a]? = some (.inl (ci, fs))) (h3 : fs[j]? = some 2) (hv : v = 0 ∨ v = 1) (h4 : V nx lv st (upI h a j v)) : V pc lv (.int v :: .ref a :: st) h := G.2.2.2.2.2.1 pc n nx j ci wd a o K fs lv st h v h1 h2 h3 hv h4
theorem Gd.iald (G : Gd sl tl V) (h1 : lkT tl pc = some (.iaload, n, nx, tg, x, wd, k, K)) (h2 : sl[a]? = some (.inr (N, 0, b))) (h3 : vp_in i N) (h4 : V nx lv (.int (h.1 a i.toNatClampNeg) :: st) h) : V pc lv (.int i :: .ref a :: st) h := G.2.2.2.2.2.2.1 pc n nx tg x wd a N b k K lv st h i h1 h2 h3 h4
theorem Gd.zald (G : Gd sl tl V) (h1 : lkT tl pc = some (.baload, n, nx, tg, x, wd, k, K)) (h2 : sl[a]? = some (.inr (N, 2, b))) (h3 : vp_in i N) (h4 : V nx lv (.int (h.1 a i.toNatClampNeg) :: st) h) : V pc lv (.int i :: .ref a :: st) h := G.2.2.2.2.2.2.2.1 pc n nx tg x wd a N b k K lv st h i h1 h2 h3 h4
theorem Gd.lald (G : Gd sl tl V) (h1 : lkT tl pc = some (.laload, n, nx, tg, x, wd, k, K)) (h2 : sl[a]? = some (.inr (N, 1, b))) (h3 : vp_in i N) (h4 : V nx lv (.long (h.2 a i.toNatClampNeg) :: st) h) : V pc lv (.int i :: .ref a :: st) h := G.2.2.2.2.2.2.2.2.1 pc n nx tg x wd a N b k K lv st h i h1 h2 h3 h4
theorem Gd.aald (G : Gd sl tl V) (h1 : lkT tl pc = some (.aaload, n, nx, tg, x, wd, k, K)) (h2 : sl[a]? = some (.inr (N, t + 3, b))) (ht : t < 2) (h3 : vp_in i N) (h4 : V nx lv (.ref (b + i.toNatClampNeg) :: st) h) : V pc lv (.int i :: .ref a :: st) h := G.2.2.2.2.2.2.2.2.2.1 pc n nx tg x wd a N t b k K lv st h i h1 h2 ht h3 h4
theorem Gd.iast (G : Gd sl tl V) (h1 : lkT tl pc = some (.iastore, n, nx, tg, x, wd, k, K)) (h2 : sl[a]? = some (.inr (N, 0, b))) (h3 : vp_in i N) (h4 : V nx lv st (upI h a i.toNatClampNeg v)) : V pc lv (.int v :: .int i :: .ref a :: st) h := G.2.2.2.2.2.2.2.2.2.2.1 pc n nx tg x wd a N b k K lv st h i v h1 h2 h3 h4
theorem Gd.zast (G : Gd sl tl V) (h1 : lkT tl pc = some (.bastore, n, nx, tg, x, wd, k, K)) (h2 : sl[a]? = some (.inr (N, 2, b))) (h3 : vp_in i N) (hv : v = 0 ∨ v = 1) (h4 : V nx lv st (upI h a i.toNatClampNeg v)) : V pc lv (.int v :: .int i :: .ref a :: st) h := G.2.2.2.2.2.2.2.2.2.2.2.1 pc n nx tg x wd a N b k K lv st h i v h1 h2 h3 hv h4
theorem Gd.last (G : Gd sl tl V) {v : Int64} (h1 : lkT tl pc = some (.lastore, n, nx, tg, x, wd, k, K)) (h2 : sl[a]? = some (.inr (N, 1, b))) (h3 : vp_in i N) (h4 : V nx lv st (upL h a i.toNatClampNeg v)) : V pc lv (.long v :: .int i :: .ref a :: st) h := G.2.2.2.2.2.2.2.2.2.2.2.2.1 pc n nx tg x wd a N b k K lv st h i v h1 h2 h3 h4
theorem Gd.alen (G : Gd sl tl V) (h1 : lkT tl pc = some (.arraylength, n, nx, tg, x, wd, k, K)) (h2 : sl[a]? = some (.inr (N, t, b))) (ht : t < 5) (h4 : V nx lv (.int (nI N) :: st) h) : V pc lv (.ref a :: st) h := G.2.2.2.2.2.2.2.2.2.2.2.2.2.1 pc n nx tg x wd a N t b k K lv st h h1 h2 ht h4
theorem Gd.idiv (G : Gd sl tl V) {p q : Int32} (h1 : lkT tl pc = some (.idiv, n, nx, tg, x, wd, k, K)) (h2 : ¬ q = 0) (h4 : V nx lv (.int (p / q) :: st) h) : V pc lv (.int q :: .int p :: st) h := G.2.2.2.2.2.2.2.2.2.2.2.2.2.2.1 pc n nx tg x wd k K lv st h p q h1 h2 h4
theorem Gd.irem (G : Gd sl tl V) {p q : Int32} (h1 : lkT tl pc = some (.irem, n, nx, tg, x, wd, k, K)) (h2 : ¬ q = 0) (h4 : V nx lv (.int (p - p / q * q) :: st) h) : V pc lv (.int q :: .int p :: st) h := G.2.2.2.2.2.2.2.2.2.2.2.2.2.2.2.1 pc n nx tg x wd k K lv st h p q h1 h2 h4
theorem Gd.less (G : Gd sl tl V) (h1 : ∀ (i : Nat) (v : Value), lk lv' i = some v → lk lv i = some v) (h4 : V pc lv' st h) : V pc lv st h := G.2.2.2.2.2.2.2.2.2.2.2.2.2.2.2.2 pc lv lv' st h h1 h4
end
section
variable {p : Program} {l : Launch} {e : Env} {R : Room} {s : State} {m : MethodId} {args : Array Value} {below : List Frame} {meth : Method} {c : Code} {cells slots : Nat} {Q : State → Prop} {cc : ByteArray} {own : String} {Ts : List Cond} {nL : Nat} {tl : List (Nat × RowE)} {D : va_G} {cl : List vw_C} {cA : Nat → ClassId} {ad : Nat → Nat} {A : Nat → Prop} {sl : List Sh}
/-- the machine comes to Q from this place, whatever heap bears it -/
def Vt (p : Program) (l : Launch) (e : Env) (R : Room) (s : State) (m : MethodId) (args : Array Value) (below : List Frame) (meth : Method) (c : Code) (nL : Nat) (ad : Nat → Nat) (D : va_G) (cl : List vw_C) (sl : List Sh) (cA : Nat → ClassId) (A : Nat → Prop) (cells slots : Nat) (Q : State → Prop) : VT := fun pc lv st h =>
  ∀ (ls : Array Slot) (H : Heap) (locs : List Loc), lh ls nL ad lv → va_P D cl (Wd sl cA ad h) H → va_D A (Wd sl cA ad h) → va_S A s.heap H locs → W p l e R s m args below meth c H locs cells slots Q (F0 m pc ls (st.map (cv ad)))
theorem rowOk_s {cc : ByteArray} {own : String} {Ts : List Cond} {nL : Nat} {cl : List vw_C} {tl : List (Nat × RowE)} (h : tl.all (rowOk cc own Ts nL cl) = true) {pc : Nat} {r : RowE} (h1 : lkT tl pc = some r) : decode cc pc = .ok (r.1, r.2.1) ∧ ckE own Ts nL pc r = true ∧ ckF cl own Ts r = true := by
  have h2 := List.all_eq_true.mp h _ (lkT_mem h1)
  simp only [rowOk, Bool.and_eq_true, decide_eq_true_eq] at h2
  exact ⟨h2.1.1, h2.1.2, h2.2⟩
theorem tys_0 (cA : Nat → ClassId) : (tysOf cA)[0]? = some (cA 0, .int) := rfl
theorem tys_1 (cA : Nat → ClassId) : (tysOf cA)[1]? = some (cA 1, .long) := rfl
theorem tys_2 (cA : Nat → ClassId) : (tysOf cA)[2]? = some (cA 2, .boolean) := rfl
theorem nar_b {v : Int32} (h : v = 0 ∨ v = 1) : narrow .boolean (.int v) = .int v ∧ fits .boolean (.int v) = true ∧ vp_nar .boolean v = v := by
  rcases h with rfl | rfl <;> exact ⟨by decide, by decide, by decide⟩
set_option maxHeartbeats 4000000 in
theorem Vt_Gd (C0 : Cx p s m args c cc own Ts nL tl D cl cA) : Gd sl tl (Vt p l e R s m args below meth c nL ad D cl sl cA A cells slots Q) := by
  obtain ⟨hx, hb, hown, hts, htl, hK, hcl⟩ := C0
  refine ⟨?_, ?_, ?_, ?_, ?_, ?_, ?_, ?_, ?_, ?_, ?_, ?_, ?_, ?_, ?_, ?_, ?_⟩
  · intro pc n nx tg x wd i k K lv lv' st st' h h1 h2 h3 ls H locs hl hP hD hS
    obtain ⟨hd, hc, -⟩ := rowOk_s htl h1
    exact ps_ok hx hb hown hts hd hc h2 hl (fun ls' hl' => h3 ls' H locs hl' hP hD hS)
  · intro pc n nx tg x wd i k K lv st st' P1 P2 h h1 h2 h3 h4 ls H locs hl hP hD hS
    obtain ⟨hd, hc, -⟩ := rowOk_s htl h1
    exact pb_ok hx hb hd hc h2 (fun q => h3 q ls H locs hl hP hD hS) (fun q => h4 q ls H locs hl hP hD hS)
  · intro pc n nx tg x wd o k K lv st h h1 h3 ls H locs hl hP hD hS
    obtain ⟨hd, hc, -⟩ := rowOk_s htl h1
    simp only [ckE, Bool.and_eq_true, beq_iff_eq, decide_eq_true_eq] at hc
    obtain ⟨-, rfl, ho⟩ := hc
    exact lv_goto hx hb hd ho (h3 ls H locs hl hP hD hS)
  · intro pc n nx j ci wd a f o k K fs lv st h h1 h2 h3 h4 ls H locs hl hP hD hS
    obtain ⟨hd, hc, hf⟩ := rowOk_s htl h1
    simp only [ckE, Bool.and_eq_true, beq_iff_eq] at hc
    obtain ⟨rfl, rfl⟩ := hc
    simp only [ckF] at hf
    split at hf
    · rename_i C T N hC
      simp only [Bool.and_eq_true, decide_eq_true_eq] at hf
      obtain ⟨⟨hj, hd1⟩, hw⟩ := hf
      have hat := Wd_at (cA := cA) (ad := ad) (h := h) h2
      have hv := fsV_get ad h a fs 0 j f h3
      rw [Nat.zero_add] at hv
      refine va_get (ci := ci) (C := C) (T := T) (N := N) hx hb hts (hcl ci C T N hC).1 hown hK hP a hat hC j hj (hts _ (List.mem_of_getElem? hw)) (fun y hy => by rw [hd1] at hy; exact hy) hv hd ?_
      have h5 := h4 ls H locs hl hP hD hS
      rw [List.map_cons, gF_cv] at h5
      exact h5
    · cases hf
  · intro pc n nx j ci wd a o K fs lv st h v h1 h2 h3 h4 ls H locs hl hP hD hS
    obtain ⟨hd, hc, hf⟩ := rowOk_s htl h1
    simp only [ckE, Bool.and_eq_true, beq_iff_eq] at hc
    obtain ⟨rfl, rfl⟩ := hc
    simp only [ckF] at hf
    split at hf
    · rename_i C T N hC
      simp only [Bool.and_eq_true, decide_eq_true_eq] at hf
      obtain ⟨⟨⟨⟨⟨hj, hd1⟩, hw⟩, hfin⟩, hti⟩, -⟩ := hf
      have hfin : (T j).2.2.2 = false := by simpa using hfin
      have hti : parseFieldDescriptor (T j).2.2.1 = some .int := by simpa using hti
      obtain ⟨hin, ⟨ty0, hty⟩, hnm⟩ := hcl ci C T N hC
      have hat := Wd_at (cA := cA) (ad := ad) (h := h) h2
      have hlen : j < (fsV ad h a fs 0).length := by
        rw [fsV_len]
        exact (List.getElem?_eq_some_iff.mp h3).1
      refine va_put (v := .int v) (ci := ci) (C := C) (T := T) (N := N) hx hb hts hin ty0 hty hnm hown hK hP hD hS a hat hC j hj (hts _ (List.mem_of_getElem? hw)) (fun y hy => by rw [hd1] at hy; exact hy) hfin hti rfl rfl hlen hd (fun H1 locs1 hP1 hD1 hS1 => ?_)
      have e1 := fsV_setI ad h a v fs 0 j 0 h3 (Or.inl rfl)
      rw [Nat.zero_add] at e1
      have e2 : (Wd sl cA ad h).set a (ad a, .inr (ci, (fsV ad h a fs 0).set j (.int v))) = Wd sl cA ad (upI h a j v) := by
        rw [e1]
        exact Wd_set (s := .inl (ci, fs)) h2 upI_off
      rw [e2] at hP1 hD1
      exact h4 ls H1 locs1 hl hP1 hD1 hS1
    · cases hf
  · intro pc n nx j ci wd a o K fs lv st h v h1 h2 h3 hv h4 ls H locs hl hP hD hS
    obtain ⟨hd, hc, hf⟩ := rowOk_s htl h1
    simp only [ckE, Bool.and_eq_true, beq_iff_eq] at hc
    obtain ⟨rfl, rfl⟩ := hc
    simp only [ckF] at hf
    split at hf
    · rename_i C T N hC
      simp only [Bool.and_eq_true, decide_eq_true_eq] at hf
      obtain ⟨⟨⟨⟨⟨hj, hd1⟩, hw⟩, hfin⟩, -⟩, hti⟩ := hf
      have hfin : (T j).2.2.2 = false := by simpa using hfin
      have hti : parseFieldDescriptor (T j).2.2.1 = some .boolean := by simpa using hti
      obtain ⟨hin, ⟨ty0, hty⟩, hnm⟩ := hcl ci C T N hC
      have hat := Wd_at (cA := cA) (ad := ad) (h := h) h2
      have hlen : j < (fsV ad h a fs 0).length := by
        rw [fsV_len]
        exact (List.getElem?_eq_some_iff.mp h3).1
      refine va_put (v := .int v) (ci := ci) (C := C) (T := T) (N := N) hx hb hts hin ty0 hty hnm hown hK hP hD hS a hat hC j hj (hts _ (List.mem_of_getElem? hw)) (fun y hy => by rw [hd1] at hy; exact hy) hfin hti (nar_b hv).1 (nar_b hv).2.1 hlen hd (fun H1 locs1 hP1 hD1 hS1 => ?_)
      have e1 := fsV_setI ad h a v fs 0 j 2 h3 (Or.inr rfl)
      rw [Nat.zero_add] at e1
      have e2 : (Wd sl cA ad h).set a (ad a, .inr (ci, (fsV ad h a fs 0).set j (.int v))) = Wd sl cA ad (upI h a j v) := by
        rw [e1]
        exact Wd_set (s := .inl (ci, fs)) h2 upI_off
      rw [e2] at hP1 hD1
      exact h4 ls H1 locs1 hl hP1 hD1 hS1
    · cases hf
  · intro pc n nx tg x wd a N b k K lv st h i h1 h2 h3 h4 ls H locs hl hP hD hS
    obtain ⟨hd, hc, -⟩ := rowOk_s htl h1
    simp only [ckE, Bool.and_eq_true, beq_iff_eq] at hc
    obtain ⟨rfl, rfl⟩ := hc
    exact va_iald hx hb hK hP a 0 (Wd_at h2) (tys_0 cA) h3 hd (h4 ls H locs hl hP hD hS)
  · intro pc n nx tg x wd a N b k K lv st h i h1 h2 h3 h4 ls H locs hl hP hD hS
    obtain ⟨hd, hc, -⟩ := rowOk_s htl h1
    simp only [ckE, Bool.and_eq_true, beq_iff_eq] at hc
    obtain ⟨rfl, rfl⟩ := hc
    exact va_zald hx hb hK hP a 2 (Wd_at h2) (tys_2 cA) h3 hd (h4 ls H locs hl hP hD hS)
  · intro pc n nx tg x wd a N b k K lv st h i h1 h2 h3 h4 ls H locs hl hP hD hS
    obtain ⟨hd, hc, -⟩ := rowOk_s htl h1
    simp only [ckE, Bool.and_eq_true, beq_iff_eq] at hc
    obtain ⟨rfl, rfl⟩ := hc
    exact va_lald hx hb hK hP a 1 (Wd_at h2) (tys_1 cA) h3 hd (h4 ls H locs hl hP hD hS)
  · intro pc n nx tg x wd a N t b k K lv st h i h1 h2 ht h3 h4 ls H locs hl hP hD hS
    obtain ⟨hd, hc, -⟩ := rowOk_s htl h1
    simp only [ckE, Bool.and_eq_true, beq_iff_eq] at hc
    obtain ⟨rfl, rfl⟩ := hc
    have hlt : i.toNatClampNeg < N := Nat.not_le.mp fun q => h3 (Or.inr q)
    have hat := hP a _ (Wd_at (cA := cA) (ad := ad) (h := h) h2)
    obtain ⟨ty, hty, hr⟩ : ∃ ty : FieldType, (tysOf cA)[t + 3]? = some (cA (t + 3), ty) ∧ ty.isReference = true := by
      rcases (show t = 0 ∨ t = 1 by omega) with rfl | rfl
      · exact ⟨_, rfl, rfl⟩
      · exact ⟨_, rfl, rfl⟩
    exact W.aald (v := va_rf (some (ad (b + i.toNatClampNeg)))) (ty := ty) hx hb hat ((hK.2 (t + 3) _ hty).1 N (fun j => va_rf (some (ad (b + j))))) hr (fun q => by cases q) (by show ¬ (i < 0 ∨ (arrV _ _ _).slots.size ≤ _); rw [arrV_size]; exact h3) (by show (arrV _ _ _).slots[_]? = _; rw [arrV_read _ _ hlt]) rfl rfl hd (h4 ls H locs hl hP hD hS)
  · intro pc n nx tg x wd a N b k K lv st h i v h1 h2 h3 h4 ls H locs hl hP hD hS
    obtain ⟨hd, hc, -⟩ := rowOk_s htl h1
    simp only [ckE, Bool.and_eq_true, beq_iff_eq] at hc
    obtain ⟨rfl, rfl⟩ := hc
    refine va_iast hx hb hK hP hD hS a 0 (Wd_at h2) (tys_0 cA) h3 hd (fun H1 locs1 hP1 hD1 hS1 => ?_)
    have e2 : (Wd sl cA ad h).set a (ad a, .inl (cA 0, N, .inl (upd (h.1 a) i.toNatClampNeg v))) = Wd sl cA ad (upI h a i.toNatClampNeg v) := by
      have e3 := Wd_set (cA := cA) (ad := ad) (h := h) (h' := upI h a i.toNatClampNeg v) h2 upI_off
      rw [← e3]
      simp [cellE, upI, va_up_self]
    rw [e2] at hP1 hD1
    exact h4 ls H1 locs1 hl hP1 hD1 hS1
  · intro pc n nx tg x wd a N b k K lv st h i v h1 h2 h3 hv h4 ls H locs hl hP hD hS
    obtain ⟨hd, hc, -⟩ := rowOk_s htl h1
    simp only [ckE, Bool.and_eq_true, beq_iff_eq] at hc
    obtain ⟨rfl, rfl⟩ := hc
    refine va_zast hx hb hK hP hD hS a 2 (Wd_at h2) (tys_2 cA) h3 hd (fun H1 locs1 hP1 hD1 hS1 => ?_)
    rw [(nar_b hv).2.2] at hP1 hD1
    have e2 : (Wd sl cA ad h).set a (ad a, .inl (cA 2, N, .inl (upd (h.1 a) i.toNatClampNeg v))) = Wd sl cA ad (upI h a i.toNatClampNeg v) := by
      have e3 := Wd_set (cA := cA) (ad := ad) (h := h) (h' := upI h a i.toNatClampNeg v) h2 upI_off
      rw [← e3]
      simp [cellE, upI, va_up_self]
    rw [e2] at hP1 hD1
    exact h4 ls H1 locs1 hl hP1 hD1 hS1
  · intro pc n nx tg x wd a N b k K lv st h i v h1 h2 h3 h4 ls H locs hl hP hD hS
    obtain ⟨hd, hc, -⟩ := rowOk_s htl h1
    simp only [ckE, Bool.and_eq_true, beq_iff_eq] at hc
    obtain ⟨rfl, rfl⟩ := hc
    refine va_last hx hb hK hP hD hS a 1 (Wd_at h2) (tys_1 cA) h3 hd (fun H1 locs1 hP1 hD1 hS1 => ?_)
    have e2 : (Wd sl cA ad h).set a (ad a, .inl (cA 1, N, .inr (.inl (vp_updL (h.2 a) i.toNatClampNeg v)))) = Wd sl cA ad (upL h a i.toNatClampNeg v) := by
      have e3 := Wd_set (cA := cA) (ad := ad) (h := h) (h' := upL h a i.toNatClampNeg v) h2 upL_off
      rw [← e3]
      simp [cellE, upL, va_up_self]
    rw [e2] at hP1 hD1
    exact h4 ls H1 locs1 hl hP1 hD1 hS1
  · intro pc n nx tg x wd a N t b k K lv st h h1 h2 ht h4 ls H locs hl hP hD hS
    obtain ⟨hd, hc, -⟩ := rowOk_s htl h1
    simp only [ckE, Bool.and_eq_true, beq_iff_eq] at hc
    obtain ⟨rfl, rfl⟩ := hc
    have hat := Wd_at (cA := cA) (ad := ad) (h := h) h2
    rcases (show t = 0 ∨ t = 1 ∨ t = 2 ∨ t = 3 ∨ t = 4 by omega) with rfl | rfl | rfl | rfl | rfl
    · exact va_alen hx hb hK hP a 0 hat (tys_0 cA) rfl hd (h4 ls H locs hl hP hD hS)
    · exact va_alen hx hb hK hP a 1 hat (tys_1 cA) rfl hd (h4 ls H locs hl hP hD hS)
    · exact va_alen hx hb hK hP a 2 hat (tys_2 cA) rfl hd (h4 ls H locs hl hP hD hS)
    · exact va_alen (ty := .array .long) hx hb hK hP a 3 hat rfl rfl hd (h4 ls H locs hl hP hD hS)
    · exact va_alen (ty := .array .int) hx hb hK hP a 4 hat rfl rfl hd (h4 ls H locs hl hP hD hS)
  · intro pc n nx tg x wd k K lv st h a b h1 h2 h4 ls H locs hl hP hD hS
    obtain ⟨hd, hc, -⟩ := rowOk_s htl h1
    simp only [ckE, Bool.and_eq_true, beq_iff_eq] at hc
    obtain ⟨rfl, rfl⟩ := hc
    exact lv_idiv hx hb hd h2 (h4 ls H locs hl hP hD hS)
  · intro pc n nx tg x wd k K lv st h a b h1 h2 h4 ls H locs hl hP hD hS
    obtain ⟨hd, hc, -⟩ := rowOk_s htl h1
    simp only [ckE, Bool.and_eq_true, beq_iff_eq] at hc
    obtain ⟨rfl, rfl⟩ := hc
    exact lv_irem hx hb hd h2 (h4 ls H locs hl hP hD hS)
  · intro pc lv lv' st h h1 h4 ls H locs hl hP hD hS
    exact h4 ls H locs (hl.less h1) hP hD hS
end
end RU
