/-! THE WALK'S HEAP: what the ints and the longs of a fixed set of cells are; the cells' shapes are a list. -/
section HP
/-- the ints of each cell, the longs of each cell -/
abbrev Hp : Type := (Nat → Nat → Int32) × (Nat → Nat → Int64)
/-- a cell's shape: an object (its class's number, its fields: 0 an int, 1 a long, 2 a boolean, r + 3 the cell r), or an array (its length, its kind: 0 ints, 1 longs, 2 booleans, 3 and on references, and the cell of its first row) -/
abbrev Sh : Type := (Nat × List Nat) ⊕ (Nat × Nat × Nat)
def fV (ad : Nat → Nat) (h : Hp) (k j f : Nat) : Value := match f with
  | 0 => .int (h.1 k j)
  | 1 => .long (h.2 k j)
  | 2 => .int (h.1 k j)
  | r + 3 => .ref (ad r)
def fsV (ad : Nat → Nat) (h : Hp) (k : Nat) : List Nat → Nat → List Value
  | [], _ => []
  | f :: r, j => fV ad h k j f :: fsV ad h k r (j + 1)
def cellE (cA : Nat → ClassId) (ad : Nat → Nat) (h : Hp) (k : Nat) (s : Sh) : va_E := match s with
  | .inl (ci, fs) => .inr (ci, fsV ad h k fs 0)
  | .inr (n, 0, _) => .inl (cA 0, n, .inl (h.1 k))
  | .inr (n, 1, _) => .inl (cA 1, n, .inr (.inl (h.2 k)))
  | .inr (n, 2, _) => .inl (cA 2, n, .inl (h.1 k))
  | .inr (n, t + 3, b) => .inl (cA (t + 3), n, .inr (.inr (.inr (.inr (fun j => some (ad (b + j)))))))
def wdl (cA : Nat → ClassId) (ad : Nat → Nat) (h : Hp) : List Sh → Nat → va_W
  | [], _ => []
  | s :: r, k => (ad k, cellE cA ad h k s) :: wdl cA ad h r (k + 1)
abbrev Wd (sl : List Sh) (cA : Nat → ClassId) (ad : Nat → Nat) (h : Hp) : va_W := wdl cA ad h sl 0
theorem wdl_at (cA : Nat → ClassId) (ad : Nat → Nat) (h : Hp) : ∀ (sl : List Sh) (b k : Nat) (s : Sh), sl[k]? = some s → (wdl cA ad h sl b)[k]? = some (ad (b + k), cellE cA ad h (b + k) s)
  | [], b, k, s, e => by simp at e
  | x :: r, b, 0, s, e => by
    have e1 : x = s := by simpa using e
    rw [e1]
    rfl
  | x :: r, b, k + 1, s, e => by
    have e1 := wdl_at cA ad h r (b + 1) k s (by simpa using e)
    rw [show b + (k + 1) = b + 1 + k by omega]
    simpa [wdl] using e1
theorem Wd_at {sl : List Sh} {cA : Nat → ClassId} {ad : Nat → Nat} {h : Hp} {k : Nat} {s : Sh} (e : sl[k]? = some s) : (Wd sl cA ad h)[k]? = some (ad k, cellE cA ad h k s) := by
  have e1 := wdl_at cA ad h sl 0 k s e
  rwa [Nat.zero_add] at e1
theorem fsV_same (ad : Nat → Nat) {h h' : Hp} {k : Nat} (h1 : h'.1 k = h.1 k) (h2 : h'.2 k = h.2 k) : ∀ (fs : List Nat) (j : Nat), fsV ad h' k fs j = fsV ad h k fs j
  | [], _ => rfl
  | f :: r, j => by
    have e : fV ad h' k j f = fV ad h k j f := by
      unfold fV
      split <;> simp [h1, h2]
    simp only [fsV, e, fsV_same ad h1 h2 r (j + 1)]
theorem cellE_same (cA : Nat → ClassId) (ad : Nat → Nat) {h h' : Hp} {k : Nat} (h1 : h'.1 k = h.1 k) (h2 : h'.2 k = h.2 k) (s : Sh) : cellE cA ad h' k s = cellE cA ad h k s := by
  unfold cellE
  split <;> simp [h1, h2, fsV_same ad h1 h2]
theorem wdl_set (cA : Nat → ClassId) (ad : Nat → Nat) {h h' : Hp} : ∀ (sl : List Sh) (b k : Nat) (s : Sh), sl[k]? = some s → (∀ j, j ≠ b + k → h'.1 j = h.1 j ∧ h'.2 j = h.2 j) → (wdl cA ad h sl b).set k (ad (b + k), cellE cA ad h' (b + k) s) = wdl cA ad h' sl b
  | [], b, k, s, e, _ => by simp at e
  | x :: r, b, 0, s, e, hj => by
    have e1 : x = s := by simpa using e
    have e2 : ∀ (q : List Sh) (d : Nat), b < d → wdl cA ad h q d = wdl cA ad h' q d := by
      intro q
      induction q with
      | nil => intro d _; rfl
      | cons y q ih =>
        intro d hd
        simp only [wdl]
        rw [ih (d + 1) (by omega), cellE_same cA ad (hj d (by omega)).1 (hj d (by omega)).2]
    rw [e1]
    simp only [wdl, List.set_cons_zero, Nat.add_zero]
    rw [e2 r (b + 1) (by omega)]
  | x :: r, b, k + 1, s, e, hj => by
    have e1 := wdl_set cA ad r (b + 1) k s (by simpa using e) (fun j q => hj j (by omega))
    simp only [wdl, List.set_cons_succ]
    rw [show b + (k + 1) = b + 1 + k by omega, e1, cellE_same cA ad (hj b (by omega)).1 (hj b (by omega)).2]
theorem Wd_set {sl : List Sh} {cA : Nat → ClassId} {ad : Nat → Nat} {h h' : Hp} {k : Nat} {s : Sh} (e : sl[k]? = some s) (hj : ∀ j, j ≠ k → h'.1 j = h.1 j ∧ h'.2 j = h.2 j) : (Wd sl cA ad h).set k (ad k, cellE cA ad h' k s) = Wd sl cA ad h' := by
  have e1 := wdl_set cA ad (h := h) (h' := h') sl 0 k s e (by rw [Nat.zero_add]; exact hj)
  rwa [Nat.zero_add] at e1
/-- an int of a cell is written -/
def upI (h : Hp) (k j : Nat) (v : Int32) : Hp := (va_up h.1 k (upd (h.1 k) j v), h.2)
def upL (h : Hp) (k j : Nat) (v : Int64) : Hp := (h.1, va_up h.2 k (vp_updL (h.2 k) j v))
theorem upI_off {h : Hp} {k j : Nat} {v : Int32} : ∀ q, q ≠ k → (upI h k j v).1 q = h.1 q ∧ (upI h k j v).2 q = h.2 q := fun q hq => ⟨va_up_ne h.1 _ hq, rfl⟩
theorem upL_off {h : Hp} {k j : Nat} {v : Int64} : ∀ q, q ≠ k → (upL h k j v).1 q = h.1 q ∧ (upL h k j v).2 q = h.2 q := fun q hq => ⟨rfl, va_up_ne h.2 _ hq⟩
theorem fsV_get (ad : Nat → Nat) (h : Hp) (k : Nat) : ∀ (fs : List Nat) (b j f : Nat), fs[j]? = some f → (fsV ad h k fs b)[j]? = some (fV ad h k (b + j) f)
  | [], b, j, f, e => by simp at e
  | x :: r, b, 0, f, e => by
    have e1 : x = f := by simpa using e
    rw [e1]
    rfl
  | x :: r, b, j + 1, f, e => by
    have e1 := fsV_get ad h k r (b + 1) j f (by simpa using e)
    rw [show b + (j + 1) = b + 1 + j by omega]
    simpa [fsV] using e1
/-- what a field holds, in the walk's words -/
def gF (h : Hp) (k j f : Nat) : Value := match f with
  | 0 => .int (h.1 k j)
  | 1 => .long (h.2 k j)
  | 2 => .int (h.1 k j)
  | r + 3 => .ref r
theorem gF_cv (ad : Nat → Nat) (h : Hp) (k j f : Nat) : cv ad (gF h k j f) = fV ad h k j f := by
  unfold gF fV
  split <;> rfl
theorem fsV_len (ad : Nat → Nat) (h : Hp) (k : Nat) : ∀ (fs : List Nat) (b : Nat), (fsV ad h k fs b).length = fs.length
  | [], _ => rfl
  | f :: r, b => by simp [fsV, fsV_len ad h k r (b + 1)]
/-- writing an int field -/
theorem fsV_setI (ad : Nat → Nat) (h : Hp) (k : Nat) (v : Int32) : ∀ (fs : List Nat) (b j f : Nat), fs[j]? = some f → (f = 0 ∨ f = 2) → (fsV ad h k fs b).set j (.int v) = fsV ad (upI h k (b + j) v) k fs b
  | [], b, j, f, e, _ => by simp at e
  | x :: r, b, 0, f, e, hf => by
    have e1 : x = f := by simpa using e
    have e2 : ∀ (q : List Nat) (d : Nat), b < d → fsV ad h k q d = fsV ad (upI h k (b + 0) v) k q d := by
      intro q
      induction q with
      | nil => intro d _; rfl
      | cons y q ih =>
        intro d hd
        have e3 : fV ad (upI h k (b + 0) v) k d y = fV ad h k d y := by
          unfold fV
          split
          · simp [upI, va_up_self, upd, show d ≠ b by omega]
          · rfl
          · simp [upI, va_up_self, upd, show d ≠ b by omega]
          · rfl
        simp only [fsV]
        rw [ih (d + 1) (by omega), e3]
    have e4 : fV ad (upI h k (b + 0) v) k b x = .int v := by
      rw [e1]
      rcases hf with rfl | rfl <;> simp [fV, upI, va_up_self, upd]
    simp only [fsV, List.set_cons_zero]
    rw [e4, ← e2 r (b + 1) (by omega)]
  | x :: r, b, j + 1, f, e, hf => by
    have e1 := fsV_setI ad h k v r (b + 1) j f (by simpa using e) hf
    have e3 : fV ad (upI h k (b + (j + 1)) v) k b x = fV ad h k b x := by
      unfold fV
      split
      · simp [upI, va_up_self, upd, show b ≠ b + (j + 1) by omega]
      · rfl
      · simp [upI, va_up_self, upd, show b ≠ b + (j + 1) by omega]
      · rfl
    simp only [fsV, List.set_cons_succ]
    rw [e1, e3, show b + (j + 1) = b + 1 + j by omega]
end HP
