/-! THE WALK'S OWN MACHINE: values whose references are numbers of cells, locals as a list, one step of each plain instruction as a function, proved once against the kit's rows. -/
section ST
/-- a value of the walk: as the machine's, but a reference is the number of a cell -/
def cv (ad : Nat → Nat) (v : Value) : Value := match v with
  | .ref k => .ref (ad k)
  | .int x => .int x
  | .long x => .long x
  | .float x => .float x
  | .double x => .double x
  | .null => .null
  | .retAddr q => .retAddr q
theorem cv_cat (ad : Nat → Nat) (v : Value) : (cv ad v).category = v.category := by cases v <;> rfl
/-- a local variable, if its value is known -/
def lk : List (Option Value) → Nat → Option Value
  | [], _ => none
  | a :: _, 0 => a
  | _ :: r, n + 1 => lk r n
/-- a long below a slot that is written is lost -/
def kl2 (a : Option Value) : Option Value := match a with
  | some (.long _) => none
  | some (.double _) => none
  | x => x
def kil : List (Option Value) → List (Option Value)
  | [] => []
  | _ :: r => none :: r
/-- store a value of one slot -/
def sto1 : List (Option Value) → Nat → Value → List (Option Value)
  | [], _, _ => []
  | _ :: r, 0, v => some v :: r
  | a :: r, 1, v => kl2 a :: sto1 r 0 v
  | a :: r, n + 2, v => a :: sto1 r (n + 1) v
/-- store a long -/
def sto2 : List (Option Value) → Nat → Value → List (Option Value)
  | [], _, _ => []
  | _ :: r, 0, v => some v :: kil r
  | a :: r, 1, v => kl2 a :: sto2 r 0 v
  | a :: r, n + 2, v => a :: sto2 r (n + 1) v
theorem kl2_s {a : Option Value} {w : Value} (h : kl2 a = some w) : a = some w ∧ ¬ w.category = 2 := by
  unfold kl2 at h
  split at h
  · cases h
  · cases h
  · rename_i hl hd
    refine ⟨h, ?_⟩
    subst h
    cases w with
    | long x => exact absurd rfl (hl x)
    | double x => exact absurd rfl (hd x)
    | _ => simp [Value.category]
theorem lk_kil : ∀ (r : List (Option Value)) (j : Nat) (w : Value), lk (kil r) j = some w → j ≠ 0 ∧ lk r j = some w
  | [], _, _, h => by simp [kil, lk] at h
  | a :: r, 0, w, h => by simp [kil, lk] at h
  | a :: r, j + 1, w, h => ⟨Nat.succ_ne_zero j, h⟩
theorem lk_sto1 : ∀ (lv : List (Option Value)) (i : Nat) (v : Value) (j : Nat) (w : Value), lk (sto1 lv i v) j = some w → (j = i ∧ w = v) ∨ (j ≠ i ∧ lk lv j = some w ∧ ¬ (j + 1 = i ∧ w.category = 2))
  | [], i, v, j, w, h => by simp [sto1, lk] at h
  | a :: r, 0, v, 0, w, h => Or.inl ⟨rfl, (Option.some.inj h).symm⟩
  | a :: r, 0, v, j + 1, w, h => Or.inr ⟨Nat.succ_ne_zero j, h, fun q => by omega⟩
  | a :: r, 1, v, 0, w, h => by
    obtain ⟨h1, h2⟩ := kl2_s (a := a) h
    exact Or.inr ⟨by omega, h1, fun q => h2 q.2⟩
  | a :: r, 1, v, j + 1, w, h => by
    rcases lk_sto1 r 0 v j w h with ⟨h1, h2⟩ | ⟨h1, h2, h3⟩
    · exact Or.inl ⟨by omega, h2⟩
    · exact Or.inr ⟨by omega, h2, fun q => by omega⟩
  | a :: r, n + 2, v, 0, w, h => Or.inr ⟨by omega, h, fun q => by omega⟩
  | a :: r, n + 2, v, j + 1, w, h => by
    rcases lk_sto1 r (n + 1) v j w h with ⟨h1, h2⟩ | ⟨h1, h2, h3⟩
    · exact Or.inl ⟨by omega, h2⟩
    · exact Or.inr ⟨by omega, h2, fun q => h3 ⟨by omega, q.2⟩⟩
theorem lk_sto2 : ∀ (lv : List (Option Value)) (i : Nat) (v : Value) (j : Nat) (w : Value), lk (sto2 lv i v) j = some w → (j = i ∧ w = v) ∨ (j ≠ i ∧ j ≠ i + 1 ∧ lk lv j = some w ∧ ¬ (j + 1 = i ∧ w.category = 2))
  | [], i, v, j, w, h => by simp [sto2, lk] at h
  | a :: r, 0, v, 0, w, h => Or.inl ⟨rfl, (Option.some.inj h).symm⟩
  | a :: r, 0, v, j + 1, w, h => by
    obtain ⟨h1, h2⟩ := lk_kil r j w h
    exact Or.inr ⟨Nat.succ_ne_zero j, by omega, h2, fun q => by omega⟩
  | a :: r, 1, v, 0, w, h => by
    obtain ⟨h1, h2⟩ := kl2_s (a := a) h
    exact Or.inr ⟨by omega, by omega, h1, fun q => h2 q.2⟩
  | a :: r, 1, v, j + 1, w, h => by
    rcases lk_sto2 r 0 v j w h with ⟨h1, h2⟩ | ⟨h1, h2, h3, h4⟩
    · exact Or.inl ⟨by omega, h2⟩
    · exact Or.inr ⟨by omega, by omega, h3, fun q => by omega⟩
  | a :: r, n + 2, v, 0, w, h => Or.inr ⟨by omega, by omega, h, fun q => by omega⟩
  | a :: r, n + 2, v, j + 1, w, h => by
    rcases lk_sto2 r (n + 1) v j w h with ⟨h1, h2⟩ | ⟨h1, h2, h3, h4⟩
    · exact Or.inl ⟨by omega, h2⟩
    · exact Or.inr ⟨by omega, by omega, h3, fun q => h4 ⟨by omega, q.2⟩⟩
/-- the machine's locals bear the walk's -/
def lh (ls : Array Slot) (nL : Nat) (ad : Nat → Nat) (lv : List (Option Value)) : Prop := lv_has ls nL [] ∧ ∀ (i : Nat) (v : Value), lk lv i = some v → ls[i]? = some (.val (cv ad v))
/-- the known locals as the kit lists them -/
def prs (ad : Nat → Nat) : List (Option Value) → Nat → List (Nat × Value)
  | [], _ => []
  | none :: r, b => prs ad r (b + 1)
  | some v :: r, b => (b, cv ad v) :: prs ad r (b + 1)
theorem prs_in (ad : Nat → Nat) : ∀ (lv : List (Option Value)) (b j : Nat) (w : Value), lk lv j = some w → (b + j, cv ad w) ∈ prs ad lv b
  | [], b, j, w, h => by simp [lk] at h
  | none :: r, b, 0, w, h => by simp [lk] at h
  | some v :: r, b, 0, w, h => by
    have h1 : v = w := Option.some.inj h
    rw [h1]
    exact List.mem_cons_self
  | none :: r, b, j + 1, w, h => by
    have h1 := prs_in ad r (b + 1) j w h
    rw [show b + (j + 1) = b + 1 + j by omega]
    exact h1
  | some v :: r, b, j + 1, w, h => by
    have h1 := prs_in ad r (b + 1) j w h
    rw [show b + (j + 1) = b + 1 + j by omega]
    exact List.mem_cons_of_mem _ h1
theorem prs_of (ad : Nat → Nat) : ∀ (lv : List (Option Value)) (b : Nat) (q : Nat × Value), q ∈ prs ad lv b → ∃ (j : Nat) (w : Value), q = (b + j, cv ad w) ∧ lk lv j = some w
  | [], b, q, h => by simp [prs] at h
  | none :: r, b, q, h => by
    obtain ⟨j, w, h1, h2⟩ := prs_of ad r (b + 1) q h
    exact ⟨j + 1, w, by rw [h1, show b + 1 + j = b + (j + 1) by omega], h2⟩
  | some v :: r, b, q, h => by
    rcases List.mem_cons.mp h with h | h
    · exact ⟨0, v, h, rfl⟩
    · obtain ⟨j, w, h1, h2⟩ := prs_of ad r (b + 1) q h
      exact ⟨j + 1, w, by rw [h1, show b + 1 + j = b + (j + 1) by omega], h2⟩
theorem lh.has {ls : Array Slot} {nL : Nat} {ad : Nat → Nat} {lv : List (Option Value)} (h : lh ls nL ad lv) : lv_has ls nL (prs ad lv 0) := by
  refine ⟨h.1.1, h.1.2.1, fun q hq => ?_⟩
  obtain ⟨j, w, h1, h2⟩ := prs_of ad lv 0 q hq
  rw [h1, Nat.zero_add]
  exact h.2 j w h2
theorem lh.put1 {ls' : Array Slot} {nL : Nat} {ad : Nat → Nat} {lv : List (Option Value)} {i : Nat} {v : Value} (h : lv_has ls' nL ((i, cv ad v) :: (prs ad lv 0).filter (fun q => !(q.1 == i) && !(q.1 + 1 == i && q.2.category == 2)))) : lh ls' nL ad (sto1 lv i v) := by
  refine ⟨⟨h.1, h.2.1, fun q hq => by cases hq⟩, fun j w hj => ?_⟩
  rcases lk_sto1 lv i v j w hj with ⟨rfl, rfl⟩ | ⟨a, b, d⟩
  · exact h.2.2 (j, cv ad w) List.mem_cons_self
  · refine h.2.2 (j, cv ad w) (List.mem_cons_of_mem _ (List.mem_filter.mpr ⟨?_, ?_⟩))
    · have h1 := prs_in ad lv 0 j w b
      rw [Nat.zero_add] at h1
      exact h1
    · by_cases z : j + 1 = i
      · have z2 : ¬ w.category = 2 := fun q => d ⟨z, q⟩
        simp [a, z2, cv_cat]
      · simp [a, z]
theorem lh.put2 {ls' : Array Slot} {nL : Nat} {ad : Nat → Nat} {lv : List (Option Value)} {i : Nat} {v : Value} (h : lv_has ls' nL ((i, cv ad v) :: (prs ad lv 0).filter (fun q => !(q.1 == i) && (!(q.1 == i + 1) && !(q.1 + 1 == i && q.2.category == 2))))) : lh ls' nL ad (sto2 lv i v) := by
  refine ⟨⟨h.1, h.2.1, fun q hq => by cases hq⟩, fun j w hj => ?_⟩
  rcases lk_sto2 lv i v j w hj with ⟨rfl, rfl⟩ | ⟨a, a2, b, d⟩
  · exact h.2.2 (j, cv ad w) List.mem_cons_self
  · refine h.2.2 (j, cv ad w) (List.mem_cons_of_mem _ (List.mem_filter.mpr ⟨?_, ?_⟩))
    · have h1 := prs_in ad lv 0 j w b
      rw [Nat.zero_add] at h1
      exact h1
    · by_cases z : j + 1 = i
      · have z2 : ¬ w.category = 2 := fun q => d ⟨z, q⟩
        simp [a, a2, z2, cv_cat]
      · simp [a, a2, z]
/-- fewer known locals -/
theorem lh.less {ls : Array Slot} {nL : Nat} {ad : Nat → Nat} {lv lv' : List (Option Value)} (h : lh ls nL ad lv) (hs : ∀ (i : Nat) (v : Value), lk lv' i = some v → lk lv i = some v) : lh ls nL ad lv' := ⟨h.1, fun i v hi => h.2 i v (hs i v hi)⟩
/-- a row of a method's table: instruction, length, next place, where it jumps to or which field, local or class, a word's place, its constants -/
abbrev RowE : Type := Instr × Nat × Nat × Nat × Nat × Nat × Int32 × Int64
def lkT : List (Nat × RowE) → Nat → Option RowE
  | [], _ => none
  | (p, e) :: r, q => bif Nat.beq p q then some e else lkT r q
theorem lkT_mem : ∀ {tl : List (Nat × RowE)} {pc : Nat} {e : RowE}, lkT tl pc = some e → (pc, e) ∈ tl
  | [], pc, e, h => by simp [lkT] at h
  | (p, e') :: r, pc, e, h => by
    unfold lkT at h
    cases hb : Nat.beq p pc with
    | true =>
      rw [hb] at h
      have h1 : e' = e := Option.some.inj h
      have h2 : p = pc := Nat.eq_of_beq_eq_true hb
      rw [h1, h2]
      exact List.mem_cons_self
    | false =>
      rw [hb] at h
      exact List.mem_cons_of_mem _ (lkT_mem h)
/-- what the table says of a row is so -/
def ckE (own : String) (Ts : List Cond) (nL : Nat) (pc : Nat) (e : RowE) : Bool :=
  match e with
  | (i, n, nx, tg, x, wd, k, K) => (nx == pc + n) && match i with
    | .iconst a => n == 1 && decide (Int32.ofInt a = k)
    | .bipush a => n == 2 && decide ((Int8.ofInt a).toInt32 = k)
    | .sipush a => n == 3 && decide ((Int16.ofInt a).toInt32 = k)
    | .ldc a => n == 2 && ((x == 1) || decide (Ts[wd]? = some (Cond.constant own a k)))
    | .ldc_w a => n == 3 && ((x == 1) || decide (Ts[wd]? = some (Cond.constant own a k)))
    | .ldc2_w a => n == 3 && decide (Ts[wd]? = some (Cond.constantLong own a K))
    | .lconst a => n == 1 && decide (Int64.ofNat (a : Nat) = K)
    | .iload a => n == 2 && a == x
    | .lload a => n == 2 && a == x
    | .aload a => n == 2 && a == x
    | .istore a => n == 2 && a == x && decide (a < nL)
    | .lstore a => n == 2 && a == x && decide (a + 1 < nL)
    | .astore a => n == 2 && a == x && decide (a < nL)
    | .iload_n a => n == 1 && (a : Nat) == x
    | .lload_n a => n == 1 && (a : Nat) == x
    | .aload_n a => n == 1 && (a : Nat) == x
    | .istore_n a => n == 1 && (a : Nat) == x && decide (x < nL)
    | .lstore_n a => n == 1 && (a : Nat) == x && decide (x + 1 < nL)
    | .astore_n a => n == 1 && (a : Nat) == x && decide (x < nL)
    | .iinc a d => n == 3 && a == x && decide (a < nL) && decide (Int32.ofInt d = k)
    | .ifCond _ o => n == 3 && decide ((pc : Int) + o = (tg : Int))
    | .if_icmp _ o => n == 3 && decide ((pc : Int) + o = (tg : Int))
    | .goto o => n == 3 && decide ((pc : Int) + o = (tg : Int))
    | .getfield _ => n == 3
    | .putfield _ => n == 3
    | .getstatic _ => n == 3
    | .invokevirtual _ => n == 3
    | .invokespecial _ => n == 3
    | .invokestatic _ => n == 3
    | .new _ => n == 3
    | .newarray _ => n == 2
    | .anewarray _ => n == 3
    | .multianewarray _ _ => n == 4
    | .tableswitch _ _ _ _ => true
    | _ => n == 1
def i_ii (f : Int32 → Int32 → Int32) (lv : List (Option Value)) (st : List Value) : Option (List (Option Value) × List Value) := match st with
  | .int y :: .int x :: r => some (lv, .int (f x y) :: r)
  | _ => none
def i_ll (f : Int64 → Int64 → Int64) (lv : List (Option Value)) (st : List Value) : Option (List (Option Value) × List Value) := match st with
  | .long y :: .long x :: r => some (lv, .long (f x y) :: r)
  | _ => none
def i_il (f : Int64 → Int32 → Int64) (lv : List (Option Value)) (st : List Value) : Option (List (Option Value) × List Value) := match st with
  | .int y :: .long x :: r => some (lv, .long (f x y) :: r)
  | _ => none
def i_ld (lv : List (Option Value)) (st : List Value) (x : Nat) : Option (List (Option Value) × List Value) := match lk lv x with
  | some (.int a) => some (lv, .int a :: st)
  | _ => none
def l_ld (lv : List (Option Value)) (st : List Value) (x : Nat) : Option (List (Option Value) × List Value) := match lk lv x with
  | some (.long a) => some (lv, .long a :: st)
  | _ => none
def a_ld (lv : List (Option Value)) (st : List Value) (x : Nat) : Option (List (Option Value) × List Value) := match lk lv x with
  | some (.ref a) => some (lv, .ref a :: st)
  | _ => none
def i_st (lv : List (Option Value)) (st : List Value) (x : Nat) : Option (List (Option Value) × List Value) := match st with
  | .int a :: r => some (sto1 lv x (.int a), r)
  | _ => none
def l_st (lv : List (Option Value)) (st : List Value) (x : Nat) : Option (List (Option Value) × List Value) := match st with
  | .long a :: r => some (sto2 lv x (.long a), r)
  | _ => none
def a_st (lv : List (Option Value)) (st : List Value) (x : Nat) : Option (List (Option Value) × List Value) := match st with
  | .ref a :: r => some (sto1 lv x (.ref a), r)
  | _ => none
/-- one step of a plain instruction: new locals, new stack -/
def ps (i : Instr) (x : Nat) (k : Int32) (K : Int64) (lv : List (Option Value)) (st : List Value) : Option (List (Option Value) × List Value) := match i with
  | .iconst _ => some (lv, .int k :: st)
  | .bipush _ => some (lv, .int k :: st)
  | .sipush _ => some (lv, .int k :: st)
  | .ldc _ => match x with
    | 0 => some (lv, .int k :: st)
    | _ => none
  | .ldc_w _ => match x with
    | 0 => some (lv, .int k :: st)
    | _ => none
  | .lconst _ => some (lv, .long K :: st)
  | .ldc2_w _ => some (lv, .long K :: st)
  | .iload _ => i_ld lv st x
  | .iload_n _ => i_ld lv st x
  | .lload _ => l_ld lv st x
  | .lload_n _ => l_ld lv st x
  | .aload _ => a_ld lv st x
  | .aload_n _ => a_ld lv st x
  | .istore _ => i_st lv st x
  | .istore_n _ => i_st lv st x
  | .lstore _ => l_st lv st x
  | .lstore_n _ => l_st lv st x
  | .astore _ => a_st lv st x
  | .astore_n _ => a_st lv st x
  | .iinc _ _ => match lk lv x with
    | some (.int a) => some (sto1 lv x (.int (a + k)), st)
    | _ => none
  | .iadd => i_ii (fun a b => a + b) lv st
  | .isub => i_ii (fun a b => a - b) lv st
  | .imul => i_ii (fun a b => a * b) lv st
  | .iand => i_ii (fun a b => a &&& b) lv st
  | .ior => i_ii (fun a b => a ||| b) lv st
  | .ixor => i_ii (fun a b => a ^^^ b) lv st
  | .ishl => i_ii (fun a b => a <<< (b &&& 31)) lv st
  | .ishr => i_ii (fun a b => a >>> (b &&& 31)) lv st
  | .iushr => i_ii (fun a b => (a.toUInt32 >>> (b.toUInt32 &&& Int32.toUInt32 31)).toInt32) lv st
  | .ladd => i_ll (fun a b => a + b) lv st
  | .lsub => i_ll (fun a b => a - b) lv st
  | .lmul => i_ll (fun a b => a * b) lv st
  | .land => i_ll (fun a b => a &&& b) lv st
  | .lor => i_ll (fun a b => a ||| b) lv st
  | .lxor => i_ll (fun a b => a ^^^ b) lv st
  | .lshl => i_il (fun a b => a <<< (b.toInt64 &&& 63)) lv st
  | .lshr => i_il (fun a b => a >>> (b.toInt64 &&& 63)) lv st
  | .lushr => i_il (fun a b => (a.toUInt64 >>> (b.toInt64.toUInt64 &&& Int64.toUInt64 63)).toInt64) lv st
  | .ineg => match st with
    | .int a :: r => some (lv, .int (-a) :: r)
    | _ => none
  | .lneg => match st with
    | .long a :: r => some (lv, .long (-a) :: r)
    | _ => none
  | .i2l => match st with
    | .int a :: r => some (lv, .long a.toInt64 :: r)
    | _ => none
  | .l2i => match st with
    | .long a :: r => some (lv, .int a.toInt32 :: r)
    | _ => none
  | .lcmp => match st with
    | .long y :: .long a :: r => some (lv, .int (lg_cmp a y) :: r)
    | _ => none
  | .dup => match st with
    | .int a :: r => some (lv, .int a :: .int a :: r)
    | .ref a :: r => some (lv, .ref a :: .ref a :: r)
    | _ => none
  | .pop => match st with
    | .int _ :: r => some (lv, r)
    | .ref _ :: r => some (lv, r)
    | _ => none
  | .pop2 => match st with
    | .long _ :: r => some (lv, r)
    | _ => none
  | .dup_x1 => match st with
    | .int a :: .ref b :: r => some (lv, .int a :: .ref b :: .int a :: r)
    | .int a :: .int b :: r => some (lv, .int a :: .int b :: .int a :: r)
    | _ => none
  | .dup2 => match st with
    | .int a :: .ref b :: r => some (lv, .int a :: .ref b :: .int a :: .ref b :: r)
    | .long a :: r => some (lv, .long a :: .long a :: r)
    | _ => none
  | _ => none
/-- a branch: what is left on the stack, when it is taken, when it isn't -/
def pb (i : Instr) (st : List Value) : Option (List Value × Prop × Prop) := match i with
  | .ifCond cd _ => match st with
    | .int x :: r => match cd with
      | .eq => some (r, x = 0, ¬ x = 0)
      | .ne => some (r, ¬ x = 0, x = 0)
      | .lt => some (r, x < 0, ¬ x < 0)
      | .ge => some (r, 0 ≤ x, ¬ 0 ≤ x)
      | .gt => some (r, 0 < x, ¬ 0 < x)
      | .le => some (r, x ≤ 0, ¬ x ≤ 0)
    | _ => none
  | .if_icmp cd _ => match st with
    | .int y :: .int x :: r => match cd with
      | .eq => some (r, x = y, ¬ x = y)
      | .ne => some (r, ¬ x = y, x = y)
      | .lt => some (r, x < y, ¬ x < y)
      | .ge => some (r, y ≤ x, ¬ y ≤ x)
      | .gt => some (r, y < x, ¬ y < x)
      | .le => some (r, x ≤ y, ¬ x ≤ y)
    | _ => none
  | _ => none
theorem i_ii_s {f : Int32 → Int32 → Int32} {lv lv' : List (Option Value)} {st st' : List Value} (h : i_ii f lv st = some (lv', st')) : ∃ (x y : Int32) (r : List Value), st = .int y :: .int x :: r ∧ lv' = lv ∧ st' = .int (f x y) :: r := by
  unfold i_ii at h
  split at h
  · rename_i y x r
    cases h
    exact ⟨x, y, r, rfl, rfl, rfl⟩
  · cases h
theorem i_ll_s {f : Int64 → Int64 → Int64} {lv lv' : List (Option Value)} {st st' : List Value} (h : i_ll f lv st = some (lv', st')) : ∃ (x y : Int64) (r : List Value), st = .long y :: .long x :: r ∧ lv' = lv ∧ st' = .long (f x y) :: r := by
  unfold i_ll at h
  split at h
  · rename_i y x r
    cases h
    exact ⟨x, y, r, rfl, rfl, rfl⟩
  · cases h
theorem i_il_s {f : Int64 → Int32 → Int64} {lv lv' : List (Option Value)} {st st' : List Value} (h : i_il f lv st = some (lv', st')) : ∃ (x : Int64) (y : Int32) (r : List Value), st = .int y :: .long x :: r ∧ lv' = lv ∧ st' = .long (f x y) :: r := by
  unfold i_il at h
  split at h
  · rename_i y x r
    cases h
    exact ⟨x, y, r, rfl, rfl, rfl⟩
  · cases h
theorem i_ld_s {lv lv' : List (Option Value)} {st st' : List Value} {x : Nat} (h : i_ld lv st x = some (lv', st')) : ∃ a : Int32, lk lv x = some (.int a) ∧ lv' = lv ∧ st' = .int a :: st := by
  unfold i_ld at h
  split at h
  · rename_i a e1
    cases h
    exact ⟨a, e1, rfl, rfl⟩
  · cases h
theorem l_ld_s {lv lv' : List (Option Value)} {st st' : List Value} {x : Nat} (h : l_ld lv st x = some (lv', st')) : ∃ a : Int64, lk lv x = some (.long a) ∧ lv' = lv ∧ st' = .long a :: st := by
  unfold l_ld at h
  split at h
  · rename_i a e1
    cases h
    exact ⟨a, e1, rfl, rfl⟩
  · cases h
theorem a_ld_s {lv lv' : List (Option Value)} {st st' : List Value} {x : Nat} (h : a_ld lv st x = some (lv', st')) : ∃ a : Nat, lk lv x = some (.ref a) ∧ lv' = lv ∧ st' = .ref a :: st := by
  unfold a_ld at h
  split at h
  · rename_i a e1
    cases h
    exact ⟨a, e1, rfl, rfl⟩
  · cases h
theorem i_st_s {lv lv' : List (Option Value)} {st st' : List Value} {x : Nat} (h : i_st lv st x = some (lv', st')) : ∃ (a : Int32) (r : List Value), st = .int a :: r ∧ lv' = sto1 lv x (.int a) ∧ st' = r := by
  unfold i_st at h
  split at h
  · rename_i a r
    cases h
    exact ⟨a, _, rfl, rfl, rfl⟩
  · cases h
theorem l_st_s {lv lv' : List (Option Value)} {st st' : List Value} {x : Nat} (h : l_st lv st x = some (lv', st')) : ∃ (a : Int64) (r : List Value), st = .long a :: r ∧ lv' = sto2 lv x (.long a) ∧ st' = r := by
  unfold l_st at h
  split at h
  · rename_i a r
    cases h
    exact ⟨a, _, rfl, rfl, rfl⟩
  · cases h
theorem a_st_s {lv lv' : List (Option Value)} {st st' : List Value} {x : Nat} (h : a_st lv st x = some (lv', st')) : ∃ (a : Nat) (r : List Value), st = .ref a :: r ∧ lv' = sto1 lv x (.ref a) ∧ st' = r := by
  unfold a_st at h
  split at h
  · rename_i a r
    cases h
    exact ⟨a, _, rfl, rfl, rfl⟩
  · cases h
end ST
section SD
variable {p : Program} {l : Launch} {e : Env} {R : Room} {s : State} {m : MethodId} {args : Array Value} {below : List Frame} {meth : Method} {c : Code} {H : Heap} {locs : List Loc} {cells slots : Nat} {Q : State → Prop} {cc : ByteArray} {own : String} {Ts : List Cond} {nL : Nat} {ad : Nat → Nat}
set_option maxHeartbeats 4000000 in
theorem ps_ok (hx : p.tables.exec = Jvm.exec) (hb : c.code = cc) (hown : s.vm.findClass own = some m.cls) (hts : ∀ w ∈ Ts, w.before args s = true) {pc : Nat} {i : Instr} {n nx tg x wd : Nat} {k : Int32} {K : Int64} (hd : decode cc pc = .ok (i, n)) (hc : ckE own Ts nL pc (i, n, nx, tg, x, wd, k, K) = true) {lv lv' : List (Option Value)} {st st' : List Value} (h : ps i x k K lv st = some (lv', st')) {ls : Array Slot} (hl : lh ls nL ad lv)
    (kk : ∀ ls' : Array Slot, lh ls' nL ad lv' → W p l e R s m args below meth c H locs cells slots Q (F0 m nx ls' (st'.map (cv ad)))) : W p l e R s m args below meth c H locs cells slots Q (F0 m pc ls (st.map (cv ad))) := by
  cases i with
  | iconst a =>
    simp only [ckE, Bool.and_eq_true, beq_iff_eq, decide_eq_true_eq] at hc
    obtain ⟨rfl, rfl, hk⟩ := hc
    cases h
    exact lv_iconst hx hb hd hk (kk ls hl)
  | bipush a =>
    simp only [ckE, Bool.and_eq_true, beq_iff_eq, decide_eq_true_eq] at hc
    obtain ⟨rfl, rfl, hk⟩ := hc
    cases h
    exact lv_bipush hx hb hd hk (kk ls hl)
  | sipush a =>
    simp only [ckE, Bool.and_eq_true, beq_iff_eq, decide_eq_true_eq] at hc
    obtain ⟨rfl, rfl, hk⟩ := hc
    cases h
    exact lv_sipush hx hb hd hk (kk ls hl)
  | lconst a =>
    simp only [ckE, Bool.and_eq_true, beq_iff_eq, decide_eq_true_eq] at hc
    obtain ⟨rfl, rfl, hk⟩ := hc
    cases h
    exact lv_lconst hx hb hd hk (kk ls hl)
  | ldc a =>
    simp only [ckE, Bool.and_eq_true, Bool.or_eq_true, beq_iff_eq, decide_eq_true_eq] at hc
    obtain ⟨rfl, rfl, hk⟩ := hc
    simp only [ps] at h
    split at h
    · cases h
      have hk := hk.resolve_left (by decide)
      exact W.ldc hx hb hown (hts _ (List.mem_of_getElem? hk)) rfl hd (kk ls hl)
    · cases h
  | ldc_w a =>
    simp only [ckE, Bool.and_eq_true, Bool.or_eq_true, beq_iff_eq, decide_eq_true_eq] at hc
    obtain ⟨rfl, rfl, hk⟩ := hc
    simp only [ps] at h
    split at h
    · cases h
      have hk := hk.resolve_left (by decide)
      exact lv_ldcw hx hb hown (hts _ (List.mem_of_getElem? hk)) hd (kk ls hl)
    · cases h
  | ldc2_w a =>
    simp only [ckE, Bool.and_eq_true, beq_iff_eq, decide_eq_true_eq] at hc
    obtain ⟨rfl, rfl, hk⟩ := hc
    cases h
    exact W.ldc2 hx hb hown (hts _ (List.mem_of_getElem? hk)) rfl hd (kk ls hl)
  | iload a =>
    simp only [ckE, Bool.and_eq_true, beq_iff_eq, decide_eq_true_eq] at hc
    obtain ⟨rfl, rfl, rfl⟩ := hc
    obtain ⟨v, h1, rfl, rfl⟩ := i_ld_s h
    exact lv_iload hx hb hd (hl.2 _ _ h1) (kk ls hl)
  | iload_n a =>
    simp only [ckE, Bool.and_eq_true, beq_iff_eq, decide_eq_true_eq] at hc
    obtain ⟨rfl, rfl, rfl⟩ := hc
    obtain ⟨v, h1, rfl, rfl⟩ := i_ld_s h
    exact lv_iload_n hx hb hd rfl (hl.2 _ _ h1) (kk ls hl)
  | lload a =>
    simp only [ckE, Bool.and_eq_true, beq_iff_eq, decide_eq_true_eq] at hc
    obtain ⟨rfl, rfl, rfl⟩ := hc
    obtain ⟨v, h1, rfl, rfl⟩ := l_ld_s h
    exact lv_lload hx hb hd (hl.2 _ _ h1) (kk ls hl)
  | lload_n a =>
    simp only [ckE, Bool.and_eq_true, beq_iff_eq, decide_eq_true_eq] at hc
    obtain ⟨rfl, rfl, rfl⟩ := hc
    obtain ⟨v, h1, rfl, rfl⟩ := l_ld_s h
    exact lv_lload_n hx hb hd rfl (hl.2 _ _ h1) (kk ls hl)
  | aload a =>
    simp only [ckE, Bool.and_eq_true, beq_iff_eq, decide_eq_true_eq] at hc
    obtain ⟨rfl, rfl, rfl⟩ := hc
    obtain ⟨v, h1, rfl, rfl⟩ := a_ld_s h
    exact lv_aload hx hb hd (hl.2 _ _ h1) (kk ls hl)
  | aload_n a =>
    simp only [ckE, Bool.and_eq_true, beq_iff_eq, decide_eq_true_eq] at hc
    obtain ⟨rfl, rfl, rfl⟩ := hc
    obtain ⟨v, h1, rfl, rfl⟩ := a_ld_s h
    exact lv_aload_n hx hb hd rfl (hl.2 _ _ h1) (kk ls hl)
  | istore a =>
    simp only [ckE, Bool.and_eq_true, beq_iff_eq, decide_eq_true_eq] at hc
    obtain ⟨rfl, ⟨rfl, rfl⟩, hn⟩ := hc
    obtain ⟨v, r, rfl, rfl, rfl⟩ := i_st_s h
    exact lv_istore hx hb hd hl.has hn rfl (fun ls2 h2 => kk ls2 (lh.put1 h2))
  | istore_n a =>
    simp only [ckE, Bool.and_eq_true, beq_iff_eq, decide_eq_true_eq] at hc
    obtain ⟨rfl, ⟨rfl, rfl⟩, hn⟩ := hc
    obtain ⟨v, r, rfl, rfl, rfl⟩ := i_st_s h
    exact lv_istore_n hx hb hd rfl hl.has hn rfl (fun ls2 h2 => kk ls2 (lh.put1 h2))
  | lstore a =>
    simp only [ckE, Bool.and_eq_true, beq_iff_eq, decide_eq_true_eq] at hc
    obtain ⟨rfl, ⟨rfl, rfl⟩, hn⟩ := hc
    obtain ⟨v, r, rfl, rfl, rfl⟩ := l_st_s h
    exact lv_lstore hx hb hd hl.has hn rfl (fun ls2 h2 => kk ls2 (lh.put2 h2))
  | lstore_n a =>
    simp only [ckE, Bool.and_eq_true, beq_iff_eq, decide_eq_true_eq] at hc
    obtain ⟨rfl, ⟨rfl, rfl⟩, hn⟩ := hc
    obtain ⟨v, r, rfl, rfl, rfl⟩ := l_st_s h
    exact lv_lstore_n hx hb hd rfl hl.has hn rfl (fun ls2 h2 => kk ls2 (lh.put2 h2))
  | astore a =>
    simp only [ckE, Bool.and_eq_true, beq_iff_eq, decide_eq_true_eq] at hc
    obtain ⟨rfl, ⟨rfl, rfl⟩, hn⟩ := hc
    obtain ⟨v, r, rfl, rfl, rfl⟩ := a_st_s h
    exact lv_astore hx hb hd hl.has hn rfl (fun ls2 h2 => kk ls2 (lh.put1 h2))
  | astore_n a =>
    simp only [ckE, Bool.and_eq_true, beq_iff_eq, decide_eq_true_eq] at hc
    obtain ⟨rfl, ⟨rfl, rfl⟩, hn⟩ := hc
    obtain ⟨v, r, rfl, rfl, rfl⟩ := a_st_s h
    exact lv_astore_n hx hb hd rfl hl.has hn rfl (fun ls2 h2 => kk ls2 (lh.put1 h2))
  | iinc a d =>
    simp only [ckE, Bool.and_eq_true, beq_iff_eq, decide_eq_true_eq] at hc
    obtain ⟨rfl, ⟨⟨rfl, rfl⟩, hn⟩, hk⟩ := hc
    simp only [ps] at h
    split at h
    · rename_i v h1
      cases h
      have h2 := prs_in ad lv 0 a _ h1
      rw [Nat.zero_add] at h2
      obtain ⟨j, hj⟩ := List.getElem?_of_mem h2
      exact lv_iinc (x := v) (k := j) hx hb hd hl.has hj (by rw [hk]) hn rfl (fun ls2 h2 => kk ls2 (lh.put1 h2))
    · cases h
  | iadd =>
    simp only [ckE, Bool.and_eq_true, beq_iff_eq, decide_eq_true_eq] at hc
    obtain ⟨rfl, rfl⟩ := hc
    obtain ⟨a, b, r, rfl, rfl, rfl⟩ := i_ii_s h
    exact lv_iadd hx hb hd (kk ls hl)
  | isub =>
    simp only [ckE, Bool.and_eq_true, beq_iff_eq, decide_eq_true_eq] at hc
    obtain ⟨rfl, rfl⟩ := hc
    obtain ⟨a, b, r, rfl, rfl, rfl⟩ := i_ii_s h
    exact lv_isub hx hb hd (kk ls hl)
  | imul =>
    simp only [ckE, Bool.and_eq_true, beq_iff_eq, decide_eq_true_eq] at hc
    obtain ⟨rfl, rfl⟩ := hc
    obtain ⟨a, b, r, rfl, rfl, rfl⟩ := i_ii_s h
    exact lv_imul hx hb hd (kk ls hl)
  | iand =>
    simp only [ckE, Bool.and_eq_true, beq_iff_eq, decide_eq_true_eq] at hc
    obtain ⟨rfl, rfl⟩ := hc
    obtain ⟨a, b, r, rfl, rfl, rfl⟩ := i_ii_s h
    exact lv_iand hx hb hd (kk ls hl)
  | ior =>
    simp only [ckE, Bool.and_eq_true, beq_iff_eq, decide_eq_true_eq] at hc
    obtain ⟨rfl, rfl⟩ := hc
    obtain ⟨a, b, r, rfl, rfl, rfl⟩ := i_ii_s h
    exact lv_ior hx hb hd (kk ls hl)
  | ixor =>
    simp only [ckE, Bool.and_eq_true, beq_iff_eq, decide_eq_true_eq] at hc
    obtain ⟨rfl, rfl⟩ := hc
    obtain ⟨a, b, r, rfl, rfl, rfl⟩ := i_ii_s h
    exact lv_ixor hx hb hd (kk ls hl)
  | ishl =>
    simp only [ckE, Bool.and_eq_true, beq_iff_eq, decide_eq_true_eq] at hc
    obtain ⟨rfl, rfl⟩ := hc
    obtain ⟨a, b, r, rfl, rfl, rfl⟩ := i_ii_s h
    exact lv_ishl hx hb hd (kk ls hl)
  | ishr =>
    simp only [ckE, Bool.and_eq_true, beq_iff_eq, decide_eq_true_eq] at hc
    obtain ⟨rfl, rfl⟩ := hc
    obtain ⟨a, b, r, rfl, rfl, rfl⟩ := i_ii_s h
    exact lv_ishr hx hb hd (kk ls hl)
  | iushr =>
    simp only [ckE, Bool.and_eq_true, beq_iff_eq, decide_eq_true_eq] at hc
    obtain ⟨rfl, rfl⟩ := hc
    obtain ⟨a, b, r, rfl, rfl, rfl⟩ := i_ii_s h
    exact lv_iushr hx hb hd rfl (kk ls hl)
  | ladd =>
    simp only [ckE, Bool.and_eq_true, beq_iff_eq, decide_eq_true_eq] at hc
    obtain ⟨rfl, rfl⟩ := hc
    obtain ⟨a, b, r, rfl, rfl, rfl⟩ := i_ll_s h
    exact lv_ladd hx hb hd (kk ls hl)
  | lsub =>
    simp only [ckE, Bool.and_eq_true, beq_iff_eq, decide_eq_true_eq] at hc
    obtain ⟨rfl, rfl⟩ := hc
    obtain ⟨a, b, r, rfl, rfl, rfl⟩ := i_ll_s h
    exact lv_lsub hx hb hd (kk ls hl)
  | lmul =>
    simp only [ckE, Bool.and_eq_true, beq_iff_eq, decide_eq_true_eq] at hc
    obtain ⟨rfl, rfl⟩ := hc
    obtain ⟨a, b, r, rfl, rfl, rfl⟩ := i_ll_s h
    exact lv_lmul hx hb hd (kk ls hl)
  | land =>
    simp only [ckE, Bool.and_eq_true, beq_iff_eq, decide_eq_true_eq] at hc
    obtain ⟨rfl, rfl⟩ := hc
    obtain ⟨a, b, r, rfl, rfl, rfl⟩ := i_ll_s h
    exact lv_land hx hb hd (kk ls hl)
  | lor =>
    simp only [ckE, Bool.and_eq_true, beq_iff_eq, decide_eq_true_eq] at hc
    obtain ⟨rfl, rfl⟩ := hc
    obtain ⟨a, b, r, rfl, rfl, rfl⟩ := i_ll_s h
    exact lv_lor hx hb hd (kk ls hl)
  | lxor =>
    simp only [ckE, Bool.and_eq_true, beq_iff_eq, decide_eq_true_eq] at hc
    obtain ⟨rfl, rfl⟩ := hc
    obtain ⟨a, b, r, rfl, rfl, rfl⟩ := i_ll_s h
    exact lv_lxor hx hb hd (kk ls hl)
  | lshl =>
    simp only [ckE, Bool.and_eq_true, beq_iff_eq, decide_eq_true_eq] at hc
    obtain ⟨rfl, rfl⟩ := hc
    obtain ⟨a, b, r, rfl, rfl, rfl⟩ := i_il_s h
    exact lv_lshl hx hb hd rfl (kk ls hl)
  | lshr =>
    simp only [ckE, Bool.and_eq_true, beq_iff_eq, decide_eq_true_eq] at hc
    obtain ⟨rfl, rfl⟩ := hc
    obtain ⟨a, b, r, rfl, rfl, rfl⟩ := i_il_s h
    exact lv_lshr hx hb hd rfl (kk ls hl)
  | lushr =>
    simp only [ckE, Bool.and_eq_true, beq_iff_eq, decide_eq_true_eq] at hc
    obtain ⟨rfl, rfl⟩ := hc
    obtain ⟨a, b, r, rfl, rfl, rfl⟩ := i_il_s h
    exact lv_lushr hx hb hd rfl (kk ls hl)
  | ineg =>
    simp only [ckE, Bool.and_eq_true, beq_iff_eq, decide_eq_true_eq] at hc
    obtain ⟨rfl, rfl⟩ := hc
    simp only [ps] at h
    split at h
    · cases h
      exact lv_ineg hx hb hd (kk ls hl)
    · cases h
  | lneg =>
    simp only [ckE, Bool.and_eq_true, beq_iff_eq, decide_eq_true_eq] at hc
    obtain ⟨rfl, rfl⟩ := hc
    simp only [ps] at h
    split at h
    · cases h
      exact lv_lneg hx hb hd (kk ls hl)
    · cases h
  | i2l =>
    simp only [ckE, Bool.and_eq_true, beq_iff_eq, decide_eq_true_eq] at hc
    obtain ⟨rfl, rfl⟩ := hc
    simp only [ps] at h
    split at h
    · cases h
      exact lv_i2l hx hb hd rfl (kk ls hl)
    · cases h
  | l2i =>
    simp only [ckE, Bool.and_eq_true, beq_iff_eq, decide_eq_true_eq] at hc
    obtain ⟨rfl, rfl⟩ := hc
    simp only [ps] at h
    split at h
    · cases h
      exact lv_l2i hx hb hd rfl (kk ls hl)
    · cases h
  | lcmp =>
    simp only [ckE, Bool.and_eq_true, beq_iff_eq, decide_eq_true_eq] at hc
    obtain ⟨rfl, rfl⟩ := hc
    simp only [ps] at h
    split at h
    · cases h
      exact W.lcmp hx hb hd (kk ls hl)
    · cases h
  | dup =>
    simp only [ckE, Bool.and_eq_true, beq_iff_eq, decide_eq_true_eq] at hc
    obtain ⟨rfl, rfl⟩ := hc
    simp only [ps] at h
    split at h
    · cases h
      exact lv_dup hx hb hd rfl (kk ls hl)
    · cases h
      exact lv_dup hx hb hd rfl (kk ls hl)
    · cases h
  | pop =>
    simp only [ckE, Bool.and_eq_true, beq_iff_eq, decide_eq_true_eq] at hc
    obtain ⟨rfl, rfl⟩ := hc
    simp only [ps] at h
    split at h
    · cases h
      exact lv_pop hx hb hd rfl (kk ls hl)
    · cases h
      exact lv_pop hx hb hd rfl (kk ls hl)
    · cases h
  | pop2 =>
    simp only [ckE, Bool.and_eq_true, beq_iff_eq, decide_eq_true_eq] at hc
    obtain ⟨rfl, rfl⟩ := hc
    simp only [ps] at h
    split at h
    · cases h
      exact lv_pop2_2 hx hb hd rfl (kk ls hl)
    · cases h
  | dup_x1 =>
    simp only [ckE, Bool.and_eq_true, beq_iff_eq, decide_eq_true_eq] at hc
    obtain ⟨rfl, rfl⟩ := hc
    simp only [ps] at h
    split at h
    · cases h
      exact lv_dup_x1 hx hb hd rfl rfl (kk ls hl)
    · cases h
      exact lv_dup_x1 hx hb hd rfl rfl (kk ls hl)
    · cases h
  | dup2 =>
    simp only [ckE, Bool.and_eq_true, beq_iff_eq, decide_eq_true_eq] at hc
    obtain ⟨rfl, rfl⟩ := hc
    simp only [ps] at h
    split at h
    · cases h
      exact lv_dup2_11 hx hb hd rfl rfl (kk ls hl)
    · cases h
      exact lv_dup2_2 hx hb hd rfl (kk ls hl)
    · cases h
  | _ => cases h
set_option maxHeartbeats 4000000 in
theorem pb_ok (hx : p.tables.exec = Jvm.exec) (hb : c.code = cc) {pc : Nat} {i : Instr} {n nx tg x wd : Nat} {k : Int32} {K : Int64} (hd : decode cc pc = .ok (i, n)) (hc : ckE own Ts nL pc (i, n, nx, tg, x, wd, k, K) = true) {st st' : List Value} {P1 P2 : Prop} (h : pb i st = some (st', P1, P2)) {ls : Array Slot}
    (kt : P1 → W p l e R s m args below meth c H locs cells slots Q (F0 m tg ls (st'.map (cv ad)))) (kf : P2 → W p l e R s m args below meth c H locs cells slots Q (F0 m nx ls (st'.map (cv ad)))) : W p l e R s m args below meth c H locs cells slots Q (F0 m pc ls (st.map (cv ad))) := by
  cases i with
  | ifCond cd o =>
    simp only [ckE, Bool.and_eq_true, beq_iff_eq, decide_eq_true_eq] at hc
    obtain ⟨rfl, rfl, ho⟩ := hc
    simp only [pb] at h
    split at h
    · cases cd with
      | eq =>
        cases h
        exact lv_if_eq hx hb hd ho kt kf
      | ne =>
        cases h
        exact lv_if_ne hx hb hd ho kt kf
      | lt =>
        cases h
        exact lv_if_lt hx hb hd ho kt kf
      | ge =>
        cases h
        exact lv_if_ge hx hb hd ho kt kf
      | gt =>
        cases h
        exact lv_if_gt hx hb hd ho kt kf
      | le =>
        cases h
        exact lv_if_le hx hb hd ho kt kf
    · cases h
  | if_icmp cd o =>
    simp only [ckE, Bool.and_eq_true, beq_iff_eq, decide_eq_true_eq] at hc
    obtain ⟨rfl, rfl, ho⟩ := hc
    simp only [pb] at h
    split at h
    · cases cd with
      | eq =>
        cases h
        exact lv_icmp_eq hx hb hd ho kt kf
      | ne =>
        cases h
        exact lv_icmp_ne hx hb hd ho kt kf
      | lt =>
        cases h
        exact lv_icmp_lt hx hb hd ho kt kf
      | ge =>
        cases h
        exact lv_icmp_ge hx hb hd ho kt kf
      | gt =>
        cases h
        exact lv_icmp_gt hx hb hd ho kt kf
      | le =>
        cases h
        exact lv_icmp_le hx hb hd ho kt kf
    · cases h
  | _ => cases h
end SD
