/-! The two static arrays: numbers 63 (MOVE_CELLS) and 64 (SHIFTS_WITHIN), cells that are no part of the world -/
section ZX
def mvC (j : Nat) : Int32 := match j with
  | 0 => 25
  | 1 => -25
  | 2 => 5
  | 3 => -5
  | 4 => 1
  | _ => -1
def shW (j : Nat) : Int32 := match j with
  | 0 => 1
  | 1 => 7
  | _ => 25
def StT (ad : Nat → Nat) (A : Nat → Prop) (U : State) (H : Heap) : Prop := va_Z "TogetherOrders" "MOVE_CELLS" "[I" (.ref (ad 63)) A U H ∧ va_T .int (ad 63) 6 (fun j => .int (mvC j)) A U H ∧ va_Z "TogetherOrders" "SHIFTS_WITHIN" "[I" (.ref (ad 64)) A U H ∧ va_T .int (ad 64) 3 (fun j => .int (shW j)) A U H ∧ va_Nw (.fieldLinkNest "TogetherOrders$Bars" 51 "TogetherOrders" "SHIFTS_WITHIN" "[I" "TogetherOrders") U ∧ va_Nw (.fieldLinkNest "TogetherOrders$SmallMoves" 56 "TogetherOrders" "MOVE_CELLS" "[I" "TogetherOrders") U
theorem StT_ok (ad : Nat → Nat) : StOk (StT ad) := by
  refine ⟨⟨fun A u U H e h => ?_, fun A u U H hW h => ?_⟩, fun A U H H1 h hq => ?_, fun A B U H h hq => ?_⟩
  · obtain ⟨a, b, c, d, f, g⟩ := h
    have ha : u.vm.Alike U.vm := by rw [e]; exact Vm.Alike.refl _
    exact ⟨a.moved ha, b.moved ha, c.moved ha, d.moved ha, va_Nw.same rfl e f, va_Nw.same rfl e g⟩
  · obtain ⟨a, b, c, d, f, g⟩ := h
    exact ⟨a.moved hW.alike, b.moved hW.alike, c.moved hW.alike, d.moved hW.alike, va_Nw.warmF hW f, va_Nw.warmF hW g⟩
  · obtain ⟨a, b, c, d, f, g⟩ := h
    exact ⟨a.kept hq, b.kept hq, c.kept hq, d.kept hq, f, g⟩
  · obtain ⟨a, b, c, d, f, g⟩ := h
    exact ⟨a.narrow hq, b.narrow hq, c.narrow hq, d.narrow hq, f, g⟩
def Zx (own : String) (tl : List (Nat × RowE)) (V : VT) : Prop :=
  (∀ (pc n nx tg x wd : Nat) (k : Int32) (K : Int64) (lv : List (Option Value)) (st : List Value) (h : Hp), own = "TogetherOrders$Bars" → lkT tl pc = some (.getstatic 51, n, nx, tg, x, wd, k, K) → V nx lv (.ref 64 :: st) h → V pc lv st h) ∧
  (∀ (pc n nx tg x wd : Nat) (k : Int32) (K : Int64) (lv : List (Option Value)) (st : List Value) (h : Hp), own = "TogetherOrders$SmallMoves" → lkT tl pc = some (.getstatic 56, n, nx, tg, x, wd, k, K) → V nx lv (.ref 63 :: st) h → V pc lv st h) ∧
  (∀ (pc n nx tg x wd q : Nat) (k : Int32) (K : Int64) (lv : List (Option Value)) (st : List Value) (h : Hp), lkT tl pc = some (.iaload, n, nx, tg, x, wd, k, K) → q < 6 → V nx lv (.int (mvC q) :: st) h → V pc lv (.int (nI q) :: .ref 63 :: st) h) ∧
  (∀ (pc n nx tg x wd q : Nat) (k : Int32) (K : Int64) (lv : List (Option Value)) (st : List Value) (h : Hp), lkT tl pc = some (.iaload, n, nx, tg, x, wd, k, K) → q < 3 → V nx lv (.int (shW q) :: st) h → V pc lv (.int (nI q) :: .ref 64 :: st) h)
theorem Zx_ok {d : Nat} {own : String} {tl : List (Nat × RowE)} {D : va_G} {cl : List vw_C} {cA : Nat → ClassId} {sl : List Sh} {ad : Nat → Nat} : XOk d own tl D cl cA sl (StT ad) ad (Zx own tl) := by
  intro p l e R s m args below meth c cc nL A Q C0 hml hA hst hR
  obtain ⟨hx, hb, hown, hts, htl, hK, hcl⟩ := C0
  obtain ⟨z1, t1, z2, t2, w1, w2⟩ := hst
  refine ⟨?_, ?_, ?_, ?_⟩
  · intro pc n nx tg x wd k K lv st h ho h1 kk ls H locs hl hP hD hS
    obtain ⟨hdg, hc, -⟩ := rowOk_s htl h1
    simp only [ckE, Bool.and_eq_true, beq_iff_eq] at hc
    obtain ⟨rfl, rfl⟩ := hc
    subst ho
    exact va_getsN hx hb z2 hS hown (va_Nw.use rfl w1) (fun _ q => q) hdg (kk ls H locs hl hP hD hS)
  · intro pc n nx tg x wd k K lv st h ho h1 kk ls H locs hl hP hD hS
    obtain ⟨hdg, hc, -⟩ := rowOk_s htl h1
    simp only [ckE, Bool.and_eq_true, beq_iff_eq] at hc
    obtain ⟨rfl, rfl⟩ := hc
    subst ho
    exact va_getsN hx hb z1 hS hown (va_Nw.use rfl w2) (fun _ q => q) hdg (kk ls H locs hl hP hD hS)
  · intro pc n nx tg x wd q k K lv st h h1 hq kk ls H locs hl hP hD hS
    obtain ⟨hdg, hc, -⟩ := rowOk_s htl h1
    simp only [ckE, Bool.and_eq_true, beq_iff_eq] at hc
    obtain ⟨rfl, rfl⟩ := hc
    exact va_ti hx hb t1 hS (vp_in_nI hq (by decide)) (by rw [nI_clamp (by omega)]; rfl) hdg (kk ls H locs hl hP hD hS)
  · intro pc n nx tg x wd q k K lv st h h1 hq kk ls H locs hl hP hD hS
    obtain ⟨hdg, hc, -⟩ := rowOk_s htl h1
    simp only [ckE, Bool.and_eq_true, beq_iff_eq] at hc
    obtain ⟨rfl, rfl⟩ := hc
    exact va_ti hx hb t2 hS (vp_in_nI hq (by decide)) (by rw [nI_clamp (by omega)]; rfl) hdg (kk ls H locs hl hP hD hS)
variable {own : String} {tl : List (Nat × RowE)} {V : VT} {pc n nx tg x wd q : Nat} {k : Int32} {K : Int64} {lv : List (Option Value)} {st : List Value} {h : Hp}
theorem Zx.g1 (Z : Zx own tl V) (ho : own = "TogetherOrders$Bars") (h1 : lkT tl pc = some (.getstatic 51, n, nx, tg, x, wd, k, K)) (kk : V nx lv (.ref 64 :: st) h) : V pc lv st h := Z.1 pc n nx tg x wd k K lv st h ho h1 kk
theorem Zx.g2 (Z : Zx own tl V) (ho : own = "TogetherOrders$SmallMoves") (h1 : lkT tl pc = some (.getstatic 56, n, nx, tg, x, wd, k, K)) (kk : V nx lv (.ref 63 :: st) h) : V pc lv st h := Z.2.1 pc n nx tg x wd k K lv st h ho h1 kk
theorem Zx.a1 (Z : Zx own tl V) (h1 : lkT tl pc = some (.iaload, n, nx, tg, x, wd, k, K)) (hq : q < 6) (kk : V nx lv (.int (mvC q) :: st) h) : V pc lv (.int (nI q) :: .ref 63 :: st) h := Z.2.2.1 pc n nx tg x wd q k K lv st h h1 hq kk
theorem Zx.a2 (Z : Zx own tl V) (h1 : lkT tl pc = some (.iaload, n, nx, tg, x, wd, k, K)) (hq : q < 3) (kk : V nx lv (.int (shW q) :: st) h) : V pc lv (.int (nI q) :: .ref 64 :: st) h := Z.2.2.2 pc n nx tg x wd q k K lv st h h1 hq kk
end ZX
