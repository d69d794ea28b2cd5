/-! THE LOOP OF THE LAW (its first rows, to lw_At, began as the skeleton of kit/laws) -/
def R_law : String := "TogetherOrdersLaw"
def lw_P (b : Addr) (xs : List Int32) (args : Array Value) (s : State) : Prop := args = #[.ref b] ∧ s.IntsAt b xs ∧ xs.length ≤ 6144 ∧ (Jvm.Cond.and given_1 narrow_1).before args s = true
def lw_Q (_ : Array Value) (s : State) (o : Outcome) (t : State) : Prop := o = .returned (some (.int 1)) ∧ Framed s o t [] 601024 7293034
def lw_Z (below : List Frame) (a : Array Value) (s : State) : State → Prop := fun t => ∃ o, t.status = .running ∧ Ended t below o ∧ lw_Q a s o t
/-- the law's own end, with 1 on the stack, nothing written that was there before, its room as the claim has it -/
theorem lw_ret {p : Program} {l : Launch} {e : Env} {s : State} {m : MethodId} {below : List Frame} {meth : Method} {c : Code} {b : Nat} (hx : p.tables.exec = Jvm.exec) (hb : c.code = code) (hr : meth.sig.returnType = ret) (hlocks : meth.locks = false) {pc : Nat} {H : Heap} {ls : Array Slot} (hdg : decode code pc = .ok (.ireturn, 1)) : W p l e room_1 s m #[Value.ref b] below meth c H [] 601024 7293034 (lw_Z below #[Value.ref b] s) (F0 m pc ls [.int 1]) := by
  intro T hT X
  obtain ⟨fs, hret, hrun, hended, hW, hframe⟩ := X.leave (v := some (.int 1)) (hlocks := hlocks) (fun h => by rw [hr] at h; cases h)
  have hmeth' : T.vm.method? m = some meth := X.method'
  refine ⟨T.setFrames fs, ?_, .returned (some (.int 1)), hrun, hended, rfl, ⟨_, rfl⟩, hW, hframe⟩
  jvm_step X.here [X.here.top, hx, hb, hdg, hmeth', hr, ret, narrow_b1]
  (try refine ⟨rfl, ?_⟩); (try refine ⟨rfl, ?_⟩)
  first | (intro acts; rw [hret _ acts rfl rfl rfl]) | rw [hret _ _ rfl rfl rfl]
  exact Steps.refl _
/-- what holds at the law's entry: the machine, the code, the tables' words (any of lw_tbl by 'hts w (by decide +kernel)'), the script of L ints xs at the cell b, what the Statement gives of the start (any of its parts by flat_of_before) -/
def lw_At (p : Program) (s : State) (m : MethodId) (meth : Method) (c : Code) (b L : Nat) (xs : Nat → Int32) : Prop :=
  p.tables.exec = Jvm.exec ∧ c.code = code ∧ meth.sig.returnType = ret ∧ c.maxLocals = 7 ∧ s.vm.findClass R_law = some m.cls ∧ (∀ w ∈ lw_tbl, w.before #[Value.ref b] s = true) ∧ va_X b L xs s s.heap ∧ b < s.heap.size ∧ meth.locks = false ∧ (Jvm.Cond.and given_1 narrow_1).before #[Value.ref b] s = true
section LLP
theorem li_cond {L t : Nat} (hL : L ≤ 6144) (ht : t ≤ 513) : nI L - 12 < nI (12 * t) ↔ L < 12 * t + 12 := by
  have h12 : (12 : Int32).toInt = 12 := by decide
  rw [Int32.lt_iff_toInt_lt, Int32.toInt_sub, nI_toInt (by omega), nI_toInt (by omega), h12, Int.bmod_eq_of_le (by omega) (by omega)]
  omega
variable {p : Program} {l : Launch} {e : Env} {s : State} {m : MethodId} {below : List Frame} {meth : Method} {c : Code} {D : va_G} {cA : Nat → ClassId} {ad ad2 : Nat → Nat} {b o L t : Nat} {xs : Nat → Int32} {cells slots : Nat} {ws : va_W} {Q : State → Prop} {A : Nat → Prop} {args : Array Value}
theorem Vw_tbo (C0 : Cx p s m args c code "TogetherOrdersLaw" wg 7 T_La_h D cls cA) {x : Int32} {lv : List (Option Value)} (h : x.toInt < 0 ∨ 17 < x.toInt) (kk : Vw p l e room_1 s m args below meth c 7 D cls A Q cells slots ws 1669 lv []) : Vw p l e room_1 s m args below meth c 7 D cls A Q cells slots ws 40 lv [.int x] := by
  intro ls H locs hl hP hD hS
  obtain ⟨hx, hb, hown, hts, htl, hK, hcl⟩ := C0
  obtain ⟨hd, -, -⟩ := rowOk_s htl (show lkT T_La_h 40 = some (.tableswitch 1629 0 17 #[88, 132, 420, 527, 712, 787, 906, 919, 987, 1043, 1099, 1155, 1199, 1255, 1323, 1379, 1466, 1517], 88, 128, 0, 0, 0, 0, 0) from rfl)
  exact lv_tableOut hx hb hd h (by decide) (kk ls H locs hl hP hD hS)
theorem Vw_tbi (C0 : Cx p s m args c code "TogetherOrdersLaw" wg 7 T_La_h D cls cA) {x : Int32} {lv : List (Option Value)} {k tgt : Nat} {off : Int} (h : x.toInt = (k : Int)) (hk : k ≤ 17) (ho : (#[88, 132, 420, 527, 712, 787, 906, 919, 987, 1043, 1099, 1155, 1199, 1255, 1323, 1379, 1466, 1517] : Array Int)[k]? = some off) (ht : ((40 : Nat) : Int) + off = (tgt : Int)) (kk : Vw p l e room_1 s m args below meth c 7 D cls A Q cells slots ws tgt lv []) : Vw p l e room_1 s m args below meth c 7 D cls A Q cells slots ws 40 lv [.int x] := by
  intro ls H locs hl hP hD hS
  obtain ⟨hx, hb, hown, hts, htl, hK, hcl⟩ := C0
  obtain ⟨hd, -, -⟩ := rowOk_s htl (show lkT T_La_h 40 = some (.tableswitch 1629 0 17 #[88, 132, 420, 527, 712, 787, 906, 919, 987, 1043, 1099, 1155, 1199, 1255, 1323, 1379, 1466, 1517], 88, 128, 0, 0, 0, 0, 0) from rfl)
  exact lv_tableIn hx hb hd (by omega) (by omega) (by rw [h, show ((k : Int) - 0).toNat = k by omega]; exact ho) ht (kk ls H locs hl hP hD hS)
/-- one call of the script, whichever it is -/
theorem k_any (CH : ∀ tl, tl.all (rowOk code "TogetherOrdersLaw" wg 7 cls) = true → Cx p s m args c code "TogetherOrdersLaw" wg 7 tl D cls cA) (hfl : l.flags = flags0) (hml : c.maxLocals = 7) (hA : ∀ q, s.heap.size ≤ q → A q) (hst : StX ad A s s.heap) (hnc : NC s) (hX : va_X b L xs s s.heap) (hbl : b < s.heap.size) (hbA : ¬ A b) (hin : ∀ j, j < 12 → vp_in (nI (12 * t) + nI j) L) (hce : cells + 1 ≤ 601024) (hsl : slots + 6 ≤ 7293034) {h g : Hp} (hRl : Rl h g) {f : Nat → Int64} {o5 o6 : Option Value} {x : Int32}
    (kk : ∀ h' g' f' o5 o6, Rl h' g' → Vw p l e room_1 s m args below meth c 7 D cls A Q (cells + 1) (slots + 6) (Wd slM cA ad2 g' ++ WH cA ad o f' h') 1669 [some (.ref b), some (.ref (ad 0)), some (.ref (ad2 0)), some (.ref o), some (.int (nI (12 * t))), o5, o6] []) : Vw p l e room_1 s m args below meth c 7 D cls A Q cells slots (Wd slM cA ad2 g ++ WH cA ad o f h) 40 [some (.ref b), some (.ref (ad 0)), some (.ref (ad2 0)), some (.ref o), some (.int (nI (12 * t))), o5, o6] [.int x] := by
  by_cases h1 : x.toInt < 0 ∨ 17 < x.toInt
  · exact Vw_tbo (CH _ tk_La_h) h1 (Vw_wide (Nat.le_add_right _ _) (Nat.le_add_right _ _) (kk _ _ _ _ _ hRl))
  · obtain ⟨k, hk⟩ : ∃ k : Nat, x.toInt = (k : Int) := ⟨x.toInt.toNat, by omega⟩
    have h17 : k ≤ 17 := by omega
    match k, hk, h17 with
    | 0, hk, h17 => exact Vw_tbi (CH _ tk_La_h) (k := 0) (tgt := 128) hk h17 rfl (by decide) (k_part (CH _ tk_La_0) hfl hml hA hst hnc hX hbl hbA hin hce hsl hRl kk)
    | 1, hk, h17 => exact Vw_tbi (CH _ tk_La_h) (k := 1) (tgt := 172) hk h17 rfl (by decide) (k_box (CH _ tk_La_1) hfl hml hA hst hnc hX hbl hbA hin hce hsl hRl kk)
    | 2, hk, h17 => exact Vw_tbi (CH _ tk_La_h) (k := 2) (tgt := 460) hk h17 rfl (by decide) (k_deep (CH _ tk_La_2) hfl hml hA hst hnc hX hbl hbA hin hce hsl hRl kk)
    | 3, hk, h17 => exact Vw_tbi (CH _ tk_La_h) (k := 3) (tgt := 567) hk h17 rfl (by decide) (k_slant (CH _ tk_La_3) hfl hml hA hst hnc hX hbl hbA hin hce hsl hRl kk)
    | 4, hk, h17 => exact Vw_tbi (CH _ tk_La_h) (k := 4) (tgt := 752) hk h17 rfl (by decide) (k_group (CH _ tk_La_4) hfl hml hA hst hnc hX hbl hbA hin hce hsl hRl kk)
    | 5, hk, h17 => exact Vw_tbi (CH _ tk_La_h) (k := 5) (tgt := 827) hk h17 rfl (by decide) (k_free (CH _ tk_La_5) hfl hml hA hst hnc hX hbl hbA hin hce hsl hRl kk)
    | 6, hk, h17 => exact Vw_tbi (CH _ tk_La_h) (k := 6) (tgt := 946) hk h17 rfl (by decide) (k_run (CH _ tk_La_6) hfl hml hA hst hnc hX hbl hbA hin hce hsl hRl kk)
    | 7, hk, h17 => exact Vw_tbi (CH _ tk_La_h) (k := 7) (tgt := 959) hk h17 rfl (by decide) (k_step (CH _ tk_La_7) hfl hml hA hst hnc hX hbl hbA hin hce hsl hRl kk)
    | 8, hk, h17 => exact Vw_tbi (CH _ tk_La_h) (k := 8) (tgt := 1027) hk h17 rfl (by decide) (k_apart (CH _ tk_La_8) hfl hml hA hst hnc hX hbl hbA hin hce hsl hRl kk)
    | 9, hk, h17 => exact Vw_tbi (CH _ tk_La_h) (k := 9) (tgt := 1083) hk h17 rfl (by decide) (k_locked (CH _ tk_La_9) hfl hml hA hst hnc hX hbl hbA hin hce hsl hRl kk)
    | 10, hk, h17 => exact Vw_tbi (CH _ tk_La_h) (k := 10) (tgt := 1139) hk h17 rfl (by decide) (k_stage (CH _ tk_La_10) hfl hml hA hst hnc hX hbl hbA hin hce hsl hRl kk)
    | 11, hk, h17 => exact Vw_tbi (CH _ tk_La_h) (k := 11) (tgt := 1195) hk h17 rfl (by decide) (k_turnings (CH _ tk_La_11) hfl hml hA hst hnc hX hbl hbA hin hce hsl hRl kk)
    | 12, hk, h17 => exact Vw_tbi (CH _ tk_La_h) (k := 12) (tgt := 1239) hk h17 rfl (by decide) (k_two (CH _ tk_La_12) hfl hml hA hst hnc hX hbl hbA hin hce hsl hRl kk)
    | 13, hk, h17 => exact Vw_tbi (CH _ tk_La_h) (k := 13) (tgt := 1295) hk h17 rfl (by decide) (k_hands (CH _ tk_La_13) hfl hml hA hst hnc hX hbl hbA hin hce hsl hRl kk)
    | 14, hk, h17 => exact Vw_tbi (CH _ tk_La_h) (k := 14) (tgt := 1363) hk h17 rfl (by decide) (k_out (CH _ tk_La_14) hfl hml hA hst hnc hX hbl hbA hin hce hsl hRl kk)
    | 15, hk, h17 => exact Vw_tbi (CH _ tk_La_h) (k := 15) (tgt := 1419) hk h17 rfl (by decide) (k_glue (CH _ tk_La_15) hfl hml hA hst hnc hX hbl hbA hin hce hsl hRl kk)
    | 16, hk, h17 => exact Vw_tbi (CH _ tk_La_h) (k := 16) (tgt := 1506) hk h17 rfl (by decide) (k_keeps (CH _ tk_La_16) hfl hml hA hst hnc hX hbl hbA hin hce hsl hRl kk)
    | 17, hk, h17 => exact Vw_tbi (CH _ tk_La_h) (k := 17) (tgt := 1557) hk h17 rfl (by decide) (k_clamp (CH _ tk_La_17) hfl hml hA hst hnc hX hbl hbA hin hce hsl hRl kk)
    | n + 18, _, h17 => omega
/-- the loop -/
theorem lp_all (CH : ∀ tl, tl.all (rowOk code "TogetherOrdersLaw" wg 7 cls) = true → Cx p s m args c code "TogetherOrdersLaw" wg 7 tl D cls cA) (hfl : l.flags = flags0) (hml : c.maxLocals = 7) (hA : ∀ q, s.heap.size ≤ q → A q) (hst : StX ad A s s.heap) (hnc : NC s) (hX : va_X b L xs s s.heap) (hbl : b < s.heap.size) (hbA : ¬ A b) (hL : L ≤ 6144)
    (hend : ∀ cells slots ws lv, cells ≤ 601024 → slots ≤ 7293034 → Vw p l e room_1 s m args below meth c 7 D cls A Q cells slots ws 1676 lv [.int 1]) : ∀ k t : Nat, t + k = 513 → ∀ (h g : Hp) (f : Nat → Int64) (o5 o6 : Option Value), Rl h g → Vw p l e room_1 s m args below meth c 7 D cls A Q (78 + t) (53807 + 6 * t) (Wd slM cA ad2 g ++ WH cA ad o f h) 23 [some (.ref b), some (.ref (ad 0)), some (.ref (ad2 0)), some (.ref o), some (.int (nI (12 * t))), o5, o6] [] := by
  have Ch := CH _ tk_La_h
  have Ce := CH _ tk_La_e
  intro k
  induction k with
  | zero =>
    intro t ht h g f o5 o6 hR
    refine Vw_s Ch rfl rfl ?_
    refine Vw_s Ch rfl rfl ?_
    refine Vw_slen Ch hX hbl hbA rfl ?_
    refine Vw_s Ch rfl rfl ?_
    refine Vw_s Ch rfl rfl ?_
    refine Vw_br Ch rfl rfl (fun c1 => ?_) (fun c1 => absurd ((li_cond hL (by omega)).mpr (by omega)) c1)
    refine Vw_s Ce rfl rfl ?_
    exact hend _ _ _ _ (by omega) (by omega)
  | succ k ih =>
    intro t ht h g f o5 o6 hR
    refine Vw_s Ch rfl rfl ?_
    refine Vw_s Ch rfl rfl ?_
    refine Vw_slen Ch hX hbl hbA rfl ?_
    refine Vw_s Ch rfl rfl ?_
    refine Vw_s Ch rfl rfl ?_
    refine Vw_br Ch rfl rfl (fun c1 => ?_) (fun c1 => ?_)
    · refine Vw_s Ce rfl rfl ?_
      exact hend _ _ _ _ (by omega) (by omega)
    have hLt : 12 * t + 12 ≤ L := by
      have h2 : ¬ L < 12 * t + 12 := fun q => c1 ((li_cond hL (by omega)).mpr q)
      omega
    have hin : ∀ j, j < 12 → vp_in (nI (12 * t) + nI j) L := fun j hj => by
      rw [nI_add]
      exact vp_in_nI (by omega) (by omega)
    refine Vw_s Ch rfl rfl ?_
    refine Vw_s Ch rfl rfl ?_
    refine Vw_sld Ch hX hbl hbA rfl (vp_in_nI (by omega) (by omega)) ?_
    refine Vw_s Ch rfl rfl ?_
    refine Vw_s Ch rfl rfl ?_
    refine k_any CH hfl hml hA hst hnc hX hbl hbA hin (by omega) (by omega) hR (fun h' g' f' o5 o6 hR' => ?_)
    refine Vw_s Ce rfl rfl ?_
    refine Vw_go Ce rfl ?_
    have hi := ih (t + 1) (by omega) h' g' f' o5 o6 hR'
    rw [show 12 * (t + 1) = 12 * t + 12 by omega, ← nI_add, show 78 + (t + 1) = 78 + t + 1 by omega, show 53807 + 6 * (t + 1) = 53807 + 6 * t + 6 by omega] at hi
    exact hi
theorem rot_P {cl : List vw_C} {H : Heap} {C M X : va_W} (h : va_P D cl ((([] ++ C) ++ M) ++ X) H) : va_P D cl (M ++ (X ++ C)) H := by
  rw [List.append_assoc] at h
  have h3 := h.swap
  rw [List.nil_append, List.append_assoc] at h3
  exact h3
theorem rot_D {C M X : va_W} (h : va_D A ((([] ++ C) ++ M) ++ X)) : va_D A (M ++ (X ++ C)) := by
  rw [List.append_assoc] at h
  have h3 := h.swap
  rw [List.nil_append, List.append_assoc] at h3
  exact h3
end LLP
