/-! Plan: contracts -/
section PlC
variable {l : Launch} {D : va_G} {cA : Nat → ClassId} {ad : Nat → Nat} {St : (Nat → Prop) → State → Heap → Prop}
/-- nothing but ints of the cells ks has changed -/
def FrI (ks : List Nat) (h h' : Hp) : Prop := h'.2 = h.2 ∧ ∀ k, k ∉ ks → h'.1 k = h.1 k
theorem FrI.rf {ks : List Nat} {h : Hp} : FrI ks h h := ⟨rfl, fun _ _ => rfl⟩
theorem FrI.up {ks : List Nat} {h h' : Hp} (hf : FrI ks h h') {k : Nat} (hk : k ∈ ks) (j : Nat) (v : Int32) : FrI ks h (upI h' k j v) := ⟨hf.1, fun q hq => by
  rw [upI_self, setI_ne _ _ (fun e => hq (by rw [e]; exact hk))]
  exact hf.2 q hq⟩
theorem FrI.tr {ks : List Nat} {h h' h'' : Hp} (h1 : FrI ks h h') (h2 : FrI ks h' h'') : FrI ks h h'' := ⟨h2.1.trans h1.1, fun q hq => (h2.2 q hq).trans (h1.2 q hq)⟩
theorem FrI.more {ks ks' : List Nat} {h h' : Hp} (h1 : FrI ks h h') (hs : ∀ k, k ∈ ks → k ∈ ks') : FrI ks' h h' := ⟨h1.1, fun q hq => h1.2 q (fun z => hq (hs q z))⟩
theorem TbI.fr {ks : List Nat} {h h' : Hp} {s : Nat} {T : Nat → Nat → Nat} (hT : TbI h s T) (hf : FrI ks h h') (hk : 38 + s ∉ ks) : TbI h' s T := by
  intro w i hw hi
  rw [hf.2 _ hk]
  exact hT w i hw hi
theorem ItI.fr {ks : List Nat} {h h' : Hp} {n : Nat} {it : Nat → Nat} (hI : ItI h n it) (hf : FrI ks h h') (h1 : 1 ∉ ks) (h9 : 9 ∉ ks) : ItI h' n it := by
  obtain ⟨a, b, d⟩ := hI
  refine ⟨?_, b, ?_⟩
  · rw [hf.2 _ h1]; exact a
  · rw [hf.2 _ h9]; exact d
theorem BxI.fr {ks : List Nat} {h h' : Hp} {nb : Nat} {own : Nat → Nat} (hI : BxI h nb own) (hf : FrI ks h h') (h1 : 2 ∉ ks) (h9 : 10 ∉ ks) : BxI h' nb own := by
  obtain ⟨a, b, d⟩ := hI
  refine ⟨?_, b, ?_⟩
  · rw [hf.2 _ h1]; exact a
  · rw [hf.2 _ h9]; exact d
theorem CI.fr {ks : List Nat} {h h' : Hp} {n : Nat} {it : Nat → Nat} {nb : Nat} {own : Nat → Nat} {nw : Nat} (hC : CI h n it nb own nw) (hf : FrI ks h h') (hk : 1 ∉ ks ∧ 9 ∉ ks ∧ 2 ∉ ks ∧ 10 ∉ ks ∧ 3 ∉ ks) : CI h' n it nb own nw := by
  obtain ⟨a, b, d, e, f⟩ := hC
  refine ⟨a.fr hf hk.1 hk.2.1, b.fr hf hk.2.2.1 hk.2.2.2.1, d, ?_, f⟩
  rw [hf.2 _ hk.2.2.2.2]; exact e
/-- the least free item of those left -/
def fstI (T : Nat → Nat → Nat) (nw B : Nat) : Option Nat := fstN (fun i => B.testBit i && (lfw T nw i B).isSome) 12 0
theorem foF_1 (f : Nat → Bool) : ∀ m i, foF f 1 m i 0 0 = match fstN f m i with | none => 0 | some k => 2 ^ k
  | 0, i => rfl
  | m + 1, i => by
    unfold foF fstN
    rw [if_pos (by omega)]
    by_cases e : f i
    · rw [if_pos e, if_pos e, Nat.zero_or]
      cases m with
      | zero => rfl
      | succ m => unfold foF; rw [if_neg (by omega)]
    · rw [if_neg e, if_neg e]
      exact foF_1 f m (i + 1)
theorem bAt_0 : ∀ m i, bAt 0 0 m i 0 = -1
  | 0, _ => rfl
  | m + 1, i => by
    unfold bAt
    rw [if_neg (by simp)]
    exact bAt_0 m (i + 1)
theorem bAt_p {k : Nat} : ∀ m i, i ≤ k → k < i + m → bAt (2 ^ k) 0 m i 0 = nI k
  | 0, i, h1, h2 => by omega
  | m + 1, i, h1, h2 => by
    unfold bAt
    by_cases e : k = i
    · subst e
      rw [if_pos (by simp [Nat.testBit_two_pow]), if_pos rfl]
    · rw [if_neg (by simp [Nat.testBit_two_pow, e])]
      exact bAt_p m (i + 1) (by omega) (by omega)
theorem fro_1 (T : Nat → Nat → Nat) (nw B : Nat) : bAt (fro T nw B 1) 0 12 0 0 = oI (fstI T nw B) := by
  have h1 : fro T nw B 1 = match fstI T nw B with | none => 0 | some k => 2 ^ k := foF_1 _ 12 0
  rw [h1]
  cases e : fstI T nw B with
  | none => exact bAt_0 12 0
  | some k =>
    have h2 := fstN_some e
    exact bAt_p 12 0 (by omega) (by omega)
theorem foF_lt {f : Nat → Bool} {most : Nat} : ∀ {m i bits c : Nat}, m + i = 12 → bits < 4096 → foF f most m i bits c < 4096
  | 0, i, bits, c, h, hb => hb
  | m + 1, i, bits, c, h, hb => by
    unfold foF
    split
    · split
      · exact foF_lt (by omega) (or_lt hb (pw_lt (by omega)))
      · exact foF_lt (by omega) hb
    · exact hb
theorem fro_lt (T : Nat → Nat → Nat) (nw B most : Nat) : fro T nw B most < 4096 := foF_lt rfl (by omega)
/-- what is left behind i steps -/
def plS (T : Nat → Nat → Nat) (nw B0 : Nat) : Nat → Nat
  | 0 => B0
  | i + 1 => match fstI T nw (plS T nw B0 i) with
    | none => plS T nw B0 i
    | some k => clr (plS T nw B0 i) k
/-- the item of step i -/
def tkF (T : Nat → Nat → Nat) (nw B0 i : Nat) : Nat := (fstI T nw (plS T nw B0 i)).getD 0
theorem plS_lt {T : Nat → Nat → Nat} {nw B0 : Nat} (hB : B0 < 4096) : ∀ i, plS T nw B0 i < 4096
  | 0 => hB
  | i + 1 => by
    unfold plS
    split
    · exact plS_lt hB i
    · exact clr_lt (plS_lt hB i)
theorem fstI_lt {T : Nat → Nat → Nat} {nw B k : Nat} (h : fstI T nw B = some k) : k < 12 ∧ B.testBit k = true ∧ (lfw T nw k B).isSome = true := by
  obtain ⟨h1, h2, h3, -⟩ := fstN_some h
  rw [Bool.and_eq_true] at h3
  exact ⟨by omega, h3.1, h3.2⟩
theorem plS_off {T : Nat → Nat → Nat} {nw B0 : Nat} (hB : B0 < 4096) {q : Nat} : ∀ {i : Nat} (d : Nat), (plS T nw B0 i).testBit q = false → (plS T nw B0 (i + d)).testBit q = false
  | i, 0, h => h
  | i, d + 1, h => by
    have h1 := plS_off hB d h
    show (match fstI T nw (plS T nw B0 (i + d)) with | none => plS T nw B0 (i + d) | some k => clr (plS T nw B0 (i + d)) k).testBit q = false
    split
    · exact h1
    · rename_i k hk
      rw [clr_bit (plS_lt hB _) (fstI_lt hk).1, h1]
      rfl
theorem tk_ne {T : Nat → Nat → Nat} {nw B0 : Nat} (hB : B0 < 4096) {i j : Nat} (hi : fstI T nw (plS T nw B0 i) ≠ none) (hj : fstI T nw (plS T nw B0 j) ≠ none) (h : j < i) : tkF T nw B0 j ≠ tkF T nw B0 i := by
  obtain ⟨a, ha⟩ := Option.ne_none_iff_exists'.mp hi
  obtain ⟨b, hb⟩ := Option.ne_none_iff_exists'.mp hj
  unfold tkF
  rw [ha, hb]
  intro e
  have e : b = a := e
  subst e
  have h1 : (plS T nw B0 (j + 1)).testBit b = false := by
    show (match fstI T nw (plS T nw B0 j) with | none => plS T nw B0 j | some k => clr (plS T nw B0 j) k).testBit b = false
    rw [hb]
    rw [clr_bit (plS_lt hB _) (fstI_lt hb).1]
    simp
  have h2 := plS_off hB (i - (j + 1)) h1
  rw [show j + 1 + (i - (j + 1)) = i by omega] at h2
  rw [(fstI_lt ha).2.1] at h2
  cases h2
/-- the plan's cells hold m steps -/
def PlI (h : Hp) (T : Nat → Nat → Nat) (nw B0 m : Nat) : Prop := h.1 6 5 = nI m ∧ h.1 6 6 = nI (plS T nw B0 m) ∧ m ≤ 12 ∧ ∀ j, j < m → fstI T nw (plS T nw B0 j) ≠ none ∧ h.1 20 j = nI (tkF T nw B0 j) ∧ h.1 21 j = oI (lfw T nw (tkF T nw B0 j) (plS T nw B0 j)) ∧ h.1 22 (tkF T nw B0 j) = nI j
theorem up_eq (h : Hp) (k j : Nat) (v : Int32) : (upI h k j v).1 k j = v := by rw [upI_self, setI_at]; simp [upd]
theorem up_ne (h : Hp) (k j : Nat) (v : Int32) {q : Nat} (e : q ≠ j) : (upI h k j v).1 k q = h.1 k q := by rw [upI_self, setI_at]; simp [upd, e]
theorem up_off (h : Hp) (k j : Nat) (v : Int32) {q : Nat} (e : q ≠ k) : (upI h k j v).1 q = h.1 q := by rw [upI_self, setI_ne _ _ e]
theorem c_Pl_make (hSt : StOk St) {h : Hp} {T : Nat → Nat → Nat} {n : Nat} {it : Nat → Nat} {nw : Nat} (hI : ItI h n it) (hn : h.1 3 0 = nI nw) (h10 : nw ≤ 10) (hT : TbI h 0 T) (hA : allB it n < 4096) : Ct l y_Pl_make prog_6_method_2_code 3 none (rmD 4) D cls cA slC St ad [.ref 6] h (fun r h' => r = none ∧ FrI [6, 20, 21, 22] h h' ∧ ∃ m, PlI h' T nw (allB it n) m ∧ (m = 12 ∨ fstI T nw (plS T nw (allB it n) m) = none)) := by
  generalize hB0 : allB it n = B0 at hA
  refine Ct.of (tl := T_Pl_make) (by decide) tk_Pl_make cls_ok hSt (Nat.le_of_ble_eq_true rfl) (fun V G E C => ?_)
  have L : ∀ i, i ≤ 12 → ∀ hc, FrI [6, 20, 21, 22] h hc → PlI hc T nw B0 i → V 18 [some (.ref 6), some (.int (nI i)), none] [] hc := by
    refine loopUp 12 (fun i hi ih => ?_) ?_
    · intro hc hf hp
      obtain ⟨p1, p2, p3, p4⟩ := id hp
      have hBi := plS_lt (T := T) (nw := nw) hA i
      have hTc := hT.fr hf (by decide)
      have hnc : hc.1 3 0 = nI nw := by rw [hf.2 3 (by decide)]; exact hn
      repeat (first | refine G.sx (fun _ => false) rfl rfl rfl ?_ | refine G.gox (fun _ => false) rfl rfl rfl ?_ | refine G.getx (fun _ => false) rfl rfl rfl rfl ?_)
      refine G.br rfl rfl (fun c1 => absurd c1 (nI_ge (b := 12) hi (by omega))) (fun _ => ?_)
      repeat (first | refine G.sx (fun _ => false) rfl rfl rfl ?_ | refine G.gox (fun _ => false) rfl rfl rfl ?_ | refine G.getx (fun _ => false) rfl rfl rfl rfl ?_)
      show V 33 _ [.int (nI 1), .int (hc.1 6 6), .ref 5] _
      rw [p2]
      refine C.cv [.int (nI (plS T nw B0 i)), .int (nI 1)] [] rfl cw_Pl_42 (d1 := 3) (by omega) (by omega) rfl rfl rfl (c_Ba_freeOnes hSt hnc h10 _ 1 hBi (by omega) hTc) (by decide) (fun r h' hq => ?_)
      obtain ⟨rfl, rfl⟩ := hq
      repeat (first | refine G.sx (fun _ => false) rfl rfl rfl ?_ | refine G.gox (fun _ => false) rfl rfl rfl ?_ | refine G.getx (fun _ => false) rfl rfl rfl rfl ?_)
      refine C.cs [.int (nI (fro T nw (plS T nw B0 i) 1)), .int 0] [] rfl cw_Pl_48 (d1 := 1) (by omega) (by omega) rfl (c_It_bitAt hSt h' _ (by have := fro_lt T nw (plS T nw B0 i) 1; omega) 0) (by decide) (fun r h' hq => ?_)
      obtain ⟨rfl, rfl⟩ := hq
      rw [fro_1]
      repeat (first | refine G.sx (fun _ => false) rfl rfl rfl ?_ | refine G.gox (fun _ => false) rfl rfl rfl ?_ | refine G.getx (fun _ => false) rfl rfl rfl rfl ?_)
      have ho := oI_m1 (r := fstI T nw (plS T nw B0 i)) (fun k hk => by have := (fstI_lt hk).1; omega)
      refine G.br rfl rfl (fun c1 => ?_) (fun c1 => ?_)
      · have c1 : fstI T nw (plS T nw B0 i) ≠ none := fun q => c1 (ho.mpr q)
        obtain ⟨k, hk⟩ := Option.ne_none_iff_exists'.mp c1
        obtain ⟨k12, kB, -⟩ := fstI_lt hk
        have htk : tkF T nw B0 i = k := by unfold tkF; rw [hk]; rfl
        rw [hk]
        show V 47 [some (.ref 6), some (.int (nI i)), some (.int (nI k))] [] _
        repeat (first | refine G.sx (fun _ => false) rfl rfl rfl ?_ | refine G.gox (fun _ => false) rfl rfl rfl ?_ | refine G.getx (fun _ => false) rfl rfl rfl rfl ?_)
        refine G.iasn rfl rfl hi (by decide) ?_
        repeat (first | refine G.sx (fun _ => false) rfl rfl rfl ?_ | refine G.gox (fun _ => false) rfl rfl rfl ?_ | refine G.getx (fun _ => false) rfl rfl rfl rfl ?_)
        show V 68 _ [.int (h'.1 6 6), .int (nI k), .ref 5, .int (nI i), .ref 21] _
        rw [p2]
        refine C.cv [.int (nI k), .int (nI (plS T nw B0 i))] [.int (nI i), .ref 21] rfl cw_Pl_51 (d1 := 2) (by omega) (by omega) rfl rfl rfl (c_Ba_leastFreeWay hSt (h := upI h' 20 i (nI k)) (nw := nw) (T := T) (by rw [up_off _ _ _ _ (by decide)]; exact hnc) h10 k _ k12 hBi (hTc.fr (ks := [20]) (FrI.rf.up (by decide) _ _) (by decide))) (Nat.le_of_ble_eq_true rfl) (fun r h'' hq => ?_)
        obtain ⟨rfl, rfl⟩ := hq
        refine G.iasn rfl rfl hi (by decide) ?_
        repeat (first | refine G.sx (fun _ => false) rfl rfl rfl ?_ | refine G.gox (fun _ => false) rfl rfl rfl ?_ | refine G.getx (fun _ => false) rfl rfl rfl rfl ?_)
        refine G.iasn rfl rfl k12 (by decide) ?_
        repeat (first | refine G.sx (fun q => Nat.beq q 90) rfl rfl rfl ?_ | refine G.gox (fun q => Nat.beq q 90) rfl rfl rfl ?_ | refine G.getx (fun q => Nat.beq q 90) rfl rfl rfl rfl ?_)
        show V 90 _ [.int (h'.1 6 6 &&& ((1 : Int32) <<< (nI k &&& 31) ^^^ (-1))), .ref 6] _
        rw [p2, not_1 hBi k12]
        refine G.put rfl rfl rfl ?_
        repeat (first | refine G.sx (fun q => Nat.beq q 97) rfl rfl rfl ?_ | refine G.gox (fun q => Nat.beq q 97) rfl rfl rfl ?_ | refine G.getx (fun q => Nat.beq q 97) rfl rfl rfl rfl ?_)
        show V 97 _ [.int (nI i + 1), .ref 6] _
        rw [nI_1]
        refine G.put rfl rfl rfl ?_
        repeat (first | refine G.sx (fun _ => false) rfl rfl rfl ?_ | refine G.gox (fun _ => false) rfl rfl rfl ?_ | refine G.getx (fun _ => false) rfl rfl rfl rfl ?_)
        refine G.go rfl ?_
        have e2 := ih (upI (upI (upI (upI (upI h' 20 i (nI k)) 21 i (oI (lfw T nw k (plS T nw B0 i)))) 22 k (nI i)) 6 6 (nI (clr (plS T nw B0 i) k))) 6 5 (nI (i + 1))) ?_ ?_
        · show V 18 [some (.ref 6), some (.int (nI i + 1)), some (.int (nI k))] [] _
          rw [nI_1 i]
          refine G.le _ ?_ e2
          repeat (first | exact leL_0 | refine leL_n ?_ | refine leL_c rfl ?_)
        · exact ((((hf.up (by decide) _ _).up (by decide) _ _).up (by decide) _ _).up (by decide) _ _).up (by decide) _ _
        · refine ⟨up_eq _ _ _ _, ?_, by omega, ?_⟩
          · rw [up_ne _ _ _ _ (by decide), up_eq]
            show nI (clr (plS T nw B0 i) k) = nI (match fstI T nw (plS T nw B0 i) with | none => plS T nw B0 i | some k => clr (plS T nw B0 i) k)
            rw [hk]
          · intro j hj
            rw [up_off _ 6 5 _ (by decide : 20 ≠ 6), up_off _ 6 5 _ (by decide : 21 ≠ 6), up_off _ 6 5 _ (by decide : 22 ≠ 6), up_off _ 6 6 _ (by decide : 20 ≠ 6), up_off _ 6 6 _ (by decide : 21 ≠ 6), up_off _ 6 6 _ (by decide : 22 ≠ 6), up_off _ 22 k _ (by decide : 20 ≠ 22), up_off _ 22 k _ (by decide : 21 ≠ 22), up_off _ 21 i _ (by decide : 20 ≠ 21)]
            by_cases e : j = i
            · subst e
              rw [htk]
              exact ⟨c1, up_eq _ _ _ _, up_eq _ _ _ _, up_eq _ _ _ _⟩
            · obtain ⟨q1, q2, q3, q4⟩ := p4 j (by omega)
              refine ⟨q1, ?_, ?_, ?_⟩
              · rw [up_ne _ _ _ _ e]; exact q2
              · rw [up_ne _ _ _ _ e, up_off _ 20 i _ (by decide : 21 ≠ 20)]; exact q3
              · have ne := tk_ne (T := T) (nw := nw) hA c1 q1 (show j < i by omega)
                rw [htk] at ne
                rw [up_ne _ _ _ _ ne, up_off _ 21 i _ (by decide : 22 ≠ 21), up_off _ 20 i _ (by decide : 22 ≠ 20)]
                exact q4
      · have c1 := ho.mp c1
        exact E.rv rfl rfl ⟨rfl, hf, i, hp, Or.inr c1⟩
    · intro hc hf hp
      repeat (first | refine G.sx (fun _ => false) rfl rfl rfl ?_ | refine G.gox (fun _ => false) rfl rfl rfl ?_ | refine G.getx (fun _ => false) rfl rfl rfl rfl ?_)
      refine G.br rfl rfl (fun _ => ?_) (fun c1 => absurd (by decide) c1)
      exact E.rv rfl rfl ⟨rfl, hf, 12, hp, Or.inl rfl⟩
  repeat (first | refine G.sx (fun _ => false) rfl rfl rfl ?_ | refine G.gox (fun _ => false) rfl rfl rfl ?_ | refine G.getx (fun _ => false) rfl rfl rfl rfl ?_)
  refine G.put rfl rfl rfl ?_
  repeat (first | refine G.sx (fun _ => false) rfl rfl rfl ?_ | refine G.gox (fun _ => false) rfl rfl rfl ?_ | refine G.getx (fun _ => false) rfl rfl rfl rfl ?_)
  refine C.cv [] [.ref 6] rfl cw_Pl_36 (d1 := 1) (by omega) (by omega) rfl rfl rfl (c_It_all hSt (hI.fr (ks := [6]) (FrI.rf.up (by decide) 5 0) (by decide) (by decide))) (Nat.le_of_ble_eq_true rfl) (fun r h' hq => ?_)
  obtain ⟨rfl, rfl⟩ := hq
  rw [hB0]
  refine G.put rfl rfl rfl ?_
  repeat (first | refine G.sx (fun q => Nat.beq q 18) rfl rfl rfl ?_ | refine G.gox (fun q => Nat.beq q 18) rfl rfl rfl ?_ | refine G.getx (fun q => Nat.beq q 18) rfl rfl rfl rfl ?_)
  refine L 0 (by omega) _ ((FrI.rf.up (by decide) _ _).up (by decide) _ _) ⟨?_, ?_, by omega, fun j hj => by omega⟩
  · rw [up_ne _ _ _ _ (by decide), up_eq]
    rfl
  · rw [up_eq]
    rfl
theorem c_Pl_itemOfStep (hSt : StOk St) {h : Hp} {m : Nat} (hm : h.1 6 5 = nI m) (h12 : m ≤ 12) (k : Nat) (hk : k < m) : Ct l y_Pl_itemOfStep prog_6_method_3_code 2 (some .int) (rmD 1) D cls cA slC St ad [.ref 6, .int (nI k)] h (fun r h' => r = some (.int (h.1 20 (m - 1 - k))) ∧ h' = h) := by
  refine Ct.of (tl := T_Pl_itemOfStep) (by decide) tk_Pl_itemOfStep cls_ok hSt (Nat.le_of_ble_eq_true rfl) (fun V G E C => ?_)
  repeat (first | refine G.sx (fun _ => false) rfl rfl rfl ?_ | refine G.gox (fun _ => false) rfl rfl rfl ?_ | refine G.getx (fun _ => false) rfl rfl rfl rfl ?_)
  refine G.br rfl rfl (fun c1 => absurd c1 (nI_pos (by omega))) (fun _ => ?_)
  repeat (first | refine G.sx (fun _ => false) rfl rfl rfl ?_ | refine G.gox (fun _ => false) rfl rfl rfl ?_ | refine G.getx (fun _ => false) rfl rfl rfl rfl ?_)
  refine G.br rfl rfl (fun c1 => absurd c1 (by rw [hm]; exact nI_ge hk (by omega))) (fun _ => ?_)
  repeat (first | refine G.sx (fun q => Nat.beq q 24) rfl rfl rfl ?_ | refine G.gox (fun q => Nat.beq q 24) rfl rfl rfl ?_ | refine G.getx (fun q => Nat.beq q 24) rfl rfl rfl rfl ?_)
  show V 24 _ [.int (h.1 6 5 - 1 - nI k), .ref 20] _
  rw [hm, show (1 : Int32) = nI 1 from rfl, pk_sub (by omega), pk_sub (by omega)]
  refine G.ialn rfl rfl (by omega) (by decide) ?_
  repeat (first | refine G.sx (fun _ => false) rfl rfl rfl ?_ | refine G.gox (fun _ => false) rfl rfl rfl ?_ | refine G.getx (fun _ => false) rfl rfl rfl rfl ?_)
  exact E.ri rfl (Or.inl rfl) ⟨rfl, rfl⟩
theorem c_Pl_wayOfStep (hSt : StOk St) {h : Hp} {m : Nat} (hm : h.1 6 5 = nI m) (h12 : m ≤ 12) (k : Nat) (hk : k < m) : Ct l y_Pl_wayOfStep prog_6_method_4_code 2 (some .int) (rmD 1) D cls cA slC St ad [.ref 6, .int (nI k)] h (fun r h' => r = some (.int (h.1 21 (m - 1 - k))) ∧ h' = h) := by
  refine Ct.of (tl := T_Pl_wayOfStep) (by decide) tk_Pl_wayOfStep cls_ok hSt (Nat.le_of_ble_eq_true rfl) (fun V G E C => ?_)
  repeat (first | refine G.sx (fun _ => false) rfl rfl rfl ?_ | refine G.gox (fun _ => false) rfl rfl rfl ?_ | refine G.getx (fun _ => false) rfl rfl rfl rfl ?_)
  refine G.br rfl rfl (fun c1 => absurd c1 (nI_pos (by omega))) (fun _ => ?_)
  repeat (first | refine G.sx (fun _ => false) rfl rfl rfl ?_ | refine G.gox (fun _ => false) rfl rfl rfl ?_ | refine G.getx (fun _ => false) rfl rfl rfl rfl ?_)
  refine G.br rfl rfl (fun c1 => absurd c1 (by rw [hm]; exact nI_ge hk (by omega))) (fun _ => ?_)
  repeat (first | refine G.sx (fun q => Nat.beq q 24) rfl rfl rfl ?_ | refine G.gox (fun q => Nat.beq q 24) rfl rfl rfl ?_ | refine G.getx (fun q => Nat.beq q 24) rfl rfl rfl rfl ?_)
  show V 24 _ [.int (h.1 6 5 - 1 - nI k), .ref 21] _
  rw [hm, show (1 : Int32) = nI 1 from rfl, pk_sub (by omega), pk_sub (by omega)]
  refine G.ialn rfl rfl (by omega) (by decide) ?_
  repeat (first | refine G.sx (fun _ => false) rfl rfl rfl ?_ | refine G.gox (fun _ => false) rfl rfl rfl ?_ | refine G.getx (fun _ => false) rfl rfl rfl rfl ?_)
  exact E.ri rfl (Or.inl rfl) ⟨rfl, rfl⟩
/-- the first step of stage k, from step i on, with b stages begun -/
def stF (w : Nat → Int32) (k : Int32) : Nat → Nat → Int32 → Int32
  | 0, _, _ => -1
  | m + 1, i, b => if i = 0 ∨ w i ≠ w (i - 1) then (if b = k then nI i else stF w k m (i + 1) (b + 1)) else stF w k m (i + 1) b
theorem c_Pl_firstStepOfStage (hSt : StOk St) {h : Hp} {m : Nat} (hm : h.1 6 5 = nI m) (h12 : m ≤ 12) (k : Int32) : Ct l y_Pl_firstStepOfStage prog_6_method_5_code 4 (some .int) (rmD 2) D cls cA slC St ad [.ref 6, .int k] h (fun r h' => r = some (.int (stF (fun i => h.1 21 (m - 1 - i)) k m 0 0)) ∧ h' = h) := by
  generalize hw : (fun i => h.1 21 (m - 1 - i)) = w
  refine Ct.of (tl := T_Pl_firstStepOfStage) (by decide) tk_Pl_firstStepOfStage cls_ok hSt (Nat.le_of_ble_eq_true rfl) (fun V G E C => ?_)
  have L : ∀ (q i : Nat) (b : Int32), q + i = m → stF w k q i b = stF w k m 0 0 → V 4 [some (.ref 6), some (.int k), some (.int b), some (.int (nI i))] [] h := by
    intro q
    induction q with
    | zero =>
      intro i b hi e
      repeat (first | refine G.sx (fun _ => false) rfl rfl rfl ?_ | refine G.gox (fun _ => false) rfl rfl rfl ?_ | refine G.getx (fun _ => false) rfl rfl rfl rfl ?_)
      refine G.br rfl rfl (fun _ => ?_) (fun c1 => absurd (by rw [hm]; exact nI_le (by omega) (by omega)) c1)
      repeat (first | refine G.sx (fun _ => false) rfl rfl rfl ?_ | refine G.gox (fun _ => false) rfl rfl rfl ?_ | refine G.getx (fun _ => false) rfl rfl rfl rfl ?_)
      exact E.ri rfl (Or.inl rfl) ⟨by rw [← e]; rfl, rfl⟩
    | succ q ih =>
      intro i b hi e
      have yes : (i = 0 ∨ w i ≠ w (i - 1)) → V 31 [some (.ref 6), some (.int k), some (.int b), some (.int (nI i))] [] h := by
        intro hy
        repeat (first | refine G.sx (fun _ => false) rfl rfl rfl ?_ | refine G.gox (fun _ => false) rfl rfl rfl ?_ | refine G.getx (fun _ => false) rfl rfl rfl rfl ?_)
        refine G.br rfl rfl (fun c1 => ?_) (fun c1 => ?_)
        · repeat (first | refine G.sx (fun _ => false) rfl rfl rfl ?_ | refine G.gox (fun _ => false) rfl rfl rfl ?_ | refine G.getx (fun _ => false) rfl rfl rfl rfl ?_)
          refine G.go rfl ?_
          have e2 := ih (i + 1) (b + 1) (by omega) (by rw [← e]; simp only [stF]; rw [if_pos hy, if_neg c1])
          rw [← nI_1] at e2
          exact e2
        · repeat (first | refine G.sx (fun _ => false) rfl rfl rfl ?_ | refine G.gox (fun _ => false) rfl rfl rfl ?_ | refine G.getx (fun _ => false) rfl rfl rfl rfl ?_)
          exact E.ri rfl (Or.inl rfl) ⟨by rw [← e]; simp only [stF]; rw [if_pos hy, if_pos c1], rfl⟩
      repeat (first | refine G.sx (fun _ => false) rfl rfl rfl ?_ | refine G.gox (fun _ => false) rfl rfl rfl ?_ | refine G.getx (fun _ => false) rfl rfl rfl rfl ?_)
      refine G.br rfl rfl (fun c1 => absurd c1 (by rw [hm]; exact nI_ge (by omega) (by omega))) (fun _ => ?_)
      repeat (first | refine G.sx (fun _ => false) rfl rfl rfl ?_ | refine G.gox (fun _ => false) rfl rfl rfl ?_ | refine G.getx (fun _ => false) rfl rfl rfl rfl ?_)
      refine G.br rfl rfl (fun c1 => ?_) (fun c1 => ?_)
      · exact yes (Or.inl ((nI_eq (b := 0) (by omega) (by omega)).mp c1))
      · have c1 : i ≠ 0 := fun q => c1 (by rw [q]; rfl)
        repeat (first | refine G.sx (fun _ => false) rfl rfl rfl ?_ | refine G.gox (fun _ => false) rfl rfl rfl ?_ | refine G.getx (fun _ => false) rfl rfl rfl rfl ?_)
        refine C.cv [.int (nI i)] [] rfl cw_Pl_54 (d1 := 1) (by omega) (by omega) rfl rfl rfl (c_Pl_wayOfStep hSt hm h12 i (by omega)) (by decide) (fun r h' hq => ?_)
        obtain ⟨rfl, rfl⟩ := hq
        repeat (first | refine G.sx (fun _ => false) rfl rfl rfl ?_ | refine G.gox (fun _ => false) rfl rfl rfl ?_ | refine G.getx (fun _ => false) rfl rfl rfl rfl ?_)
        show V 25 _ [.int (nI i - nI 1), .ref 6, .int (h'.1 21 (m - 1 - i))] _
        rw [pk_sub (by omega)]
        refine C.cv [.int (nI (i - 1))] [.int (h'.1 21 (m - 1 - i))] rfl cw_Pl_54 (d1 := 1) (by omega) (by omega) rfl rfl rfl (c_Pl_wayOfStep hSt hm h12 (i - 1) (by omega)) (Nat.le_of_ble_eq_true rfl) (fun r h'' hq => ?_)
        obtain ⟨rfl, rfl⟩ := hq
        refine G.br rfl rfl (fun c2 => ?_) (fun c2 => ?_)
        · have hno : ¬ (i = 0 ∨ w i ≠ w (i - 1)) := by
            rintro (z | z)
            · exact c1 z
            · rw [← hw] at z
              exact z c2
          repeat (first | refine G.sx (fun _ => false) rfl rfl rfl ?_ | refine G.gox (fun _ => false) rfl rfl rfl ?_ | refine G.getx (fun _ => false) rfl rfl rfl rfl ?_)
          refine G.go rfl ?_
          have e2 := ih (i + 1) b (by omega) (by rw [← e]; simp only [stF]; rw [if_neg hno])
          rw [← nI_1] at e2
          exact e2
        · exact yes (Or.inr (by rw [← hw]; exact c2))
  repeat (first | refine G.sx (fun q => Nat.beq q 4) rfl rfl rfl ?_ | refine G.gox (fun q => Nat.beq q 4) rfl rfl rfl ?_ | refine G.getx (fun q => Nat.beq q 4) rfl rfl rfl rfl ?_)
  exact L m 0 0 rfl rfl
/-- without those of g -/
def clrS (B g : Nat) : Nat := B &&& (4095 ^^^ g)
theorem clrS_lt {B g : Nat} (hB : B < 4096) : clrS B g < 4096 := Nat.lt_of_le_of_lt Nat.and_le_left hB
theorem clrS_bit {B g j : Nat} (hB : B < 4096) : (clrS B g).testBit j = (B.testBit j && !g.testBit j) := by
  unfold clrS
  rw [Nat.testBit_and, Nat.testBit_xor]
  by_cases hj : j < 12
  · have h1 : Nat.testBit 4095 j = true := by
      rw [show 4095 = 2 ^ 12 - 1 from rfl, Nat.testBit_two_pow_sub_one]; simp [hj]
    rw [h1, Bool.true_xor]
  · have h1 : B.testBit j = false := Nat.testBit_lt_two_pow (Nat.lt_of_lt_of_le hB (by
      have : 2 ^ 12 ≤ 2 ^ j := Nat.pow_le_pow_right (by omega) (by omega)
      omega))
    simp [h1]
theorem not_g {B g : Nat} (hB : B < 4096) : nI B &&& (nI g ^^^ (-1)) = nI (clrS B g) := by
  rw [m1_bv, nI_xor, nI_and]
  congr 1
  apply Nat.eq_of_testBit_eq
  intro j
  rw [clrS_bit hB, Nat.testBit_and, Nat.testBit_xor]
  by_cases hj : j < 12
  · have h1 : Nat.testBit 4294967295 j = true := by
      rw [show 4294967295 = 2 ^ 32 - 1 from rfl, Nat.testBit_two_pow_sub_one]; simp; omega
    rw [h1, Bool.xor_true]
  · have h1 : B.testBit j = false := Nat.testBit_lt_two_pow (Nat.lt_of_lt_of_le hB (by
      have : 2 ^ 12 ≤ 2 ^ j := Nat.pow_le_pow_right (by omega) (by omega)
      omega))
    simp [h1]
/-- how many go in round k, from round r on -/
def grF (T : Nat → Nat → Nat) (nw q : Nat) (k : Int32) : Nat → Nat → Nat → Int32
  | 0, _, _ => 0
  | m + 1, r, B => if nI r = k then nI (pcN (fro T nw B q) 12) else grF T nw q k m (r + 1) (clrS B (fro T nw B q))
theorem c_Pl_goingInRound (hSt : StOk St) {h : Hp} {T : Nat → Nat → Nat} {n : Nat} {it : Nat → Nat} {nw : Nat} (hI : ItI h n it) (hn : h.1 3 0 = nI nw) (h10 : nw ≤ 10) (hT : TbI h 0 T) (hA : allB it n < 4096) (q : Nat) (hq12 : q ≤ 12) (k : Int32) : Ct l y_Pl_goingInRound prog_6_method_6_code 6 (some .int) (rmD 4) D cls cA slC St ad [.ref 6, .int (nI q), .int k] h (fun r h' => r = some (.int (grF T nw q k 12 0 (allB it n))) ∧ h' = h) := by
  generalize hB0 : allB it n = B0 at hA
  refine Ct.of (tl := T_Pl_goingInRound) (by decide) tk_Pl_goingInRound cls_ok hSt (Nat.le_of_ble_eq_true rfl) (fun V G E C => ?_)
  have L : ∀ (m r B : Nat), m + r = 12 → B < 4096 → grF T nw q k m r B = grF T nw q k 12 0 B0 → V 11 [some (.ref 6), some (.int (nI q)), some (.int k), some (.int (nI B)), some (.int (nI r)), none] [] h := by
    intro m
    induction m with
    | zero =>
      intro r B hr hB e
      repeat (first | refine G.sx (fun _ => false) rfl rfl rfl ?_ | refine G.gox (fun _ => false) rfl rfl rfl ?_ | refine G.getx (fun _ => false) rfl rfl rfl rfl ?_)
      refine G.br rfl rfl (fun _ => ?_) (fun c1 => absurd (by rw [show r = 12 by omega]; decide) c1)
      repeat (first | refine G.sx (fun _ => false) rfl rfl rfl ?_ | refine G.gox (fun _ => false) rfl rfl rfl ?_ | refine G.getx (fun _ => false) rfl rfl rfl rfl ?_)
      exact E.ri rfl (Or.inl rfl) ⟨by rw [← e]; rfl, rfl⟩
    | succ m ih =>
      intro r B hr hB e
      repeat (first | refine G.sx (fun _ => false) rfl rfl rfl ?_ | refine G.gox (fun _ => false) rfl rfl rfl ?_ | refine G.getx (fun _ => false) rfl rfl rfl rfl ?_)
      refine G.br rfl rfl (fun c1 => absurd c1 (nI_ge (b := 12) (by omega) (by omega))) (fun _ => ?_)
      repeat (first | refine G.sx (fun _ => false) rfl rfl rfl ?_ | refine G.gox (fun _ => false) rfl rfl rfl ?_ | refine G.getx (fun _ => false) rfl rfl rfl rfl ?_)
      refine C.cv [.int (nI B), .int (nI q)] [] rfl cw_Pl_42 (d1 := 3) (by omega) (by omega) rfl rfl rfl (c_Ba_freeOnes hSt hn h10 B q hB hq12 hT) (by decide) (fun r9 h' hq => ?_)
      obtain ⟨rfl, rfl⟩ := hq
      repeat (first | refine G.sx (fun _ => false) rfl rfl rfl ?_ | refine G.gox (fun _ => false) rfl rfl rfl ?_ | refine G.getx (fun _ => false) rfl rfl rfl rfl ?_)
      refine G.br rfl rfl (fun c1 => ?_) (fun c1 => ?_)
      · repeat (first | refine G.sx (fun q => Nat.beq q 47) rfl rfl rfl ?_ | refine G.gox (fun q => Nat.beq q 47) rfl rfl rfl ?_ | refine G.getx (fun q => Nat.beq q 47) rfl rfl rfl rfl ?_)
        show V 47 _ [.int (nI B &&& (nI (fro T nw B q) ^^^ (-1)))] _
        rw [not_g hB]
        repeat (first | refine G.sx (fun _ => false) rfl rfl rfl ?_ | refine G.gox (fun _ => false) rfl rfl rfl ?_ | refine G.getx (fun _ => false) rfl rfl rfl rfl ?_)
        refine G.go rfl ?_
        have e2 := ih (r + 1) (clrS B (fro T nw B q)) (by omega) (clrS_lt hB) (by rw [← e]; simp only [grF]; rw [if_neg c1])
        rw [← nI_1] at e2
        refine G.le _ ?_ e2
        repeat (first | exact leL_0 | refine leL_n ?_ | refine leL_c rfl ?_)
      · repeat (first | refine G.sx (fun _ => false) rfl rfl rfl ?_ | refine G.gox (fun _ => false) rfl rfl rfl ?_ | refine G.getx (fun _ => false) rfl rfl rfl rfl ?_)
        refine C.cs [.int (nI (fro T nw B q))] [] rfl cw_Pl_58 (d1 := 1) (by omega) (by omega) rfl (c_Ji_bitCount hSt h' _ (fro_lt T nw B q)) (by decide) (fun r9 h'' hq => ?_)
        obtain ⟨rfl, rfl⟩ := hq
        exact E.ri rfl (Or.inl rfl) ⟨by rw [← e]; simp only [grF]; rw [if_pos c1], rfl⟩
  repeat (first | refine G.sx (fun _ => false) rfl rfl rfl ?_ | refine G.gox (fun _ => false) rfl rfl rfl ?_ | refine G.getx (fun _ => false) rfl rfl rfl rfl ?_)
  refine C.cv [] [] rfl cw_Pl_36 (d1 := 1) (by omega) (by omega) rfl rfl rfl (c_It_all hSt hI) (by decide) (fun r h' hq => ?_)
  obtain ⟨rfl, rfl⟩ := hq
  rw [hB0]
  repeat (first | refine G.sx (fun q => Nat.beq q 11) rfl rfl rfl ?_ | refine G.gox (fun q => Nat.beq q 11) rfl rfl rfl ?_ | refine G.getx (fun q => Nat.beq q 11) rfl rfl rfl rfl ?_)
  exact L 12 0 B0 rfl hA rfl
end PlC
