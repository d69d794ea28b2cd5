/-! The reference: run -/
section MoI
variable {l : Launch} {D : va_G} {cA : Nat → ClassId} {ad : Nat → Nat} {St : (Nat → Prop) → State → Heap → Prop}
/-- the first of those left that has a way out -/
def frs (f : Nat → Nat → Option Nat) (n B : Nat) : Option Nat := fstN (fun k => B.testBit k && (f k B).isSome) n 0
/-- what is left behind i steps -/
def gS (f : Nat → Nat → Option Nat) (n A : Nat) : Nat → Nat
  | 0 => A
  | i + 1 => match frs f n (gS f n A i) with
    | none => gS f n A i
    | some k => clr (gS f n A i) k
def gT (f : Nat → Nat → Option Nat) (n A i : Nat) : Nat := (frs f n (gS f n A i)).getD 0
theorem frs_some {f : Nat → Nat → Option Nat} {n B k : Nat} (h : frs f n B = some k) : k < n ∧ B.testBit k = true ∧ (f k B).isSome = true := by
  obtain ⟨h1, h2, h3, -⟩ := fstN_some h
  rw [Bool.and_eq_true] at h3
  exact ⟨by omega, h3.1, h3.2⟩
theorem gS_lt {f : Nat → Nat → Option Nat} {n A : Nat} (hA : A < 4096) : ∀ i, gS f n A i < 4096
  | 0 => hA
  | i + 1 => by
    unfold gS
    split
    · exact gS_lt hA i
    · exact clr_lt (gS_lt hA i)
theorem clr_xor {B k : Nat} (hB : B < 4096) (hk : k < 12) (hb : B.testBit k = true) : B ^^^ 2 ^ k = clr B k := by
  apply Nat.eq_of_testBit_eq
  intro j
  rw [clr_bit hB hk, Nat.testBit_xor, Nat.testBit_two_pow]
  by_cases e : k = j
  · subst e; simp [hb]
  · simp [e, Ne.symm e]
/-- the record of a run, m steps long; g0 is the heap where it began -/
def RnI (g0 h : Hp) (f : Nat → Nat → Option Nat) (n A m : Nat) : Prop := h.2 = g0.2 ∧ (∀ k, k ∉ [0, 10, 11] → h.1 k = g0.1 k) ∧ (∀ q, q ∉ [15, 18] → h.1 0 q = g0.1 0 q) ∧ h.1 0 15 = nI m ∧ h.1 0 18 = nI (gS f n A m) ∧ ∀ i, i < m → frs f n (gS f n A i) ≠ none ∧ h.1 10 i = nI (gT f n A i) ∧ h.1 11 i = oI (f (gT f n A i) (gS f n A i))
theorem oI_ge {r : Option Nat} (h : ∀ k, r = some k → k < 2 ^ 31) : oI r < 0 ↔ r = none := by
  cases r with
  | none => simp [oI]
  | some k => simpa [oI] using nI_pos (h k rfl)
theorem woM_lt {bf : Nat → Nat → Nat} {it : Nat → Nat} {n nw i B k : Nat} (h : woM bf it n nw i B = some k) : k < nw := by
  obtain ⟨h1, h2, -⟩ := fstN_some h
  omega
/-- what a run leaves -/
def MRun (g g' : Hp) (f : Nat → Nat → Option Nat) (n A m : Nat) : Prop := g'.2 = (std g).2 ∧ (∀ k, k ∉ [0, 9, 10, 11] → g'.1 k = g.1 k) ∧ (∀ q, q ∉ [0, 14, 15, 18] → g'.1 0 q = g.1 0 q) ∧ g'.1 0 0 = 0 ∧ g'.1 0 14 = 1 ∧ g'.1 0 15 = nI m ∧ g'.1 0 18 = nI (gS f n A m) ∧ ∀ i, i < m → frs f n (gS f n A i) ≠ none ∧ g'.1 10 i = nI (gT f n A i) ∧ g'.1 11 i = oI (f (gT f n A i) (gS f n A i))
theorem sub1 (x : Int32) : x - 1 = x + -1 := Int32.sub_eq_add_neg x 1
set_option maxHeartbeats 1000000 in
theorem c_Mo_run (hSt : StOk St) {g : Hp} {n : Nat} {it : Nat → Nat} (hI : GrI g n it) {nb : Nat} {own : Nat → Nat} (hO : OwI g nb own) {ns : Nat} (hs : g.1 0 5 = nI ns) (h4 : ns ≤ 4) (hA : aiM it n < 4096) {bf : Nat → Nat → Nat} (hbf : bf = fun p w => bfM own nb (fun a b => swM (std g) own a b w) p) {f : Nat → Nat → Option Nat} (hff : f = woM bf it n (6 + ns)) : Ct l y_Mo_run prog_11_method_23_code 4 (some .int) (rmD 5) D cls cA slM St ad [.ref 0] g (fun r g' => ∃ m, m ≤ 12 ∧ frs f n (gS f n (aiM it n) m) = none ∧ MRun g g' f n (aiM it n) m ∧ r = some (.int (if gS f n (aiM it n) m = 0 then nI m else 0))) := by
  have hb12 : ∀ p w, bf p w < 4096 := fun p w => by rw [hbf]; exact bfM_lt _ _ _ _
  have n12 := hI.2.1
  have hfl : ∀ k B w, f k B = some w → w < 2 ^ 31 := fun k B w e => by
    rw [hff] at e
    have := woM_lt e
    omega
  generalize hAA : aiM it n = A at hA
  refine Ct.of (tl := T_Mo_run) (by decide) tk_Mo_run cls_ok hSt (Nat.le_of_ble_eq_true rfl) (fun V G E C => ?_)
  repeat (first | refine G.sx (fun _ => false) rfl rfl rfl ?_ | refine G.gox (fun _ => false) rfl rfl rfl ?_ | refine G.getx (fun _ => false) rfl rfl rfl rfl ?_)
  refine G.put rfl rfl rfl ?_
  repeat (first | refine G.sx (fun _ => false) rfl rfl rfl ?_ | refine G.gox (fun _ => false) rfl rfl rfl ?_ | refine G.getx (fun _ => false) rfl rfl rfl rfl ?_)
  refine C.cv [] [] rfl cw_Mo_95 (d1 := 1) (by omega) (by omega) rfl rfl rfl (c_Mo_stand hSt (upI g 0 0 0)) (by decide) (fun r h1 hq => ?_)
  obtain ⟨rfl, rfl⟩ := hq
  repeat (first | refine G.sx (fun _ => false) rfl rfl rfl ?_ | refine G.gox (fun _ => false) rfl rfl rfl ?_ | refine G.getx (fun _ => false) rfl rfl rfl rfl ?_)
  refine C.cv [] [] rfl cw_Mo_109 (d1 := 4) (by omega) (by omega) rfl rfl rfl (c_Mo_reckonBars hSt (g := std (upI g 0 0 0)) (n := n) (by show (upI g 0 0 0).1 0 1 = nI n; rw [up_ne _ _ _ _ (by decide)]; exact hI.1) n12 (nb := nb) (own := own) (OwI.stL (hO.up0 (by decide))) (ns := ns) (by show (upI g 0 0 0).1 0 5 = nI ns; rw [up_ne _ _ _ _ (by decide)]; exact hs) h4) (by decide) (fun r h1 hq => ?_)
  obtain ⟨rfl, f9, rfl, hB9⟩ := hq
  have hB9 : BrF f9 n (6 + ns) bf := by rw [hbf]; exact hB9
  repeat (first | refine G.sx (fun _ => false) rfl rfl rfl ?_ | refine G.gox (fun _ => false) rfl rfl rfl ?_ | refine G.getx (fun _ => false) rfl rfl rfl rfl ?_)
  refine G.put rfl rfl rfl ?_
  generalize hk0 : upI (setI (std (upI g 0 0 0)) 9 f9) 0 15 0 = k0
  have k2 : k0.2 = (std g).2 := by rw [← hk0]; rfl
  have k1 : ∀ q, q ≠ 0 → q ≠ 9 → k0.1 q = g.1 q := fun q a b => by
    rw [← hk0, up_off _ _ _ _ a, setI_ne _ _ b]
    exact up_off _ _ _ _ a
  have k9 : k0.1 9 = f9 := by rw [← hk0, up_off _ _ _ _ (by decide), setI_at]
  have k00 : ∀ q, q ≠ 0 → q ≠ 15 → k0.1 0 q = g.1 0 q := fun q a b => by
    rw [← hk0, up_ne _ _ _ _ b, setI_ne _ _ (by decide)]
    show (upI g 0 0 0).1 0 q = _
    exact up_ne _ _ _ _ a
  have k0c : k0.1 0 0 = 0 := by
    rw [← hk0, up_ne _ _ _ _ (by decide), setI_ne _ _ (by decide)]
    show (upI g 0 0 0).1 0 0 = 0
    exact up_eq _ _ _ _
  have k15 : k0.1 0 15 = 0 := by rw [← hk0, up_eq]
  have hIk : GrI k0 n it := ⟨by rw [k00 1 (by decide) (by decide)]; exact hI.1, n12, fun i hi => by rw [k1 4 (by decide) (by decide)]; exact hI.2.2 i hi⟩
  repeat (first | refine G.sx (fun _ => false) rfl rfl rfl ?_ | refine G.gox (fun _ => false) rfl rfl rfl ?_ | refine G.getx (fun _ => false) rfl rfl rfl rfl ?_)
  refine C.cv [] [.ref 0] rfl cw_Mo_115 (d1 := 2) (by omega) (by omega) rfl rfl rfl (c_Mo_allItems hSt hIk) (by decide) (fun r h1 hq => ?_)
  obtain ⟨rfl, rfl⟩ := hq
  rw [hAA]
  refine G.put rfl rfl rfl ?_
  have Fin : ∀ j h, j ≤ 12 → RnI h1 h f n A j → frs f n (gS f n A j) = none → ∀ o2 o3, V 28 [some (.ref 0), some (.int 0), o2, o3] [] h := by
    intro j h j12 hR hfr o2 o3
    obtain ⟨a1, a2, a3, a4, a5, a6⟩ := hR
    repeat (first | refine G.sx (fun _ => false) rfl rfl rfl ?_ | refine G.gox (fun _ => false) rfl rfl rfl ?_ | refine G.getx (fun _ => false) rfl rfl rfl rfl ?_)
    refine G.br rfl rfl (fun _ => ?_) (fun c1 => absurd rfl c1)
    repeat (first | refine G.sx (fun _ => false) rfl rfl rfl ?_ | refine G.gox (fun _ => false) rfl rfl rfl ?_ | refine G.getx (fun _ => false) rfl rfl rfl rfl ?_)
    refine G.putz rfl rfl rfl (Or.inr rfl) ?_
    have M : MRun g (upI h 0 14 1) f n A j := by
      refine ⟨?_, fun k hk => ?_, fun q hq => ?_, ?_, up_eq _ _ _ _, ?_, ?_, fun i hi => ?_⟩
      · show h.2 = _
        rw [a1, k2]
      · simp only [List.mem_cons, List.not_mem_nil, or_false, not_or] at hk
        rw [up_off _ _ _ _ hk.1, a2 k (by simp; omega), k1 k hk.1 hk.2.1]
      · simp only [List.mem_cons, List.not_mem_nil, or_false, not_or] at hq
        rw [up_ne _ _ _ _ hq.2.1, a3 q (by simp; omega), k00 q hq.1 hq.2.2.1]
      · rw [up_ne _ _ _ _ (by decide), a3 0 (by decide), k0c]
      · rw [up_ne _ _ _ _ (by decide), a4]
      · rw [up_ne _ _ _ _ (by decide), a5]
      · rw [up_off _ _ _ _ (by decide), up_off _ _ _ _ (by decide)]
        exact a6 i hi
    have e18 : (upI h 0 14 1).1 0 18 = nI (gS f n A j) := M.2.2.2.2.2.2.1
    have gl := gS_lt (f := f) (n := n) hA j
    repeat (first | refine G.sx (fun _ => false) rfl rfl rfl ?_ | refine G.gox (fun _ => false) rfl rfl rfl ?_ | refine G.getx (fun _ => false) rfl rfl rfl rfl ?_)
    refine G.br rfl rfl (fun c2 => ?_) (fun c2 => ?_)
    · rw [e18] at c2
      repeat (first | refine G.sx (fun _ => false) rfl rfl rfl ?_ | refine G.gox (fun _ => false) rfl rfl rfl ?_ | refine G.getx (fun _ => false) rfl rfl rfl rfl ?_)
      refine E.ri rfl (Or.inl rfl) ⟨j, j12, hfr, M, ?_⟩
      rw [if_neg (fun q => c2 (by rw [q]; rfl))]
    · rw [e18] at c2
      have c2 : gS f n A j = 0 := (nI_eq (b := 0) (by omega) (by omega)).mp c2
      repeat (first | refine G.sx (fun q => Nat.beq q 167) rfl rfl rfl ?_ | refine G.gox (fun q => Nat.beq q 167) rfl rfl rfl ?_ | refine G.getx (fun q => Nat.beq q 167) rfl rfl rfl rfl ?_)
      show V 167 _ [.int ((upI h 0 14 1).1 0 15)] _
      rw [M.2.2.2.2.2.1]
      refine E.ri rfl (Or.inl rfl) ⟨j, j12, hfr, M, ?_⟩
      rw [if_pos c2]
  have Lp : ∀ fuel j h, RnI h1 h f n A j → pcN (gS f n A j) 12 < fuel → j + pcN (gS f n A j) 12 ≤ 12 → ∀ o2 o3, V 28 [some (.ref 0), some (.int 1), o2, o3] [] h := by
    intro fuel
    induction fuel with
    | zero => intro j h _ hz; omega
    | succ fuel ih =>
      intro j h hR hpc hj12 o2 o3
      obtain ⟨a1, a2, a3, a4, a5, a6⟩ := id hR
      have gl := gS_lt (f := f) (n := n) hA j
      generalize hBB : gS f n A j = B at *
      have hIh : GrI h n it := ⟨by rw [a3 1 (by decide)]; exact hIk.1, n12, fun i hi => by rw [a2 4 (by decide)]; exact hIk.2.2 i hi⟩
      have h5 : h.1 0 5 = nI ns := by rw [a3 5 (by decide), k00 5 (by decide) (by decide)]; exact hs
      have h9 : BrF (h.1 9) n (6 + ns) bf := by rw [a2 9 (by decide), k9]; exact hB9
      have hfr0 : frs f n (gS f n A j) = frs f n B := by rw [hBB]
      have F80 : ∀ o3, V 80 [some (.ref 0), some (.int 1), some (.int (oI (frs f n B))), o3] [] h := by
        intro o3
        cases e : frs f n B with
        | none =>
          repeat (first | refine G.sx (fun _ => false) rfl rfl rfl ?_ | refine G.gox (fun _ => false) rfl rfl rfl ?_ | refine G.getx (fun _ => false) rfl rfl rfl rfl ?_)
          refine G.br rfl rfl (fun _ => ?_) (fun c1 => absurd (by decide) c1)
          repeat (first | refine G.sx (fun _ => false) rfl rfl rfl ?_ | refine G.gox (fun _ => false) rfl rfl rfl ?_ | refine G.getx (fun _ => false) rfl rfl rfl rfl ?_)
          refine G.br rfl rfl (fun _ => ?_) (fun c1 => absurd rfl c1)
          refine G.go rfl ?_
          exact Fin j h (by omega) hR (by rw [hBB]; exact e) _ _
        | some k =>
          obtain ⟨s1, s2, s3⟩ := frs_some e
          have hpk := pcN_clr gl (show k < 12 by omega) s2 12
          rw [if_pos (show k < 12 by omega)] at hpk
          have hnx : gS f n A (j + 1) = clr B k := by
            show (match frs f n (gS f n A j) with | none => gS f n A j | some k => clr (gS f n A j) k) = _
            rw [hBB, e]
          have htk : gT f n A j = k := by unfold gT; rw [hBB, e]; rfl
          repeat (first | refine G.sx (fun _ => false) rfl rfl rfl ?_ | refine G.gox (fun _ => false) rfl rfl rfl ?_ | refine G.getx (fun _ => false) rfl rfl rfl rfl ?_)
          refine G.br rfl rfl (fun c1 => absurd c1 (nI_pos (by omega))) (fun _ => ?_)
          repeat (first | refine G.sx (fun _ => false) rfl rfl rfl ?_ | refine G.gox (fun _ => false) rfl rfl rfl ?_ | refine G.getx (fun _ => false) rfl rfl rfl rfl ?_)
          refine G.br rfl rfl (fun c1 => absurd c1 (by decide)) (fun _ => ?_)
          repeat (first | refine G.sx (fun q => Nat.beq q 103) rfl rfl rfl ?_ | refine G.gox (fun q => Nat.beq q 103) rfl rfl rfl ?_ | refine G.getx (fun q => Nat.beq q 103) rfl rfl rfl rfl ?_)
          show V 103 _ [.int (nI k), .int (h.1 0 15), .ref 10] _
          rw [a4]
          refine G.iasn rfl rfl (by omega) (by decide) ?_
          have e15 : (upI h 10 j (nI k)).1 0 15 = nI j := by rw [up_off _ _ _ _ (by decide)]; exact a4
          have e18 : (upI h 10 j (nI k)).1 0 18 = nI B := by rw [up_off _ _ _ _ (by decide)]; exact a5
          repeat (first | refine G.sx (fun q => Nat.beq q 118) rfl rfl rfl ?_ | refine G.gox (fun q => Nat.beq q 118) rfl rfl rfl ?_ | refine G.getx (fun q => Nat.beq q 118) rfl rfl rfl rfl ?_)
          show V 118 _ [.int ((upI h 10 j (nI k)).1 0 18), .int (nI k), .ref 0, .int ((upI h 10 j (nI k)).1 0 15), .ref 11] _
          rw [e15, e18]
          refine C.cv [.int (nI k), .int (nI B)] [.int (nI j), .ref 11] rfl cw_Mo_126 (d1 := 3) (by omega) (by omega) rfl rfl rfl (c_Mo_wayOut hSt (g := upI h 10 j (nI k)) (n := n) (it := it) ⟨by rw [up_off _ _ _ _ (by decide)]; exact hIh.1, n12, fun i hi => by rw [up_off _ _ _ _ (by decide)]; exact hIh.2.2 i hi⟩ (ns := ns) (by rw [up_off _ _ _ _ (by decide)]; exact h5) h4 (bf := bf) (by rw [up_off _ _ _ _ (by decide)]; exact h9) hb12 k B (by omega) gl) (Nat.le_of_ble_eq_true rfl) (fun r h2 hq => ?_)
          obtain ⟨rfl, rfl⟩ := hq
          rw [← hff]
          refine G.iasn rfl rfl (by omega) (by decide) ?_
          have e15 : (upI (upI h 10 j (nI k)) 11 j (oI (f k B))).1 0 15 = nI j := by rw [up_off _ _ _ _ (by decide)]; exact e15
          repeat (first | refine G.sx (fun q => Nat.beq q 129) rfl rfl rfl ?_ | refine G.gox (fun q => Nat.beq q 129) rfl rfl rfl ?_ | refine G.getx (fun q => Nat.beq q 129) rfl rfl rfl rfl ?_)
          show V 129 _ [.int ((upI (upI h 10 j (nI k)) 11 j (oI (f k B))).1 0 15 + 1), .ref 0] _
          rw [e15, nI_1]
          refine G.put rfl rfl rfl ?_
          have e18 : (upI (upI (upI h 10 j (nI k)) 11 j (oI (f k B))) 0 15 (nI (j + 1))).1 0 18 = nI B := by rw [up_ne _ _ _ _ (by decide), up_off _ _ _ _ (by decide)]; exact e18
          repeat (first | refine G.sx (fun q => Nat.beq q 141) rfl rfl rfl ?_ | refine G.gox (fun q => Nat.beq q 141) rfl rfl rfl ?_ | refine G.getx (fun q => Nat.beq q 141) rfl rfl rfl rfl ?_)
          show V 141 _ [.int ((upI (upI (upI h 10 j (nI k)) 11 j (oI (f k B))) 0 15 (nI (j + 1))).1 0 18 ^^^ (1 : Int32) <<< (nI k &&& 31)), .ref 0] _
          rw [e18, one_shl (by omega), nI_xor, clr_xor gl (by omega) s2]
          refine G.put rfl rfl rfl ?_
          refine G.go rfl ?_
          refine ih (j + 1) _ ⟨?_, fun q hq => ?_, fun q hq => ?_, ?_, ?_, fun i hi => ?_⟩ (by rw [hnx]; omega) (by rw [hnx]; omega) _ _
          · exact a1
          · simp only [List.mem_cons, List.not_mem_nil, or_false, not_or] at hq
            rw [up_off _ _ _ _ hq.1, up_off _ _ _ _ hq.1, up_off _ _ _ _ hq.2.2, up_off _ _ _ _ hq.2.1]
            exact a2 q (by simp; omega)
          · simp only [List.mem_cons, List.not_mem_nil, or_false, not_or] at hq
            rw [up_ne _ _ _ _ hq.2, up_ne _ _ _ _ hq.1, up_off _ _ _ _ (by decide), up_off _ _ _ _ (by decide)]
            exact a3 q (by simp; omega)
          · rw [up_ne _ _ _ _ (by decide), up_eq]
          · rw [up_eq, hnx]
          · have E10 : ∀ q, (upI (upI (upI (upI h 10 j (nI k)) 11 j (oI (f k B))) 0 15 (nI (j + 1))) 0 18 (nI (clr B k))).1 10 q = (upI h 10 j (nI k)).1 10 q := fun q => by rw [up_off _ _ _ _ (by decide), up_off _ _ _ _ (by decide), up_off _ _ _ _ (by decide)]
            have E11 : ∀ q, (upI (upI (upI (upI h 10 j (nI k)) 11 j (oI (f k B))) 0 15 (nI (j + 1))) 0 18 (nI (clr B k))).1 11 q = (upI (upI h 10 j (nI k)) 11 j (oI (f k B))).1 11 q := fun q => by rw [up_off _ _ _ _ (by decide), up_off _ _ _ _ (by decide)]
            rw [E10, E11]
            by_cases ei : i = j
            · subst ei
              rw [up_eq, up_eq, htk, hBB, e]
              exact ⟨by simp, rfl, rfl⟩
            · rw [up_ne _ _ _ _ ei, up_ne _ _ _ _ ei, up_off _ _ _ _ (by decide)]
              exact a6 i (by omega)
      have LI : ∀ k, k ≤ n → ∀ x : Int32, x = nI k + -1 → V 41 [some (.ref 0), some (.int 1), some (.int (oI (fstN (fun k => B.testBit k && (f k B).isSome) (n - k) k))), some (.int x)] [] h := by
        intro k
        induction k with
        | zero =>
          intro _ x hx
          repeat (first | refine G.sx (fun _ => false) rfl rfl rfl ?_ | refine G.gox (fun _ => false) rfl rfl rfl ?_ | refine G.getx (fun _ => false) rfl rfl rfl rfl ?_)
          refine G.br rfl rfl (fun _ => ?_) (fun c1 => absurd (by rw [hx]; decide) c1)
          exact F80 _
        | succ k ihk =>
          intro hk x hx
          rw [nI_m1] at hx
          subst hx
          have i1 := ihk (by omega) _ rfl
          rw [show n - k = (n - (k + 1)) + 1 by omega] at i1
          simp only [fstN] at i1
          have Z0 : (B.testBit k && (f k B).isSome) = false → V 72 [some (.ref 0), some (.int 1), some (.int (oI (fstN (fun k => B.testBit k && (f k B).isSome) (n - (k + 1)) (k + 1)))), some (.int (nI k))] [] h := by
            intro e
            rw [if_neg (by rw [e]; decide)] at i1
            repeat (first | refine G.sx (fun _ => false) rfl rfl rfl ?_ | refine G.gox (fun _ => false) rfl rfl rfl ?_ | refine G.getx (fun _ => false) rfl rfl rfl rfl ?_)
            refine G.go rfl ?_
            exact i1
          repeat (first | refine G.sx (fun _ => false) rfl rfl rfl ?_ | refine G.gox (fun _ => false) rfl rfl rfl ?_ | refine G.getx (fun _ => false) rfl rfl rfl rfl ?_)
          refine G.br rfl rfl (fun c1 => absurd c1 (nI_pos (by omega))) (fun _ => ?_)
          repeat (first | refine G.sx (fun q => Nat.beq q 50) rfl rfl rfl ?_ | refine G.gox (fun q => Nat.beq q 50) rfl rfl rfl ?_ | refine G.getx (fun q => Nat.beq q 50) rfl rfl rfl rfl ?_)
          show V 50 _ [.int (nI k), .int (h.1 0 18)] _
          rw [a5]
          refine C.cs [.int (nI B), .int (nI k)] [] rfl cw_Mo_122 (d1 := 1) (by omega) (by omega) rfl (c_Mo_has hSt h B k (by omega) (by omega)) (by decide) (fun r h2 hq => ?_)
          obtain ⟨rfl, rfl⟩ := hq
          refine G.br rfl rfl (fun c2 => Z0 (by have := i01.mp c2; simp [this])) (fun c2 => ?_)
          have c2 : B.testBit k = true := Decidable.not_not.mp (fun q => c2 (i01.mpr q))
          repeat (first | refine G.sx (fun q => Nat.beq q 62) rfl rfl rfl ?_ | refine G.gox (fun q => Nat.beq q 62) rfl rfl rfl ?_ | refine G.getx (fun q => Nat.beq q 62) rfl rfl rfl rfl ?_)
          show V 62 _ [.int (h2.1 0 18), .int (nI k), .ref 0] _
          rw [a5]
          refine C.cv [.int (nI k), .int (nI B)] [] rfl cw_Mo_126 (d1 := 3) (by omega) (by omega) rfl rfl rfl (c_Mo_wayOut hSt hIh h5 h4 h9 hb12 k B (by omega) gl) (by decide) (fun r h3 hq => ?_)
          obtain ⟨rfl, rfl⟩ := hq
          rw [← hff]
          refine G.br rfl rfl (fun c3 => ?_) (fun c3 => ?_)
          · have c3 : f k B = none := (oI_ge (fun w e => hfl k B w e)).mp c3
            exact Z0 (by simp [c3])
          · have c3 : (f k B).isSome = true := by
              cases e : f k B with
              | none => exact absurd ((oI_ge (fun w e => hfl k B w e)).mpr e) c3
              | some w => rfl
            rw [if_pos (by rw [c2, c3]; rfl)] at i1
            repeat (first | refine G.sx (fun _ => false) rfl rfl rfl ?_ | refine G.gox (fun _ => false) rfl rfl rfl ?_ | refine G.getx (fun _ => false) rfl rfl rfl rfl ?_)
            refine G.go rfl ?_
            exact i1
      repeat (first | refine G.sx (fun _ => false) rfl rfl rfl ?_ | refine G.gox (fun _ => false) rfl rfl rfl ?_ | refine G.getx (fun _ => false) rfl rfl rfl rfl ?_)
      refine G.br rfl rfl (fun c1 => absurd c1 (by decide)) (fun _ => ?_)
      repeat (first | refine G.sx (fun q => Nat.beq q 40) rfl rfl rfl ?_ | refine G.gox (fun q => Nat.beq q 40) rfl rfl rfl ?_ | refine G.getx (fun q => Nat.beq q 40) rfl rfl rfl rfl ?_)
      show V 40 _ [.int (h.1 0 1 - 1)] _
      rw [hIh.1, sub1]
      repeat (first | refine G.sx (fun q => Nat.beq q 41) rfl rfl rfl ?_ | refine G.gox (fun q => Nat.beq q 41) rfl rfl rfl ?_ | refine G.getx (fun q => Nat.beq q 41) rfl rfl rfl rfl ?_)
      have L0 := LI n (Nat.le_refl _) _ rfl
      rw [Nat.sub_self] at L0
      exact L0
  repeat (first | refine G.sx (fun q => Nat.beq q 28) rfl rfl rfl ?_ | refine G.gox (fun q => Nat.beq q 28) rfl rfl rfl ?_ | refine G.getx (fun q => Nat.beq q 28) rfl rfl rfl rfl ?_)
  refine Lp (pcN (gS f n A 0) 12 + 1) 0 (upI h1 0 18 (nI A)) ⟨rfl, fun q hq => ?_, fun q hq => ?_, ?_, ?_, fun i hi => absurd hi (by omega)⟩ (by omega) (by have := pcN_le (gS f n A 0) 12; omega) _ _
  · simp only [List.mem_cons, List.not_mem_nil, or_false, not_or] at hq
    rw [up_off _ _ _ _ hq.1]
  · simp only [List.mem_cons, List.not_mem_nil, or_false, not_or] at hq
    rw [up_ne _ _ _ _ hq.2]
  · rw [up_ne _ _ _ _ (by decide), k15]
    rfl
  · rw [up_eq]
    rfl
end MoI
