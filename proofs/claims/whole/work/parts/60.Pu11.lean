/-! What each call keeps: run and what asks what it found -/
section PuK
theorem RlD.base {h h' g g' : Hp} {n : Nat} {it : Nat → Nat} {nb : Nat} {own : Nat → Nat} {ns ng : Nat} {ga gb : Nat → Nat} (hR : RlD h g n it nb own ns ng ga gb) (hf : FrR h h') (g0 : ∀ q, q ∉ [0, 14, 15, 18] → g'.1 0 q = g.1 0 q) (g1 : ∀ k, k ∉ [0, 9, 10, 11] → g'.1 k = g.1 k) (s3 : g'.2 2 = g.2 2) (s4 : g'.2 3 = g.2 3) (hn : RnE h' g' n it nb own ns) : RlD h' g' n it nb own ns ng ga gb := by
  obtain ⟨a, ⟨⟨b1, b2, b3⟩, ⟨c1, c2, c3⟩, d1, d2⟩, e, ⟨f1, f2, f3⟩, ⟨k1, k2⟩, ⟨⟨l1, l1', l1''⟩, ⟨l2, l3, l4⟩, l5⟩, -⟩ := hR
  have t1 := g1 1 (by decide)
  have t4 := g1 4 (by decide)
  have t5 := g1 5 (by decide)
  have t6 := g1 6 (by decide)
  have t7 := g1 7 (by decide)
  refine ⟨BV.frR a hf, ⟨⟨by rw [g0 1 (by decide)]; exact b1, b2, fun i hi => by rw [t4]; exact b3 i hi⟩, ⟨by rw [g0 2 (by decide)]; exact c1, c2, fun i hi => by rw [t1]; exact c3 i hi⟩, by rw [g0 5 (by decide)]; exact d1, d2⟩, e, ⟨fun a x ha hx => ?_, fun w x hw hx => ?_, fun x hx => ?_⟩, ⟨fun q x h1 h2 h3 => ?_, fun w x hw hx => ?_⟩, ⟨⟨?_, l1', fun i hi => ?_⟩, ⟨by rw [g0 8 (by decide)]; exact l2, l3, fun i hi => by rw [t5, t6]; exact l4 i hi⟩, fun i hi => ?_⟩, hn⟩
  · rw [hf.1 (26 + x) (by omega), hf.1 (29 + x) (by omega), s3]; exact f1 a x ha hx
  · rw [hf.1 (32 + x) (by omega), s4]; exact f2 w x hw hx
  · rw [hf.1 (32 + x) (by omega)]; exact f3 x hx
  · rw [hf.1 (35 + x) (by omega)]; exact k1 q x h1 h2 h3
  · rw [hf.1 (32 + x) (by omega)]; exact k2 w x hw hx
  · rw [hf.2 4 (by decide) (by decide)]; exact l1
  · rw [hf.2 14 (by decide) (by decide), hf.2 15 (by decide) (by decide)]; exact l1'' i hi
  · rw [hf.2 16 (by decide) (by decide), t7]; exact l5 i hi
theorem sx_0 : sx (0 - 0) = 0 := by decide +kernel
theorem RlD.sw {h g : Hp} {n : Nat} {it : Nat → Nat} {nb : Nat} {own : Nat → Nat} {ns ng : Nat} {ga gb : Nat → Nat} (hR : RlD h g n it nb own ns ng ga gb) {a b w : Nat} (ha : a < nb) (hb : b < nb) (hw : w < 6 + ns) : swM (std g) own a b w = mtB h 0 w a b := by
  obtain ⟨⟨⟨⟨a1, a2, a3⟩, ⟨b1, b2, b3⟩, c9, d1, d2, d3⟩, sh, mz⟩, -, id, hN, ⟨s1, s2⟩, -, -⟩ := hR
  have hN' : NmE h (std g) nb (6 + ns) := by
    obtain ⟨n1, n2, n3⟩ := hN
    have e2 : (std g).2 2 = g.2 2 := setL_ne g _ (by decide)
    have e3 : (std g).2 3 = g.2 3 := setL_ne g _ (by decide)
    exact ⟨fun a x ha hx => by rw [e2]; exact n1 a x ha hx, fun w x hw hx => by rw [e3]; exact n2 w x hw hx, n3⟩
  have hD : MvD 0 n (fun _ => 0) (fun _ _ => 0) := ⟨0, 0, 0, 0, false, false, by omega, by omega, fun _ => rfl, fun _ => rfl, fun j hj => ⟨rfl, fun x hx => rfl⟩⟩
  have hV : MvE h (std g) n it (fun _ => 0) (fun _ _ => 0) := hD.e s1 (fun p x hp hx => by
    have e8 : (std g).2 8 = fun j => if j < 36 then 0 else g.2 8 j := setL_at g 8 _
    rw [e8]
    show (if 3 * p + x < 36 then (0 : Int64) else _) = 0
    rw [if_pos (by omega)])
  have := sw_mt hN' hV (fun p hp => (a3 p hp).2) c9 ha hb hw
  rw [sx_0] at this
  exact this
theorem RlD.TF {h g : Hp} {n : Nat} {it : Nat → Nat} {nb : Nat} {own : Nat → Nat} {ns ng : Nat} {ga gb : Nat → Nat} (hR : RlD h g n it nb own ns ng ga gb) {w i : Nat} (hw : w < 6 + ns) : TF (fun w a b => swM (std g) own a b w) it own nb (6 + ns) w i = TC h it nb own (6 + ns) w i := TF_congr (fun a b ha hb _ _ _ => hR.sw ha hb hw)
theorem RlD.fr {h g : Hp} {n : Nat} {it : Nat → Nat} {nb : Nat} {own : Nat → Nat} {ns ng : Nat} {ga gb : Nat → Nat} (hR : RlD h g n it nb own ns ng ga gb) : FrE (ifM (fun p w => bfM own nb (fun a b => swM (std g) own a b w) p) it n) (TC h it nb own (6 + ns)) (6 + ns) := by
  intro i w B hi hw hB
  rw [ifM_TF (M := fun w a b => swM (std g) own a b w) hR.1.1.1.2.1 (fun p hp => (hR.1.1.1.2.2 p hp).2) hR.1.1.2.2.1 hw hi hB, hR.TF hw]
theorem RlD.lf {h g : Hp} {n : Nat} {it : Nat → Nat} {nb : Nat} {own : Nat → Nat} {ns ng : Nat} {ga gb : Nat → Nat} (hR : RlD h g n it nb own ns ng ga gb) : LfE (woG (std g) n it nb own ns) (TC h it nb own (6 + ns)) (6 + ns) := by
  intro i B hi hB
  unfold woG woM lfw
  exact fstN_ext (fun w _ hw => hR.fr i w B hi (by omega) hB)
theorem RlD.A {h g : Hp} {n : Nat} {it : Nat → Nat} {nb : Nat} {own : Nat → Nat} {ns ng : Nat} {ga gb : Nat → Nat} (hR : RlD h g n it nb own ns ng ga gb) : aiM it n = allB it n ∧ allB it n < 4096 ∧ ∀ j, (allB it n).testBit j = true → j < n := by
  have hle := fun p hp => (hR.1.1.1.2.2 p hp).2
  have e := aiM_allB hR.2.2.1 hle
  refine ⟨e, ?_, fun j hj => ?_⟩
  · rw [← e]; exact aiM_lt n hR.1.1.1.2.1
  · rw [← e, aiM_bit] at hj
    exact hj.1
theorem RlD.ran {h g : Hp} {n : Nat} {it : Nat → Nat} {nb : Nat} {own : Nat → Nat} {ns ng : Nat} {ga gb : Nat → Nat} (hR : RlD h g n it nb own ns ng ga gb) : h.1 0 8 = 0 ↔ g.1 0 14 = 0 := by
  rcases hR.2.2.2.2.2.2.1 with ⟨a, b⟩ | ⟨a, b, -⟩
  · rw [a, b]
  · rw [a, b]
/-- what is found behind a run -/
theorem RlD.run {h g : Hp} {n : Nat} {it : Nat → Nat} {nb : Nat} {own : Nat → Nat} {ns ng : Nat} {ga gb : Nat → Nat} (hR : RlD h g n it nb own ns ng ga gb) (h8 : ¬ h.1 0 8 = 0) : ∃ m, PlI h (TC h it nb own (6 + ns)) (6 + ns) (allB it n) m ∧ (m = 12 ∨ fstI (TC h it nb own (6 + ns)) (6 + ns) (plS (TC h it nb own (6 + ns)) (6 + ns) (allB it n) m) = none) ∧ MgI g (TC h it nb own (6 + ns)) (6 + ns) (allB it n) m := by
  rcases hR.2.2.2.2.2.2.1 with ⟨a, b⟩ | ⟨a, b, c, m, d1, d2, d3⟩
  · exact absurd a h8
  · obtain ⟨-, ⟨m', p1, p2⟩, -⟩ := c
    have e : m' = m := (nI_eq (by have := p1.2.2.1; omega) (by omega)).mp (by rw [← p1.1, d1])
    subst e
    exact ⟨m', p1, p2, d3⟩
theorem PlI_u {h : Hp} {T : Nat → Nat → Nat} {nw A m m' : Nat} (h1 : PlI h T nw A m) (h2 : PlI h T nw A m') : m' = m := (nI_eq (by have := h2.2.2.1; omega) (by have := h1.2.2.1; omega)).mp (by rw [← h1.1, ← h2.1])
theorem st_0 {h g : Hp} {T : Nat → Nat → Nat} {nw A m : Nat} (h1 : PlI h T nw A m) (h2 : MgI g T nw A m) (hA : A < 4096) : (h.1 6 6 = 0 ↔ g.1 0 18 = 0) ∧ (h.1 6 6 = 0 ↔ plS T nw A m = 0) := by
  have e : h.1 6 6 = g.1 0 18 := by rw [h1.2.1, h2.2.1]
  have l := plS_lt (T := T) (nw := nw) hA m
  refine ⟨by rw [e], ?_⟩
  rw [h1.2.1]
  exact nI_eq (b := 0) (by omega) (by omega)
theorem op_run {h g : Hp} {n : Nat} {it : Nat → Nat} {nb : Nat} {own : Nat → Nat} {ns ng : Nat} {ga gb : Nat → Nat} (hR : RlD h g n it nb own ns ng ga gb) {r' : Option Value} {g' : Hp} (hg : ∃ m, m ≤ 12 ∧ frs (woG (std g) n it nb own ns) n (gS (woG (std g) n it nb own ns) n (aiM it n) m) = none ∧ MRun g g' (woG (std g) n it nb own ns) n (aiM it n) m ∧ r' = some (.int (if gS (woG (std g) n it nb own ns) n (aiM it n) m = 0 then nI m else 0))) :
    ∀ r h', r = some (.int (if h'.1 6 6 = 0 then h'.1 6 5 else 0)) ∧ FrR h h' ∧ h'.1 0 8 = 1 ∧ RanI h' n it nb own (6 + ns) → Ag1 h' g' r r' := by
  rintro r h' ⟨rfl, hf, h8, hra⟩
  obtain ⟨m, m12, fn, hM, rfl⟩ := hg
  obtain ⟨eA, lA, bA⟩ := hR.A
  have n12 := hR.1.1.1.2.1
  have mt : TC h' it nb own (6 + ns) = TC h it nb own (6 + ns) := by
    unfold TC
    rw [mtB_fn hf.1]
  rw [eA] at fn hM ⊢
  have gp := gS_plS hR.lf n12 lA bA
  have gt := gT_tkF hR.lf n12 lA bA
  have ff : ∀ i, frs (woG (std g) n it nb own ns) n (gS (woG (std g) n it nb own ns) n (allB it n) i) = fstI (TC h it nb own (6 + ns)) (6 + ns) (plS (TC h it nb own (6 + ns)) (6 + ns) (allB it n) i) := fun i => by
    rw [(gp i).1]
    exact frs_fstI hR.lf n12 (plS_lt lA i) (gp i).2
  obtain ⟨-, ⟨m', p1, p2⟩, -⟩ := id hra
  have p1 : PlI h' (TC h it nb own (6 + ns)) (6 + ns) (allB it n) m' := by rw [← mt]; exact p1
  have p2 : m' = 12 ∨ fstI (TC h it nb own (6 + ns)) (6 + ns) (plS (TC h it nb own (6 + ns)) (6 + ns) (allB it n) m') = none := by rw [← mt]; exact p2
  obtain ⟨M1, M2, M3, M4, M5, M6, M7, M8⟩ := hM
  obtain ⟨q1, q2, q3, q4⟩ := p1
  have em : m' = m := by
    apply Nat.le_antisymm
    · apply Nat.le_of_not_lt
      intro z
      have := (q4 m z).1
      rw [← ff m] at this
      exact this fn
    · apply Nat.le_of_not_lt
      intro z
      have := (M8 m' z).1
      rw [ff m'] at this
      rcases p2 with p2 | p2
      · omega
      · exact this p2
  subst em
  rw [(gp m').1]
  rw [(gp m').1] at M7
  have e0 : h'.1 6 6 = 0 ↔ plS (TC h it nb own (6 + ns)) (6 + ns) (allB it n) m' = 0 := by
    have l := plS_lt (T := TC h it nb own (6 + ns)) (nw := 6 + ns) lA m'
    rw [q2]
    exact nI_eq (b := 0) (by omega) (by omega)
  have mg : MgI g' (TC h it nb own (6 + ns)) (6 + ns) (allB it n) m' := by
    refine ⟨M6, M7, fun j hj => ?_⟩
    obtain ⟨z1, z2, z3⟩ := M8 j hj
    rw [gt j] at z2 z3
    rw [(gp j).1] at z3
    refine ⟨z2, ?_⟩
    rw [z3]
    have tl : tkF (TC h it nb own (6 + ns)) (6 + ns) (allB it n) j < 12 := by
      cases e : fstI (TC h it nb own (6 + ns)) (6 + ns) (plS (TC h it nb own (6 + ns)) (6 + ns) (allB it n) j) with
      | none => exact absurd e (q4 j hj).1
      | some k =>
        have : tkF (TC h it nb own (6 + ns)) (6 + ns) (allB it n) j = k := by unfold tkF; rw [e]; rfl
        rw [this]
        exact (fstI_lt e).1
    rw [hR.lf _ _ tl (plS_lt lA j)]
  refine ⟨_, rfl, ?_, M4, (hR.base hf M3 M2 ?_ ?_ ⟨Or.inr ⟨h8, M5, hra, m', q1, q3, by rw [mt]; exact mg⟩, ?_⟩).r⟩
  · by_cases c : h'.1 6 6 = 0
    · rw [if_pos c, if_pos (e0.mp c), q1]
    · rw [if_neg c, if_neg (fun z => c (e0.mpr z))]
  · rw [M1]; exact setL_ne g _ (by decide)
  · rw [M1]; exact setL_ne g _ (by decide)
  · refine ⟨m', tkF (TC h it nb own (6 + ns)) (6 + ns) (allB it n), _, M6, m12, fun j hj => ⟨(mg.2.2 j hj).1, ?_⟩, M7, plS_lt lA m'⟩
    cases e : fstI (TC h it nb own (6 + ns)) (6 + ns) (plS (TC h it nb own (6 + ns)) (6 + ns) (allB it n) j) with
    | none => exact absurd e (q4 j hj).1
    | some k =>
      have : tkF (TC h it nb own (6 + ns)) (6 + ns) (allB it n) j = k := by unfold tkF; rw [e]; rfl
      rw [this]
      exact (fstI_lt e).1
end PuK
