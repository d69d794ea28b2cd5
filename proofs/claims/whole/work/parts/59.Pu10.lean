/-! What each call keeps: group, glue, clamp, free, run -/
section PuJ
theorem jnF_ok {it : Nat → Nat} {n i j : Nat} (hle : ∀ p, p < n → it p ≤ p) (hid : ∀ p, p < n → it (it p) = it p) (hi : i < n) (hj : j < n) (hne : it i ≠ it j) : (∀ p, p < n → jnF it i j p ≤ p) ∧ ∀ p, p < n → jnF it i j (jnF it i j p) = jnF it i j p := by
  have m1 : it (min (it i) (it j)) = min (it i) (it j) := by
    rcases Nat.le_total (it i) (it j) with h | h
    · rw [Nat.min_eq_left h]; exact hid i hi
    · rw [Nat.min_eq_right h]; exact hid j hj
  have m2 : min (it i) (it j) ≠ max (it i) (it j) := by omega
  refine ⟨fun p hp => ?_, fun p hp => ?_⟩
  · unfold jnF
    have := hle p hp
    split <;> omega
  · by_cases e : it p = max (it i) (it j)
    · have e1 : jnF it i j p = min (it i) (it j) := by unfold jnF; rw [if_pos e]
      rw [e1]
      unfold jnF
      rw [m1, if_neg m2]
    · have e1 : jnF it i j p = it p := by unfold jnF; rw [if_neg e]
      rw [e1]
      unfold jnF
      rw [hid p hp, if_neg e]
theorem op_group {h g : Hp} {n : Nat} {it : Nat → Nat} {nb : Nat} {own : Nat → Nat} {ns ng : Nat} {ga gb : Nat → Nat} (hR : RlD h g n it nb own ns ng ga gb) {a b : Int32} {r' : Option Value} {g' : Hp} (hg : ((pOM g a ∧ pOM g b) ∧ a ≠ b) ∧ (∃ i j, a = nI i ∧ b = nI j ∧ i < n ∧ j < n ∧ (it i = it j ∧ r' = some (.int 0) ∧ g' = upI g 0 0 0 ∨ it i ≠ it j ∧ r' = some (.int 1) ∧ g' = upI (setI (upI g 0 0 0) 4 (fun q => if q < n then nI (jnF it i j q) else g.1 4 q)) 0 14 0)) ∨ r' = some (.int 0) ∧ (¬ (pOM g a ∧ pOM g b) ∧ g' = upI g 0 0 1 ∨ (pOM g a ∧ pOM g b) ∧ a = b ∧ g' = upI g 0 0 2)) :
    (∀ r h', (pOk h a ∧ pOk h b ∧ a ≠ b) ∧ (∃ i j, a = nI i ∧ b = nI j ∧ i < n ∧ j < n ∧ (it i = it j ∧ r = some (.int 0) ∧ h' = h ∨ it i ≠ it j ∧ r = some (.int 1) ∧ h' = upI (setI h 9 (fun q => if q < n then nI (jnF it i j q) else h.1 9 q)) 0 8 0)) → Ag1 h' g' r r') ∧ (∀ E h', (¬ (pOk h a ∧ pOk h b) ∧ E = 1 ∨ (pOk h a ∧ pOk h b) ∧ a = b ∧ E = 2) ∧ h' = h → Ag2 h' g' (ce 0 1 2 E) r') := by
  rw [← pOk_M hR a, ← pOk_M hR b] at hg
  refine ⟨?_, ?_⟩
  · rintro r h' ⟨c, i, j, rfl, rfl, hi, hj, hx⟩
    have n12 := hR.1.1.1.2.1
    rcases hg with ⟨-, i', j', ei, ej, hi', hj', hg⟩ | ⟨-, ⟨q, -⟩ | ⟨-, q, -⟩⟩
    · have e : i = i' := (nI_eq (by omega) (by omega)).mp ei
      subst e
      have e : j = j' := (nI_eq (by omega) (by omega)).mp ej
      subst e
      rcases hx with ⟨x1, rfl, rfl⟩ | ⟨x1, rfl, rfl⟩
      · rcases hg with ⟨-, rfl, rfl⟩ | ⟨z, -⟩
        · exact ⟨_, rfl, rfl, up_eq _ _ _ _, hR.gc 0⟩
        · exact absurd x1 z
      · rcases hg with ⟨z, -⟩ | ⟨-, rfl, rfl⟩
        · exact absurd z x1
        · have s1' : ∀ f k q, k ≠ 9 → (setI h 9 f).1 k q = h.1 k q := fun f k q e => by rw [setI_ne _ _ e]
          have s2' : ∀ f k q, k ≠ 4 → (setI (upI g 0 0 0) 4 f).1 k q = (upI g 0 0 0).1 k q := fun f k q e => by rw [setI_ne _ _ e]
          refine ⟨_, rfl, rfl, by rw [up_ne _ _ _ _ (by decide), s2' _ _ _ (by decide), up_eq], ?_⟩
          obtain ⟨⟨⟨⟨a1, a2, a3⟩, ⟨b1, b2, b3⟩, c9, d1, d2, d3⟩, sh, mz⟩, ⟨⟨e1, e2, e3⟩, ⟨f1, f2, f3⟩, k1, k2⟩, id, ⟨n1, n2, n3⟩, ⟨s1, s2⟩, ⟨⟨l1, l2, l3⟩, ⟨l4, l5, l6⟩, l7⟩, -, od⟩ := hR
          obtain ⟨j1, j2⟩ := jnF_ok (fun p hp => (a3 p hp).2) id hi hj x1
          have H : ∀ k q, k ≠ 0 → k ≠ 9 → (upI (setI h 9 (fun q => if q < n then nI (jnF it i j q) else h.1 9 q)) 0 8 0).1 k q = h.1 k q := fun k q z0 z9 => by rw [up_off _ _ _ _ z0, s1' _ _ _ z9]
          have G : ∀ k q, k ≠ 0 → k ≠ 4 → (upI (setI (upI g 0 0 0) 4 (fun q => if q < n then nI (jnF it i j q) else g.1 4 q)) 0 14 0).1 k q = g.1 k q := fun k q z0 z4 => by rw [up_off _ _ _ _ z0, s2' _ _ _ z4, up_off _ _ _ _ z0]
          have G0 : ∀ q, q ≠ 0 → q ≠ 14 → (upI (setI (upI g 0 0 0) 4 (fun q => if q < n then nI (jnF it i j q) else g.1 4 q)) 0 14 0).1 0 q = g.1 0 q := fun q z0 z4 => by rw [up_ne _ _ _ _ z4, s2' _ _ _ (by decide), up_ne _ _ _ _ z0]
          refine ⟨n, jnF it i j, nb, own, ns, ng, ga, gb, ⟨⟨⟨by rw [H _ _ (by decide) (by decide)]; exact a1, a2, fun p hp => ⟨?_, j1 p hp⟩⟩, ⟨by rw [H _ _ (by decide) (by decide)]; exact b1, b2, fun i hi => by rw [H _ _ (by decide) (by decide)]; exact b3 i hi⟩, c9, by rw [H _ _ (by decide) (by decide)]; exact d1, d2, d3⟩, fun q hq => by rw [H _ _ (by decide) (by decide)]; exact sh q hq, fun j hj => by rw [H _ _ (by decide) (by decide)]; exact mz j hj⟩, ⟨⟨by rw [G0 _ (by decide) (by decide)]; exact e1, e2, fun p hp => ⟨?_, j1 p hp⟩⟩, ⟨by rw [G0 _ (by decide) (by decide)]; exact f1, f2, fun i hi => by rw [G _ _ (by decide) (by decide)]; exact f3 i hi⟩, by rw [G0 _ (by decide) (by decide)]; exact k1, k2⟩, j2, ⟨n1, n2, n3⟩, ⟨s1, s2⟩, ⟨⟨by rw [H _ _ (by decide) (by decide)]; exact l1, l2, fun i hi => by rw [H _ _ (by decide) (by decide), H _ _ (by decide) (by decide)]; exact l3 i hi⟩, ⟨by rw [G0 _ (by decide) (by decide)]; exact l4, l5, fun i hi => by rw [G _ _ (by decide) (by decide), G _ _ (by decide) (by decide)]; exact l6 i hi⟩, fun i hi => by rw [H _ _ (by decide) (by decide), G _ _ (by decide) (by decide)]; exact l7 i hi⟩, Or.inl ⟨up_eq _ _ _ _, up_eq _ _ _ _⟩, od.g (G0 _ (by decide) (by decide)) (G0 _ (by decide) (by decide)) (fun j => G _ _ (by decide) (by decide))⟩
          · rw [up_off _ _ _ _ (by decide), setI_at]
            show (if p < n then nI (jnF it i j p) else h.1 9 p) = _
            rw [if_pos hp]
          · rw [up_off _ _ _ _ (by decide), setI_at]
            show (if p < n then nI (jnF it i j p) else g.1 4 p) = _
            rw [if_pos hp]
    · exact absurd ⟨c.1, c.2.1⟩ q
    · exact absurd q c.2.2
  · rintro E h' ⟨c, rfl⟩
    rcases hg with ⟨q, -⟩ | ⟨rfl, hg⟩
    · rcases c with ⟨c1, -⟩ | ⟨-, c1, -⟩
      · exact absurd q.1 c1
      · exact absurd c1 q.2
    · rcases c with ⟨c1, rfl⟩ | ⟨c0, c1, rfl⟩
      · rcases hg with ⟨-, rfl⟩ | ⟨q, -, -⟩
        · exact ⟨⟨_, rfl⟩, by rw [up_eq]; rfl, hR.gc _⟩
        · exact absurd q c1
      · rcases hg with ⟨q, -⟩ | ⟨-, -, rfl⟩
        · exact absurd c0 q
        · exact ⟨⟨_, rfl⟩, by rw [up_eq]; rfl, hR.gc _⟩
theorem op_glue {h g : Hp} {n : Nat} {it : Nat → Nat} {nb : Nat} {own : Nat → Nat} {ns ng : Nat} {ga gb : Nat → Nat} (hR : RlD h g n it nb own ns ng ga gb) {a b t : Int32} {r' : Option Value} {g' : Hp} (hg : ((pOM g a ∧ pOM g b) ∧ a ≠ b ∧ 0 ≤ t ∧ t ≤ 1000) ∧ (ng = 16 ∧ r' = some (.int 0) ∧ g' = upI g 0 0 0 ∨ ng < 16 ∧ r' = some (.int 1) ∧ g' = upI (upI (upI (upI (upI g 0 0 0) 5 ng a) 6 ng b) 7 ng t) 0 8 (nI (ng + 1))) ∨ r' = some (.int 0) ∧ (¬ (pOM g a ∧ pOM g b) ∧ g' = upI g 0 0 1 ∨ (pOM g a ∧ pOM g b) ∧ ¬ (a ≠ b ∧ 0 ≤ t ∧ t ≤ 1000) ∧ g' = upI g 0 0 2)) :
    (∀ r h', ((pOk h a ∧ pOk h b ∧ a ≠ b) ∧ 0 ≤ t ∧ t ≤ 1000) ∧ (ng = 16 ∧ r = some (.int 0) ∧ h' = h ∨ ng < 16 ∧ r = some (.int 1) ∧ h' = upI (upI (upI (upI h 14 ng a) 15 ng b) 16 ng t) 4 0 (nI (ng + 1))) → Ag1 h' g' r r') ∧ (∀ E h', h' = h ∧ (¬ (pOk h a ∧ pOk h b) ∧ E = 1 ∨ (pOk h a ∧ pOk h b) ∧ a = b ∧ E = 2 ∨ (pOk h a ∧ pOk h b ∧ a ≠ b) ∧ ¬ (0 ≤ t ∧ t ≤ 1000) ∧ E = 2) → Ag2 h' g' (ce 0 1 2 E) r') := by
  rw [← pOk_M hR a, ← pOk_M hR b] at hg
  refine ⟨?_, ?_⟩
  · rintro r h' ⟨c, hx⟩
    have n12 := hR.1.1.1.2.1
    rcases hg with ⟨-, hg⟩ | ⟨-, ⟨q, -⟩ | ⟨-, q, -⟩⟩
    · rcases hx with ⟨x1, rfl, rfl⟩ | ⟨x1, rfl, rfl⟩
      · rcases hg with ⟨-, rfl, rfl⟩ | ⟨z, -⟩
        · exact ⟨_, rfl, rfl, up_eq _ _ _ _, hR.gc 0⟩
        · omega
      · rcases hg with ⟨z, -⟩ | ⟨-, rfl, rfl⟩
        · omega
        · refine ⟨_, rfl, rfl, by simp [upI_get], ?_⟩
          obtain ⟨⟨⟨⟨a1, a2, a3⟩, ⟨b1, b2, b3⟩, c9, d1, d2, d3⟩, sh, mz⟩, ⟨⟨e1, e2, e3⟩, ⟨f1, f2, f3⟩, k1, k2⟩, id, ⟨n1, n2, n3⟩, ⟨s1, s2⟩, ⟨⟨l1, l2, l3⟩, ⟨l4, l5, l6⟩, l7⟩, hr, od⟩ := hR
          obtain ⟨i, rfl, hi⟩ := Ok_ex a1 (by omega) c.1.1
          obtain ⟨j, rfl, hj⟩ := Ok_ex a1 (by omega) c.1.2.1
          refine ⟨n, it, nb, own, ns, ng + 1, fun q => if q = ng then i else ga q, fun q => if q = ng then j else gb q, ⟨⟨⟨by simp [upI_get, a1], a2, fun i hi => by simp [upI_get]; exact a3 i hi⟩, ⟨by simp [upI_get, b1], b2, fun i hi => by simp [upI_get]; exact b3 i hi⟩, c9, by simp [upI_get, d1], d2, d3⟩, fun q hq => by simp [upI_get]; exact sh q hq, fun j hj => by simp [upI_get]; exact mz j hj⟩, ⟨⟨by simp [upI_get, e1], e2, fun i hi => by simp [upI_get]; exact e3 i hi⟩, ⟨by simp [upI_get, f1], f2, fun i hi => by simp [upI_get]; exact f3 i hi⟩, by simp [upI_get, k1], k2⟩, id, ⟨n1, n2, n3⟩, ⟨s1, s2⟩, ⟨⟨up_eq _ _ _ _, by omega, fun q hq => ?_⟩, ⟨up_eq _ _ _ _, by omega, fun q hq => ?_⟩, fun q hq => ?_⟩, ?_, od.g (by simp [upI_get]) (by simp [upI_get]) (fun j => by simp [upI_get])⟩
          · by_cases e : q = ng
            · subst e; simp [upI_get, hi, hj]
            · simp [upI_get, e]; exact l3 q (by omega)
          · by_cases e : q = ng
            · subst e; simp [upI_get, hi, hj]
            · simp [upI_get, e]; exact l6 q (by omega)
          · by_cases e : q = ng
            · subst e; simp [upI_get]; exact c.2.1
            · simp [upI_get, e]; exact l7 q (by omega)
          · rcases hr with ⟨r1, r2⟩ | ⟨r1, r2, r3, m, r4, r5, r6, r7, r8⟩
            · exact Or.inl ⟨by simp [upI_get, r1], by simp [upI_get, r2]⟩
            · have e2 : ∀ k q, k ≠ 14 → k ≠ 15 → k ≠ 16 → k ≠ 4 → (upI (upI (upI (upI h 14 ng (nI i)) 15 ng (nI j)) 16 ng t) 4 0 (nI (ng + 1))).1 k q = h.1 k q := fun k q z1 z2 z3 z4 => by rw [up_off _ _ _ _ z4, up_off _ _ _ _ z3, up_off _ _ _ _ z2, up_off _ _ _ _ z1]
              have e3 : ∀ k, k ≠ 14 → k ≠ 15 → k ≠ 16 → k ≠ 4 → (upI (upI (upI (upI h 14 ng (nI i)) 15 ng (nI j)) 16 ng t) 4 0 (nI (ng + 1))).1 k = h.1 k := fun k z1 z2 z3 z4 => funext fun q => e2 k q z1 z2 z3 z4
              refine Or.inr ⟨by rw [e2 _ _ (by decide) (by decide) (by decide) (by decide)]; exact r1, by simp [upI_get, r2], ?_, m, by rw [e2 _ _ (by decide) (by decide) (by decide) (by decide)]; exact r4, r5, by simp [upI_get, r6], by simp [upI_get]; exact r7, fun q hq => by simp [upI_get]; exact r8 q hq⟩
              unfold RanI RanJ at r3 ⊢
              rw [e3 25 (by decide) (by decide) (by decide) (by decide)]
              obtain ⟨⟨fl, p1, p2, p3, p4⟩, ⟨m', p5, p6⟩, p7, p8, se, p9⟩ := r3
              refine ⟨⟨fl, p1, by rw [e2 _ _ (by decide) (by decide) (by decide) (by decide)]; exact p2, p3, fun s hs => by rw [e3 _ (by omega) (by omega) (by omega) (by omega)]; exact p4 s hs⟩, ⟨m', ?_, p6⟩, ?_, ?_, se, ?_⟩
              · obtain ⟨q1, q2, q3, q4⟩ := p5
                exact ⟨by rw [e2 _ _ (by decide) (by decide) (by decide) (by decide)]; exact q1, by rw [e2 _ _ (by decide) (by decide) (by decide) (by decide)]; exact q2, q3, fun j hj => by rw [e2 _ _ (by decide) (by decide) (by decide) (by decide), e2 _ _ (by decide) (by decide) (by decide) (by decide), e2 _ _ (by decide) (by decide) (by decide) (by decide)]; exact q4 j hj⟩
              · rw [e2 _ _ (by decide) (by decide) (by decide) (by decide), e3 24 (by decide) (by decide) (by decide) (by decide)]; exact p7
              · rw [e2 _ _ (by decide) (by decide) (by decide) (by decide), e2 _ _ (by decide) (by decide) (by decide) (by decide)]; exact p8
              · unfold SmI at p9 ⊢
                rw [e2 _ _ (by decide) (by decide) (by decide) (by decide), e2 _ _ (by decide) (by decide) (by decide) (by decide)]; exact p9
    · exact absurd ⟨c.1.1, c.1.2.1⟩ q
    · exact absurd ⟨c.1.2.2, c.2⟩ q
  · rintro E h' ⟨rfl, c⟩
    rcases hg with ⟨q, -⟩ | ⟨rfl, hg⟩
    · rcases c with ⟨c1, -⟩ | ⟨-, c1, -⟩ | ⟨-, c1, -⟩
      · exact absurd q.1 c1
      · exact absurd c1 q.2.1
      · exact absurd q.2.2 c1
    · rcases c with ⟨c1, rfl⟩ | ⟨c0, c1, rfl⟩ | ⟨c0, c1, rfl⟩
      · rcases hg with ⟨-, rfl⟩ | ⟨q, -, -⟩
        · exact ⟨⟨_, rfl⟩, by rw [up_eq]; rfl, hR.gc _⟩
        · exact absurd q c1
      · rcases hg with ⟨q, -⟩ | ⟨-, -, rfl⟩
        · exact absurd c0 q
        · exact ⟨⟨_, rfl⟩, by rw [up_eq]; rfl, hR.gc _⟩
      · rcases hg with ⟨q, -⟩ | ⟨-, -, rfl⟩
        · exact absurd ⟨c0.1, c0.2.1⟩ q
        · exact ⟨⟨_, rfl⟩, by rw [up_eq]; rfl, hR.gc _⟩
theorem op_clamp {h g : Hp} {n : Nat} {it : Nat → Nat} {nb : Nat} {own : Nat → Nat} {ns ng : Nat} {ga gb : Nat → Nat} (hR : RlD h g n it nb own ns ng ga gb) {a b : Int32} {re : Int64} {r' : Option Value} {g' : Hp} (hg : ((pOM g a ∧ pOM g b) ∧ 0 ≤ re) ∧ (∃ i j, a = nI i ∧ b = nI j ∧ i < n ∧ j < n ∧ r' = some (.int (oI (if anyB (fun q => decide (own q = i)) nb && anyB (fun q => decide (own q = j)) nb then fstN (fun x => decide (exM g own nb i j x ≤ re)) 3 0 else none))) ∧ g' = upI g 0 0 0) ∨ r' = some (.int 0) ∧ (¬ (pOM g a ∧ pOM g b) ∧ g' = upI g 0 0 1 ∨ (pOM g a ∧ pOM g b) ∧ ¬ 0 ≤ re ∧ g' = upI g 0 0 2)) :
    (∀ r h', ((pOk h a ∧ pOk h b) ∧ 0 ≤ re) ∧ (∃ i j, a = nI i ∧ b = nI j ∧ i < n ∧ j < n ∧ r = some (.int (oI (if anyB (fun q => decide (own q = i)) nb && anyB (fun q => decide (own q = j)) nb then fstN (fun x => decide (exN2 h own nb i j x ≤ re)) 3 0 else none))) ∧ h' = h) → Ag1 h' g' r r') ∧ (∀ E h', h' = h ∧ (¬ (pOk h a ∧ pOk h b) ∧ E = 1 ∨ (pOk h a ∧ pOk h b) ∧ ¬ 0 ≤ re ∧ E = 2) → Ag2 h' g' (ce 0 1 2 E) r') := by
  rw [← pOk_M hR a, ← pOk_M hR b] at hg
  refine ⟨?_, ?_⟩
  · rintro r h' ⟨c, i, j, rfl, rfl, hi, hj, rfl, rfl⟩
    have n12 := hR.1.1.1.2.1
    rcases hg with ⟨-, i', j', ei, ej, hi', hj', rfl, rfl⟩ | ⟨-, ⟨q, -⟩ | ⟨-, q, -⟩⟩
    · have e : i = i' := (nI_eq (by omega) (by omega)).mp ei
      subst e
      have e : j = j' := (nI_eq (by omega) (by omega)).mp ej
      subst e
      refine ⟨_, rfl, ?_, up_eq _ _ _ _, hR.gc 0⟩
      by_cases cc : (anyB (fun q => decide (own q = i)) nb && anyB (fun q => decide (own q = j)) nb) = true
      · rw [if_pos cc, if_pos cc]
        have key : ∀ x, x < 3 → exM g own nb i j x = exN2 h' own nb i j x := by
          intro x hx
          have sel : anyB (fun q => decide (own q = i ∨ own q = j)) nb = true := by
            rw [Bool.and_eq_true] at cc
            obtain ⟨q, q1, q2⟩ := (anyB_iff _ _).mp cc.1
            exact (anyB_iff _ _).mpr ⟨q, q1, by simp at q2 ⊢; exact Or.inl q2⟩
          have bnd : ∀ q, q < nb → h'.2 (26 + x) q = g.2 2 (6 * q + x) ∧ h'.2 (26 + x) q + h'.2 (29 + x) q = g.2 2 (6 * q + x + 3) ∧ h'.2 (26 + x) q ≤ 1000000 ∧ -2000000 ≤ h'.2 (26 + x) q + h'.2 (29 + x) q := by
            intro q hq
            obtain ⟨w1, w2, w3, w4⟩ := hR.2.2.2.1.1 q x hq hx
            refine ⟨w1.symm, w2.symm, Int64.le_iff_toInt_le.mpr w3.2, ?_⟩
            obtain ⟨v1, v2⟩ := Bd.add w3 w4 (by omega)
            rw [Int64.le_iff_toInt_le]
            exact v1.1
          have e1 := (ex_mc (sel := fun q => decide (own q = i ∨ own q = j)) (b := fun q => h'.2 (26 + x) q) (e := fun q => h'.2 (26 + x) q + h'.2 (29 + x) q) (b' := fun q => g.2 2 (6 * q + x)) (e' := fun q => g.2 2 (6 * q + x + 3)) nb (fun q hq _ => bnd q hq)).1 sel
          unfold exM exN2
          rw [e1]
        rw [fstN_ext (q := fun x => decide (exN2 h' own nb i j x ≤ re)) (fun x _ hx => by rw [key x (by omega)])]
      · rw [if_neg cc, if_neg cc]
    · exact absurd c.1 q
    · exact absurd c.2 q
  · rintro E h' ⟨rfl, c⟩
    rcases hg with ⟨q, -⟩ | ⟨rfl, hg⟩
    · rcases c with ⟨c1, -⟩ | ⟨-, c1, -⟩
      · exact absurd q.1 c1
      · exact absurd q.2 c1
    · rcases c with ⟨c1, rfl⟩ | ⟨c0, c1, rfl⟩
      · rcases hg with ⟨-, rfl⟩ | ⟨q, -, -⟩
        · exact ⟨⟨_, rfl⟩, by rw [up_eq]; rfl, hR.gc _⟩
        · exact absurd q c1
      · rcases hg with ⟨q, -⟩ | ⟨-, -, rfl⟩
        · exact absurd c0 q
        · exact ⟨⟨_, rfl⟩, by rw [up_eq]; rfl, hR.gc _⟩
end PuJ
