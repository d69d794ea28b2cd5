/-! What each call keeps: turnings, two, hands, out -/
section PuM
theorem op_turnings {h g : Hp} {n : Nat} {it : Nat → Nat} {nb : Nat} {own : Nat → Nat} {ns ng : Nat} {ga gb : Nat → Nat} (hR : RlD h g n it nb own ns ng ga gb) {r' : Option Value} {g' : Hp} (hg : g.1 0 14 = 0 ∧ r' = some (.int 0) ∧ g' = upI g 0 0 1 ∨ ¬ g.1 0 14 = 0 ∧ (¬ g.1 0 18 = 0 ∧ r' = some (.int (-1)) ∧ g' = upI g 0 0 0 ∨ g.1 0 18 = 0 ∧ ∃ f9 f12, g' = setI (setI (std (upI g 0 0 0)) 9 f9) 12 f12 ∧ r' = some (.int (nI (tnB (tnS (ifM (fun p w => bfM own nb (fun a b => swM (std g) own a b w) p) it n) (aiM it n) n (6 + ns) (2 ^ n)) (aiM it n) 11))))) :
    (∀ r h', ¬ h.1 0 8 = 0 ∧ FrR h h' ∧ h'.1 0 8 = 1 ∧ RanI h' n it nb own (6 + ns) ∧ h'.1 6 = h.1 6 ∧ (h.1 6 6 = 0 ∧ (∃ v, r = some (.int v) ∧ TnOk (TC h it nb own (6 + ns)) (6 + ns) (allB it n) v) ∨ ¬ h.1 6 6 = 0 ∧ r = some (.int (-1))) → Ag1 h' g' r r') ∧ (∀ E h', h' = h ∧ h.1 0 8 = 0 ∧ E = 0 → Ag2 h' g' (ce 1 0 0 E) r') := by
  rw [← hR.ran] at hg
  refine ⟨?_, ?_⟩
  · rintro r h' ⟨c, hf, h8, hra, h6, hx⟩
    have hR' := hR.h c hf h8 hra h6
    obtain ⟨m, z1, z2, z3⟩ := hR.run c
    obtain ⟨eA, lA, bA⟩ := hR.A
    obtain ⟨s1, s2⟩ := st_0 z1 z3 lA
    rcases hg with ⟨q, -⟩ | ⟨-, hg⟩
    · exact absurd q c
    · rcases hx with ⟨x1, v, rfl, hv⟩ | ⟨x1, rfl⟩
      · rcases hg with ⟨q, -⟩ | ⟨-, f9, f12, rfl, rfl⟩
        · exact absurd (s1.mp x1) q
        · have hS : SmG g (setI (setI (std (upI g 0 0 0)) 9 f9) 12 f12) := (((SmG.c g 0).tr (SmG.std _)).tr (SmG.s _ (Or.inl rfl) f9)).tr (SmG.s _ (Or.inr (Or.inl rfl)) f12)
          refine ⟨v, rfl, ?_, ?_, (hR'.g hS).r⟩
          · rw [eA, turn_eq hR.fr hR.1.1.1.2.1 hR.1.1.2.2.2.2.2 lA bA (fun j hj => (z1.2.2.2 j hj).1) (s2.mp x1) hv]
          · rw [setI_ne _ _ (by decide), setI_ne _ _ (by decide)]
            exact up_eq g 0 0 0
      · rcases hg with ⟨-, rfl, rfl⟩ | ⟨q, -⟩
        · exact ⟨_, rfl, rfl, up_eq _ _ _ _, hR'.gc 0⟩
        · exact absurd (s1.mpr q) x1
  · rintro E h' ⟨rfl, c, rfl⟩
    rcases hg with ⟨-, rfl, rfl⟩ | ⟨q, -⟩
    · exact ⟨⟨_, rfl⟩, by rw [up_eq]; rfl, hR.gc _⟩
    · exact absurd c q
theorem op_two {h g : Hp} {n : Nat} {it : Nat → Nat} {nb : Nat} {own : Nat → Nat} {ns ng : Nat} {ga gb : Nat → Nat} (hR : RlD h g n it nb own ns ng ga gb) {d : Int32} {r' : Option Value} {g' : Hp} (hg : g.1 0 14 = 0 ∧ r' = some (.int 0) ∧ g' = upI g 0 0 1 ∨ ¬ g.1 0 14 = 0 ∧ (¬ (0 ≤ d ∧ d ≤ 2) ∧ r' = some (.int 0) ∧ g' = upI g 0 0 2 ∨ (0 ≤ d ∧ d ≤ 2) ∧ (n = 0 ∧ r' = some (.int 0) ∧ g' = upI g 0 0 0 ∨ n ≠ 0 ∧ ∃ f9, g' = setI (std (upI g 0 0 0)) 9 f9 ∧ r' = some (.int (twM n it nb own ns (std g) d))))) :
    (∀ r h', (¬ h.1 0 8 = 0 ∧ 0 ≤ d ∧ d ≤ 2) ∧ FrR h h' ∧ h'.1 0 8 = 1 ∧ RanI h' n it nb own (6 + ns) ∧ h'.1 6 = h.1 6 ∧ (∃ q, d = nI q ∧ q ≤ 2 ∧ r = some (.int (oI (fstN (fun c => fbB (fun s => TF (mtB h s) it own nb (6 + ns)) it (6 + ns) n c (h.1 25)) (q + 1) 0) + 1))) → Ag1 h' g' r r') ∧ (∀ E h', h' = h ∧ (h.1 0 8 = 0 ∧ E = 0 ∨ ¬ h.1 0 8 = 0 ∧ ¬ (0 ≤ d ∧ d ≤ 2) ∧ E = 2) → Ag2 h' g' (ce 1 0 2 E) r') := by
  rw [← hR.ran] at hg
  refine ⟨?_, ?_⟩
  · rintro r h' ⟨c, hf, h8, hra, h6, q, rfl, hq, rfl⟩
    have hR' := hR.h c.1 hf h8 hra h6
    have key : oI (fstN (fun c => fbB (fun s => TF (mtB h s) it own nb (6 + ns)) it (6 + ns) n c (h.1 25)) (q + 1) 0) + 1 = if n = 0 then 0 else twM n it nb own ns (std g) (nI q) := by
      obtain ⟨⟨⟨⟨a1, a2, a3⟩, -, c9, -⟩, -, mz⟩, -, id, ⟨n1, n2, n3⟩, ⟨s1, s2⟩, -, -⟩ := hR
      have e2 : (std g).2 2 = g.2 2 := setL_ne g _ (by decide)
      have e3 : (std g).2 3 = g.2 3 := setL_ne g _ (by decide)
      exact two_eq s2 s1 a2 id (fun p hp => (a3 p hp).2) c9 ⟨fun a x ha hx => by rw [e2]; exact n1 a x ha hx, fun w x hw hx => by rw [e3]; exact n2 w x hw hx, n3⟩ mz (fun p x hp hx => by
        have e8 : (std g).2 8 = fun j => if j < 36 then 0 else g.2 8 j := setL_at g 8 _
        rw [e8]
        show (if 3 * p + x < 36 then (0 : Int64) else _) = 0
        rw [if_pos (by omega)]) hq
    rw [key]
    rcases hg with ⟨z, -⟩ | ⟨-, ⟨z, -⟩ | ⟨-, hg⟩⟩
    · exact absurd z c.1
    · exact absurd c.2 z
    · rcases hg with ⟨n0, rfl, rfl⟩ | ⟨n0, f9, rfl, rfl⟩
      · exact ⟨_, rfl, by rw [if_pos n0], up_eq _ _ _ _, hR'.gc 0⟩
      · have hS : SmG g (setI (std (upI g 0 0 0)) 9 f9) := ((SmG.c g 0).tr (SmG.std _)).tr (SmG.s _ (Or.inl rfl) f9)
        refine ⟨_, rfl, by rw [if_neg n0], ?_, (hR'.g hS).r⟩
        rw [setI_ne _ _ (by decide)]
        exact up_eq g 0 0 0
  · rintro E h' ⟨rfl, c⟩
    rcases c with ⟨c, rfl⟩ | ⟨c0, c1, rfl⟩
    · rcases hg with ⟨-, rfl, rfl⟩ | ⟨q, -⟩
      · exact ⟨⟨_, rfl⟩, by rw [up_eq]; rfl, hR.gc _⟩
      · exact absurd c q
    · rcases hg with ⟨q, -⟩ | ⟨-, ⟨-, rfl, rfl⟩ | ⟨q, -⟩⟩
      · exact absurd q c0
      · exact ⟨⟨_, rfl⟩, by rw [up_eq]; rfl, hR.gc _⟩
      · exact absurd q c1
theorem op_hands {h g : Hp} {n : Nat} {it : Nat → Nat} {nb : Nat} {own : Nat → Nat} {ns ng : Nat} {ga gb : Nat → Nat} (hR : RlD h g n it nb own ns ng ga gb) {p k : Int32} {r' : Option Value} {g' : Hp} (hg : g.1 0 14 = 0 ∧ r' = some (.int 0) ∧ g' = upI g 0 0 1 ∨ ¬ g.1 0 14 = 0 ∧ (¬ 0 ≤ k ∧ r' = some (.int 0) ∧ g' = upI g 0 0 2 ∨ 0 ≤ k ∧ ¬ (1 ≤ p ∧ p ≤ 12) ∧ r' = some (.int 0) ∧ g' = upI g 0 0 3 ∨ (0 ≤ k ∧ 1 ≤ p ∧ p ≤ 12) ∧ ∃ q f9, p = nI q ∧ 1 ≤ q ∧ q ≤ 12 ∧ g' = setI (std (upI g 0 0 0)) 9 f9 ∧ r' = some (.int (hdM (woG (std g) n it nb own ns) n q k 14 0 (aiM it n) 0)))) :
    (∀ r h', ((¬ h.1 0 8 = 0 ∧ 0 ≤ k) ∧ 1 ≤ p ∧ p ≤ 12) ∧ (∃ q, p = nI q ∧ 1 ≤ q ∧ q ≤ 12 ∧ r = some (.int (grF (TC h it nb own (6 + ns)) (6 + ns) q k 12 0 (allB it n))) ∧ h' = h) → Ag1 h' g' r r') ∧ (∀ E h', h' = h ∧ (h.1 0 8 = 0 ∧ E = 0 ∨ ¬ h.1 0 8 = 0 ∧ ¬ 0 ≤ k ∧ E = 1 ∨ (¬ h.1 0 8 = 0 ∧ 0 ≤ k) ∧ ¬ (1 ≤ p ∧ p ≤ 12) ∧ E = 2) → Ag2 h' g' (ce 1 2 3 E) r') := by
  rw [← hR.ran] at hg
  refine ⟨?_, ?_⟩
  · rintro r h' ⟨c, q, rfl, q1, q12, rfl, rfl⟩
    rcases hg with ⟨z, -⟩ | ⟨-, ⟨z, -⟩ | ⟨-, z, -⟩ | ⟨-, q', f9, eq, -, q12', rfl, rfl⟩⟩
    · exact absurd z c.1.1
    · exact absurd c.1.2 z
    · exact absurd c.2 z
    · have e : q = q' := (nI_eq (by omega) (by omega)).mp eq
      subst e
      obtain ⟨eA, lA, bA⟩ := hR.A
      have hS : SmG g (setI (std (upI g 0 0 0)) 9 f9) := ((SmG.c g 0).tr (SmG.std _)).tr (SmG.s _ (Or.inl rfl) f9)
      refine ⟨_, rfl, ?_, ?_, (hR.g hS).r⟩
      · obtain ⟨K, hK, rfl⟩ := nI_of (Int32.not_lt.mpr c.1.2)
        rw [eA, hd_gr (q := q) hR.lf hR.1.1.1.2.1 hK 14 0 (allB it n) 0 (by omega) (by omega) (by have := pcN_le (allB it n) 12; omega) lA bA]
      · rw [setI_ne _ _ (by decide)]
        exact up_eq g 0 0 0
  · rintro E h' ⟨rfl, c⟩
    rcases c with ⟨c, rfl⟩ | ⟨c0, c1, rfl⟩ | ⟨c0, c1, rfl⟩
    · rcases hg with ⟨-, rfl, rfl⟩ | ⟨q, -⟩
      · exact ⟨⟨_, rfl⟩, by rw [up_eq]; rfl, hR.gc _⟩
      · exact absurd c q
    · rcases hg with ⟨q, -⟩ | ⟨-, ⟨-, rfl, rfl⟩ | ⟨q, -⟩ | ⟨q, -⟩⟩
      · exact absurd q c0
      · exact ⟨⟨_, rfl⟩, by rw [up_eq]; rfl, hR.gc _⟩
      · exact absurd q c1
      · exact absurd q.1 c1
    · rcases hg with ⟨q, -⟩ | ⟨-, ⟨q, -⟩ | ⟨-, -, rfl, rfl⟩ | ⟨q, -⟩⟩
      · exact absurd q c0.1
      · exact absurd c0.2 q
      · exact ⟨⟨_, rfl⟩, by rw [up_eq]; rfl, hR.gc _⟩
      · exact absurd q.2 c1
theorem op_out {h g : Hp} {n : Nat} {it : Nat → Nat} {nb : Nat} {own : Nat → Nat} {ns ng : Nat} {ga gb : Nat → Nat} (hR : RlD h g n it nb own ns ng ga gb) {p : Int32} {r' : Option Value} {g' : Hp} (hg : g.1 0 14 = 0 ∧ r' = some (.int 0) ∧ g' = upI g 0 0 1 ∨ ¬ g.1 0 14 = 0 ∧ (¬ pOM g p ∧ r' = some (.int 0) ∧ g' = upI g 0 0 2 ∨ pOM g p ∧ ∃ q f9 f13, p = nI q ∧ q < n ∧ g' = setI (setI (std (upI g 0 0 0)) 9 f9) 13 f13 ∧ r' = some (.int (obM (woG (std g) n it nb own ns) (aiM it n) n (it q) (2 ^ n))))) :
    (∀ r h', (¬ h.1 0 8 = 0 ∧ pOk h p) ∧ FrR h h' ∧ h'.1 0 8 = 1 ∧ RanI h' n it nb own (6 + ns) ∧ h'.1 6 = h.1 6 ∧ (∃ i v, p = nI i ∧ i < n ∧ r = some (.int v) ∧ BfL (TC h it nb own (6 + ns)) (6 + ns) (allB it n) 0 v (it i)) → Ag1 h' g' r r') ∧ (∀ E h', h' = h ∧ (h.1 0 8 = 0 ∧ E = 0 ∨ ¬ h.1 0 8 = 0 ∧ ¬ pOk h p ∧ E = 1) → Ag2 h' g' (ce 1 2 0 E) r') := by
  rw [← hR.ran, ← pOk_M hR p] at hg
  refine ⟨?_, ?_⟩
  · rintro r h' ⟨c, hf, h8, hra, h6, i, v, rfl, hi, rfl, hv⟩
    have hR' := hR.h c.1 hf h8 hra h6
    have n12 := hR.1.1.1.2.1
    rcases hg with ⟨z, -⟩ | ⟨-, ⟨z, -⟩ | ⟨-, q, f9, f13, eq, hq, rfl, rfl⟩⟩
    · exact absurd z c.1
    · exact absurd c.2 z
    · have e : i = q := (nI_eq (by omega) (by omega)).mp eq
      subst e
      obtain ⟨eA, lA, bA⟩ := hR.A
      have hS : SmG g (setI (setI (std (upI g 0 0 0)) 9 f9) 13 f13) := (((SmG.c g 0).tr (SmG.std _)).tr (SmG.s _ (Or.inl rfl) f9)).tr (SmG.s _ (Or.inr (Or.inr rfl)) f13)
      refine ⟨v, rfl, ?_, ?_, (hR'.g hS).r⟩
      · rw [eA, ← out_eq hR.lf n12 lA bA ((allB_bit it (it i) n).mpr ⟨i, hi, rfl⟩) hv]
      · rw [setI_ne _ _ (by decide), setI_ne _ _ (by decide)]
        exact up_eq g 0 0 0
  · rintro E h' ⟨rfl, c⟩
    rcases c with ⟨c, rfl⟩ | ⟨c0, c1, rfl⟩
    · rcases hg with ⟨-, rfl, rfl⟩ | ⟨q, -⟩
      · exact ⟨⟨_, rfl⟩, by rw [up_eq]; rfl, hR.gc _⟩
      · exact absurd c q
    · rcases hg with ⟨q, -⟩ | ⟨-, ⟨-, rfl, rfl⟩ | ⟨q, -⟩⟩
      · exact absurd q c0
      · exact ⟨⟨_, rfl⟩, by rw [up_eq]; rfl, hR.gc _⟩
      · exact absurd q c1
end PuM
