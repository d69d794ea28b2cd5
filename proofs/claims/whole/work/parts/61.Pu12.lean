/-! What each call keeps: free, step, apart, locked, stage, keeps -/
section PuL
theorem toI32 (x : Int64) : x.toInt32 = nI x.toBitVec.toNat := by
  apply Int32.toBitVec_inj.mp
  show x.toBitVec.signExtend 32 = BitVec.ofNat 32 x.toBitVec.toNat
  rw [BitVec.signExtend_eq_setWidth_of_le _ (by decide)]
  apply BitVec.eq_of_toNat_eq
  rw [BitVec.toNat_setWidth, BitVec.toNat_ofNat]
theorem wOk_M {h g : Hp} {n : Nat} {it : Nat → Nat} {nb : Nat} {own : Nat → Nat} {ns ng : Nat} {ga gb : Nat → Nat} (hR : RlD h g n it nb own ns ng ga gb) (p : Int32) : wOk h p ↔ wOM ns p := by
  unfold wOk wOM
  rw [hR.1.1.2.2.2.1]
theorem op_free {h g : Hp} {n : Nat} {it : Nat → Nat} {nb : Nat} {own : Nat → Nat} {ns ng : Nat} {ga gb : Nat → Nat} (hR : RlD h g n it nb own ns ng ga gb) {p w : Int32} {x : Int64} {r' : Option Value} {g' : Hp} (hg : ((pOM g p ∧ wOM ns w) ∧ bitsOff x n = 0) ∧ (∃ i k, p = nI i ∧ w = nI k ∧ i < n ∧ k < 6 + ns ∧ r' = some (.int (if nI (bfM own nb (fun a b => swM (std g) own a b k) i) &&& x.toInt32 &&& ((1 : Int32) <<< (nI i &&& 31) ^^^ (-1)) = 0 then 1 else 0)) ∧ g' = std (upI g 0 0 0)) ∨ r' = some (.int 0) ∧ (¬ (pOM g p ∧ wOM ns w) ∧ g' = upI g 0 0 1 ∨ (pOM g p ∧ wOM ns w) ∧ ¬ bitsOff x n = 0 ∧ g' = upI g 0 0 2)) :
    (∀ r h', (pOk h p ∧ wOk h w ∧ bitsOff x n = 0) ∧ (∃ i k, p = nI i ∧ w = nI k ∧ i < n ∧ k < 6 + ns ∧ r = some (.int (if anyB (fun a => decide (own a = i) && anyB (fun b => decide (own b ≠ i) && (lbit x (own b) && mtB h 0 k a b)) nb) nb then 0 else 1)) ∧ h' = h) → Ag1 h' g' r r') ∧ (∀ E h', h' = h ∧ (¬ (pOk h p ∧ wOk h w) ∧ E = 1 ∨ (pOk h p ∧ wOk h w) ∧ ¬ bitsOff x n = 0 ∧ E = 2) → Ag2 h' g' (ce 0 1 2 E) r') := by
  rw [← pOk_M hR p, ← wOk_M hR w] at hg
  refine ⟨?_, ?_⟩
  · rintro r h' ⟨c, i, k, rfl, rfl, hi, hk, rfl, rfl⟩
    have n12 := hR.1.1.1.2.1
    have nw10 := hR.1.1.2.2.2.2.2
    rcases hg with ⟨-, i', k', ei, ek, hi', hk', rfl, rfl⟩ | ⟨-, ⟨q, -⟩ | ⟨-, q, -⟩⟩
    · have e : i = i' := (nI_eq (by omega) (by omega)).mp ei
      subst e
      have e : k = k' := (nI_eq (by omega) (by omega)).mp ek
      subst e
      have hS : SmG g (std (upI g 0 0 0)) := (SmG.c g 0).tr (SmG.std _)
      refine ⟨_, rfl, ?_, up_eq g 0 0 0, (hR.g hS).r⟩
      have bl := bfM_lt own nb (fun a b => swM (std g) own a b k) i
      generalize hB : bfM own nb (fun a b => swM (std g) own a b k) i = B at bl
      have al : B &&& x.toBitVec.toNat < 4096 := Nat.lt_of_le_of_lt Nat.and_le_left bl
      rw [toI32, nI_and, not_1 al (by omega)]
      have key : (nI (clr (B &&& x.toBitVec.toNat) i) = 0) ↔ ¬ anyB (fun a => decide (own a = i) && anyB (fun b => decide (own b ≠ i) && (lbit x (own b) && mtB h' 0 k a b)) nb) nb = true := by
        have cl := clr_lt (i := i) al
        rw [show (0 : Int32) = nI 0 from rfl, nI_eq (by omega) (by omega), anyB_iff]
        constructor
        · rintro z ⟨a, ha, q⟩
          rw [Bool.and_eq_true, decide_eq_true_eq] at q
          obtain ⟨b, hb, q2⟩ := (anyB_iff _ _).mp q.2
          rw [Bool.and_eq_true, Bool.and_eq_true, decide_eq_true_eq, lbit_bv (by have := hR.1.1.2.2.1 b hb; omega), ← hR.sw ha hb hk] at q2
          have b1 : B.testBit (own b) = true := by
            rw [← hB]
            exact (bfM_bit _ _ _ _ _).mpr ⟨by have := hR.1.1.2.2.1 b hb; omega, a, b, ha, hb, q.1, rfl, q2.1, q2.2.2⟩
          have b2 : (clr (B &&& x.toBitVec.toNat) i).testBit (own b) = true := by
            rw [clr_bit al (by omega), Nat.testBit_and, b1, show x.toBitVec.toNat.testBit (own b) = true from q2.2.1]
            simp [q2.1]
          rw [z, Nat.zero_testBit] at b2
          cases b2
        · intro z
          apply Nat.eq_of_testBit_eq
          intro j
          rw [Nat.zero_testBit, clr_bit al (by omega), Nat.testBit_and]
          cases b1 : B.testBit j with
          | false => rfl
          | true =>
            cases b2 : x.toBitVec.toNat.testBit j with
            | false => rfl
            | true =>
              rw [← hB] at b1
              obtain ⟨j12, a, b, ha, hb, q1, q2, q3, q4⟩ := (bfM_bit _ _ _ _ _).mp b1
              refine absurd ⟨a, ha, ?_⟩ z
              rw [Bool.and_eq_true, decide_eq_true_eq]
              refine ⟨q1, (anyB_iff _ _).mpr ⟨b, hb, ?_⟩⟩
              rw [Bool.and_eq_true, Bool.and_eq_true, decide_eq_true_eq, lbit_bv (by omega), ← hR.sw ha hb hk]
              exact ⟨q3, by rw [q2]; exact b2, q4⟩
      by_cases cc : anyB (fun a => decide (own a = i) && anyB (fun b => decide (own b ≠ i) && (lbit x (own b) && mtB h' 0 k a b)) nb) nb = true
      · rw [if_pos cc, if_neg (fun z => key.mp z cc)]
      · rw [if_neg cc, if_pos (key.mpr cc)]
    · exact absurd ⟨c.1, c.2.1⟩ q
    · exact absurd c.2.2 q
  · rintro E h' ⟨rfl, c⟩
    rcases hg with ⟨q, -⟩ | ⟨rfl, hg⟩
    · rcases c with ⟨c1, -⟩ | ⟨-, c1, -⟩
      · exact absurd q.1 c1
      · exact absurd q.2 c1
    · rcases c with ⟨c1, rfl⟩ | ⟨c0, c1, rfl⟩
      · rcases hg with ⟨-, rfl⟩ | ⟨q, -, -⟩
        · exact ⟨⟨_, rfl⟩, by rw [up_eq]; rfl, hR.gc _⟩
        · exact absurd q c1
      · rcases hg with ⟨q, -⟩ | ⟨-, -, rfl⟩
        · exact absurd c0 q
        · exact ⟨⟨_, rfl⟩, by rw [up_eq]; rfl, hR.gc _⟩
/-- both ran, and nothing is locked: the same on both sides -/
theorem RlD.stp {h g : Hp} {n : Nat} {it : Nat → Nat} {nb : Nat} {own : Nat → Nat} {ns ng : Nat} {ga gb : Nat → Nat} (hR : RlD h g n it nb own ns ng ga gb) : (¬ h.1 0 8 = 0 ∧ h.1 6 6 = 0) ↔ (¬ g.1 0 14 = 0 ∧ g.1 0 18 = 0) := by
  rw [hR.ran]
  by_cases c : g.1 0 14 = 0
  · simp [c]
  · obtain ⟨m, p1, p2, p3⟩ := hR.run (fun z => c (hR.ran.mp z))
    rw [(st_0 p1 p3 hR.A.2.1).1]
theorem op_apart {h g : Hp} {n : Nat} {it : Nat → Nat} {nb : Nat} {own : Nat → Nat} {ns ng : Nat} {ga gb : Nat → Nat} (hR : RlD h g n it nb own ns ng ga gb) {k : Int32} {m : Nat} (hm : g.1 0 15 = nI m) (m12 : m ≤ 12) {r' : Option Value} {g' : Hp} (hg : g.1 0 14 = 0 ∧ r' = some (.int 0) ∧ g' = upI g 0 0 1 ∨ ¬ g.1 0 14 = 0 ∧ (¬ 0 ≤ k ∧ r' = some (.int 0) ∧ g' = upI g 0 0 2 ∨ ∃ j, k = nI j ∧ j < 2 ^ 31 ∧ r' = some (.int (if j < m then g.1 10 j else -1)) ∧ g' = upI g 0 0 0)) :
    (∀ r h', (¬ h.1 0 8 = 0 ∧ 0 ≤ k) ∧ (∃ m j, PlI h (TC h it nb own (6 + ns)) (6 + ns) (allB it n) m ∧ k = nI j ∧ j < 2 ^ 31 ∧ r = some (.int (if j < m then nI (tkF (TC h it nb own (6 + ns)) (6 + ns) (allB it n) j) else -1)) ∧ h' = h) → Ag1 h' g' r r') ∧ (∀ E h', h' = h ∧ (h.1 0 8 = 0 ∧ E = 0 ∨ ¬ h.1 0 8 = 0 ∧ ¬ 0 ≤ k ∧ E = 1) → Ag2 h' g' (ce 1 2 0 E) r') := by
  rw [← hR.ran] at hg
  refine ⟨?_, ?_⟩
  · rintro r h' ⟨c, m', j, p1, rfl, hj, rfl, rfl⟩
    rcases hg with ⟨q, -⟩ | ⟨-, ⟨q, -⟩ | ⟨j', ej, hj', rfl, rfl⟩⟩
    · exact absurd q c.1
    · exact absurd c.2 q
    · have e : j = j' := (nI_eq hj hj').mp ej
      subst e
      obtain ⟨m2, z1, z2, z3⟩ := hR.run c.1
      have e := PlI_u z1 p1
      subst e
      have e : m' = m := (nI_eq (by have := z1.2.2.1; omega) (by omega)).mp (by rw [← hm, z3.1])
      subst e
      refine ⟨_, rfl, ?_, up_eq _ _ _ _, hR.gc 0⟩
      by_cases cj : j < m'
      · rw [if_pos cj, if_pos cj, (z3.2.2 j cj).1]
      · rw [if_neg cj, if_neg cj]
  · rintro E h' ⟨rfl, c⟩
    rcases c with ⟨c, rfl⟩ | ⟨c0, c1, rfl⟩
    · rcases hg with ⟨-, rfl, rfl⟩ | ⟨q, -⟩
      · exact ⟨⟨_, rfl⟩, by rw [up_eq]; rfl, hR.gc _⟩
      · exact absurd c q
    · rcases hg with ⟨q, -⟩ | ⟨-, ⟨-, rfl, rfl⟩ | ⟨j', ej, hj', -⟩⟩
      · exact absurd q c0
      · exact ⟨⟨_, rfl⟩, by rw [up_eq]; rfl, hR.gc _⟩
      · exact absurd (by rw [ej]; exact Int32.not_lt.mp (nI_pos hj')) c1
theorem op_locked {h g : Hp} {n : Nat} {it : Nat → Nat} {nb : Nat} {own : Nat → Nat} {ns ng : Nat} {ga gb : Nat → Nat} (hR : RlD h g n it nb own ns ng ga gb) {k : Int32} {B : Nat} (hl : g.1 0 18 = nI B) (hB : B < 4096) {r' : Option Value} {g' : Hp} (hg : g.1 0 14 = 0 ∧ r' = some (.int 0) ∧ g' = upI g 0 0 1 ∨ ¬ g.1 0 14 = 0 ∧ (¬ 0 ≤ k ∧ r' = some (.int 0) ∧ g' = upI g 0 0 2 ∨ 0 ≤ k ∧ r' = some (.int (lcM B it n 0 k)) ∧ g' = upI g 0 0 0)) :
    (∀ r h', (¬ h.1 0 8 = 0 ∧ 0 ≤ k) ∧ (∃ m, PlI h (TC h it nb own (6 + ns)) (6 + ns) (allB it n) m ∧ (m = 12 ∨ fstI (TC h it nb own (6 + ns)) (6 + ns) (plS (TC h it nb own (6 + ns)) (6 + ns) (allB it n) m) = none) ∧ r = some (.int (bAt (pOf it (plS (TC h it nb own (6 + ns)) (6 + ns) (allB it n) m) n) k 12 0 0)) ∧ h' = h) → Ag1 h' g' r r') ∧ (∀ E h', h' = h ∧ (h.1 0 8 = 0 ∧ E = 0 ∨ ¬ h.1 0 8 = 0 ∧ ¬ 0 ≤ k ∧ E = 1) → Ag2 h' g' (ce 1 2 0 E) r') := by
  rw [← hR.ran] at hg
  refine ⟨?_, ?_⟩
  · rintro r h' ⟨c, m', p1, -, rfl, rfl⟩
    rcases hg with ⟨q, -⟩ | ⟨-, ⟨q, -⟩ | ⟨-, rfl, rfl⟩⟩
    · exact absurd q c.1
    · exact absurd c.2 q
    · obtain ⟨m2, z1, z2, z3⟩ := hR.run c.1
      have e := PlI_u z1 p1
      subst e
      have lA := hR.A.2.1
      have pl := plS_lt (T := TC h' it nb own (6 + ns)) (nw := 6 + ns) lA m'
      have e : B = plS (TC h' it nb own (6 + ns)) (6 + ns) (allB it n) m' := (nI_eq (by omega) (by omega)).mp (by rw [← hl, z3.2.1])
      subst e
      refine ⟨_, rfl, ?_, up_eq _ _ _ _, hR.gc 0⟩
      have := lc_bAt (it := it) (B := plS (TC h' it nb own (6 + ns)) (6 + ns) (allB it n) m') (n := n) k n 0 0 (by omega)
      rw [show n + (12 - n) = 12 by have := hR.1.1.1.2.1; omega, Int32.sub_zero] at this
      rw [this]
  · rintro E h' ⟨rfl, c⟩
    rcases c with ⟨c, rfl⟩ | ⟨c0, c1, rfl⟩
    · rcases hg with ⟨-, rfl, rfl⟩ | ⟨q, -⟩
      · exact ⟨⟨_, rfl⟩, by rw [up_eq]; rfl, hR.gc _⟩
      · exact absurd c q
    · rcases hg with ⟨q, -⟩ | ⟨-, ⟨-, rfl, rfl⟩ | ⟨q, -⟩⟩
      · exact absurd q c0
      · exact ⟨⟨_, rfl⟩, by rw [up_eq]; rfl, hR.gc _⟩
      · exact absurd q c1
theorem op_stage {h g : Hp} {n : Nat} {it : Nat → Nat} {nb : Nat} {own : Nat → Nat} {ns ng : Nat} {ga gb : Nat → Nat} (hR : RlD h g n it nb own ns ng ga gb) {k : Int32} {m : Nat} (hm : g.1 0 15 = nI m) (m12 : m ≤ 12) {r' : Option Value} {g' : Hp} (hg : ¬ (¬ g.1 0 14 = 0 ∧ g.1 0 18 = 0) ∧ r' = some (.int 0) ∧ g' = upI g 0 0 1 ∨ (¬ g.1 0 14 = 0 ∧ g.1 0 18 = 0) ∧ (¬ 0 ≤ k ∧ r' = some (.int 0) ∧ g' = upI g 0 0 2 ∨ 0 ≤ k ∧ r' = some (.int (sgM (g.1 11) m m 0 k)) ∧ g' = upI g 0 0 0)) :
    (∀ r h', ((¬ h.1 0 8 = 0 ∧ h.1 6 6 = 0) ∧ 0 ≤ k) ∧ (∃ m, PlI h (TC h it nb own (6 + ns)) (6 + ns) (allB it n) m ∧ r = some (.int (stF (fun i => h.1 21 (m - 1 - i)) k m 0 0)) ∧ h' = h) → Ag1 h' g' r r') ∧ (∀ E h', h' = h ∧ (¬ (¬ h.1 0 8 = 0 ∧ h.1 6 6 = 0) ∧ E = 0 ∨ (¬ h.1 0 8 = 0 ∧ h.1 6 6 = 0) ∧ ¬ 0 ≤ k ∧ E = 1) → Ag2 h' g' (ce 1 2 0 E) r') := by
  rw [← hR.stp] at hg
  refine ⟨?_, ?_⟩
  · rintro r h' ⟨c, m', p1, rfl, rfl⟩
    rcases hg with ⟨q, -⟩ | ⟨-, ⟨q, -⟩ | ⟨-, rfl, rfl⟩⟩
    · exact absurd c.1 q
    · exact absurd c.2 q
    · obtain ⟨m2, z1, z2, z3⟩ := hR.run c.1.1
      have e := PlI_u z1 p1
      subst e
      have e : m' = m := (nI_eq (by have := z1.2.2.1; omega) (by omega)).mp (by rw [← hm, z3.1])
      subst e
      refine ⟨_, rfl, ?_, up_eq _ _ _ _, hR.gc 0⟩
      have := st_sg (w := h'.1 21) (w' := g.1 11) (M := m') (fun j hj => by rw [(z1.2.2.2 j hj).2.2.1, (z3.2.2 j hj).2]) k m' 0 0 (by omega)
      rw [Int32.sub_zero] at this
      rw [this]
  · rintro E h' ⟨rfl, c⟩
    rcases c with ⟨c, rfl⟩ | ⟨c0, c1, rfl⟩
    · rcases hg with ⟨-, rfl, rfl⟩ | ⟨q, -⟩
      · exact ⟨⟨_, rfl⟩, by rw [up_eq]; rfl, hR.gc _⟩
      · exact absurd q c
    · rcases hg with ⟨q, -⟩ | ⟨-, ⟨-, rfl, rfl⟩ | ⟨q, -⟩⟩
      · exact absurd c0 q
      · exact ⟨⟨_, rfl⟩, by rw [up_eq]; rfl, hR.gc _⟩
      · exact absurd q c1
theorem op_step {h g : Hp} {n : Nat} {it : Nat → Nat} {nb : Nat} {own : Nat → Nat} {ns ng : Nat} {ga gb : Nat → Nat} (hR : RlD h g n it nb own ns ng ga gb) {k t : Int32} {m : Nat} (hm : g.1 0 15 = nI m) (m12 : m ≤ 12) {tk : Nat → Nat} (htk : ∀ j, j < m → g.1 10 j = nI (tk j) ∧ tk j < 12) {r' : Option Value} {g' : Hp} (hg : ¬ (¬ g.1 0 14 = 0 ∧ g.1 0 18 = 0) ∧ r' = some (.int 0) ∧ g' = upI g 0 0 1 ∨ (¬ g.1 0 14 = 0 ∧ g.1 0 18 = 0) ∧ (¬ (0 ≤ k ∧ k < nI m) ∧ r' = some (.int 0) ∧ g' = upI g 0 0 2 ∨ (0 ≤ k ∧ k < nI m) ∧ ¬ (0 ≤ t ∧ t ≤ 2) ∧ r' = some (.int 0) ∧ g' = upI g 0 0 3 ∨ (0 ≤ t ∧ t ≤ 2) ∧ ∃ j, k = nI j ∧ j < m ∧ r' = some (.int (if t = 0 then nI (tk (m - 1 - j)) else if t = 1 then g.1 11 (m - 1 - j) else nI (ppM it (tk (m - 1 - j)) n))) ∧ g' = upI g 0 0 0)) :
    (∀ r h', (¬ h.1 0 8 = 0 ∧ h.1 6 6 = 0) ∧ (0 ≤ t ∧ t ≤ 2) ∧ (∃ m j, PlI h (TC h it nb own (6 + ns)) (6 + ns) (allB it n) m ∧ k = nI j ∧ j < m ∧ r = some (.int (if t = 1 then oI (lfw (TC h it nb own (6 + ns)) (6 + ns) (tkF (TC h it nb own (6 + ns)) (6 + ns) (allB it n) (m - 1 - j)) (plS (TC h it nb own (6 + ns)) (6 + ns) (allB it n) (m - 1 - j))) else if t = 0 then nI (tkF (TC h it nb own (6 + ns)) (6 + ns) (allB it n) (m - 1 - j)) else nI (pOf it (2 ^ tkF (TC h it nb own (6 + ns)) (6 + ns) (allB it n) (m - 1 - j)) n))) ∧ h' = h) → Ag1 h' g' r r') ∧ (∀ E h', h' = h ∧ (¬ (¬ h.1 0 8 = 0 ∧ h.1 6 6 = 0) ∧ E = 0 ∨ (¬ h.1 0 8 = 0 ∧ h.1 6 6 = 0) ∧ (¬ (0 ≤ k ∧ k < h.1 6 5) ∧ E = 1 ∨ (0 ≤ k ∧ k < h.1 6 5) ∧ ¬ (0 ≤ t ∧ t ≤ 2) ∧ E = 2)) → Ag2 h' g' (ce 1 2 3 E) r') := by
  rw [← hR.stp] at hg
  have em : ¬ h.1 0 8 = 0 → h.1 6 5 = nI m := fun z => by
    obtain ⟨m2, z1, z2, z3⟩ := hR.run z
    rw [z1.1, ← z3.1, hm]
  refine ⟨?_, ?_⟩
  · rintro r h' ⟨c, ct, m', j, p1, rfl, hj, rfl, rfl⟩
    obtain ⟨m2, z1, z2, z3⟩ := hR.run c.1
    have e := PlI_u z1 p1
    subst e
    have m12' := z1.2.2.1
    have e : m' = m := (nI_eq (by omega) (by omega)).mp (by rw [← hm, z3.1])
    subst e
    rcases hg with ⟨q, -⟩ | ⟨-, ⟨q, -⟩ | ⟨-, q, -⟩ | ⟨-, j', ej, hj', rfl, rfl⟩⟩
    · exact absurd c q
    · exact absurd ⟨Int32.not_lt.mp (nI_pos (by omega)), (nI_ltI (by omega) (by omega)).mpr hj⟩ q
    · exact absurd ct q
    · have e : j = j' := (nI_eq (by omega) (by omega)).mp ej
      subst e
      refine ⟨_, rfl, ?_, up_eq _ _ _ _, hR.gc 0⟩
      obtain ⟨t1, t2⟩ := htk (m' - 1 - j) (by omega)
      obtain ⟨y1, y2⟩ := z3.2.2 (m' - 1 - j) (by omega)
      have tl : tkF (TC h' it nb own (6 + ns)) (6 + ns) (allB it n) (m' - 1 - j) < 12 := by
        cases e : fstI (TC h' it nb own (6 + ns)) (6 + ns) (plS (TC h' it nb own (6 + ns)) (6 + ns) (allB it n) (m' - 1 - j)) with
        | none => exact absurd e (z1.2.2.2 _ (by omega)).1
        | some q =>
          have : tkF (TC h' it nb own (6 + ns)) (6 + ns) (allB it n) (m' - 1 - j) = q := by unfold tkF; rw [e]; rfl
          rw [this]
          exact (fstI_lt e).1
      have et : tk (m' - 1 - j) = tkF (TC h' it nb own (6 + ns)) (6 + ns) (allB it n) (m' - 1 - j) := (nI_eq (by omega) (by omega)).mp (by rw [← t1, y1])
      rw [et, y2, ppM_pOf]
      by_cases c0 : t = 0
      · subst c0
        rw [if_pos rfl, if_neg (by decide), if_pos rfl]
      · rw [if_neg c0]
        by_cases c1 : t = 1
        · rw [if_pos c1, if_pos c1]
        · rw [if_neg c1, if_neg c1, if_neg c0]
  · rintro E h' ⟨rfl, c⟩
    rcases c with ⟨c, rfl⟩ | ⟨c0, c⟩
    · rcases hg with ⟨-, rfl, rfl⟩ | ⟨q, -⟩
      · exact ⟨⟨_, rfl⟩, by rw [up_eq]; rfl, hR.gc _⟩
      · exact absurd q c
    · rw [em c0.1] at c
      rcases hg with ⟨q, -⟩ | ⟨-, hg⟩
      · exact absurd c0 q
      · rcases c with ⟨c1, rfl⟩ | ⟨c1, c2, rfl⟩
        · rcases hg with ⟨-, rfl, rfl⟩ | ⟨q, -⟩ | ⟨-, j, ej, hj, -⟩
          · exact ⟨⟨_, rfl⟩, by rw [up_eq]; rfl, hR.gc _⟩
          · exact absurd q c1
          · exact absurd ⟨by rw [ej]; exact Int32.not_lt.mp (nI_pos (by omega)), by rw [ej]; exact (nI_ltI (by omega) (by omega)).mpr hj⟩ c1
        · rcases hg with ⟨q, -⟩ | ⟨-, -, rfl, rfl⟩ | ⟨q, -⟩
          · exact absurd c1 q
          · exact ⟨⟨_, rfl⟩, by rw [up_eq]; rfl, hR.gc _⟩
          · exact absurd q c2
theorem op_keeps {h g : Hp} {n : Nat} {it : Nat → Nat} {nb : Nat} {own : Nat → Nat} {ns ng : Nat} {ga gb : Nat → Nat} (hR : RlD h g n it nb own ns ng ga gb) {m : Nat} (hm : g.1 0 15 = nI m) (m12 : m ≤ 12) {tk : Nat → Nat} (htk : ∀ j, j < m → g.1 10 j = nI (tk j) ∧ tk j < 12) {r' : Option Value} {g' : Hp} (hg : ¬ (¬ g.1 0 14 = 0 ∧ g.1 0 18 = 0) ∧ r' = some (.int 0) ∧ g' = upI g 0 0 1 ∨ (¬ g.1 0 14 = 0 ∧ g.1 0 18 = 0) ∧ r' = some (.int (if anyB (kfM g it ga gb tk m) ng then 0 else 1)) ∧ g' = upI g 0 0 0) :
    (∀ r h', (¬ h.1 0 8 = 0 ∧ h.1 6 6 = 0) ∧ r = some (.int (if anyB (kpB h it ga gb) ng then 0 else 1)) ∧ h' = h → Ag1 h' g' r r') ∧ (∀ E h', h' = h ∧ ¬ (¬ h.1 0 8 = 0 ∧ h.1 6 6 = 0) ∧ E = 0 → Ag2 h' g' (ce 1 0 0 E) r') := by
  rw [← hR.stp] at hg
  refine ⟨?_, ?_⟩
  · rintro r h' ⟨c, rfl, rfl⟩
    rcases hg with ⟨q, -⟩ | ⟨-, rfl, rfl⟩
    · exact absurd c q
    · refine ⟨_, rfl, ?_, up_eq _ _ _ _, hR.gc 0⟩
      obtain ⟨m', z1, z2, z3⟩ := hR.run c.1
      have m12' := z1.2.2.1
      have e : m' = m := (nI_eq (by omega) (by omega)).mp (by rw [← hm, z3.1])
      subst e
      obtain ⟨eA, lA, bA⟩ := hR.A
      have p0 := (st_0 z1 z3 lA).2.mp c.2
      have et : ∀ j, j < m' → tk j = tkF (TC h' it nb own (6 + ns)) (6 + ns) (allB it n) j := fun j hj => by
        have tl : tkF (TC h' it nb own (6 + ns)) (6 + ns) (allB it n) j < 12 := by
          cases e : fstI (TC h' it nb own (6 + ns)) (6 + ns) (plS (TC h' it nb own (6 + ns)) (6 + ns) (allB it n) j) with
          | none => exact absurd e (z1.2.2.2 _ hj).1
          | some q =>
            have : tkF (TC h' it nb own (6 + ns)) (6 + ns) (allB it n) j = q := by unfold tkF; rw [e]; rfl
            rw [this]
            exact (fstI_lt e).1
        exact (nI_eq (by have := (htk j hj).2; omega) (by omega)).mp (by rw [← (htk j hj).1, (z3.2.2 j hj).1])
      have so : ∀ u, soM tk u m' = soM (tkF (TC h' it nb own (6 + ns)) (6 + ns) (allB it n)) u m' := by
        intro u
        have key : ∀ d, d ≤ m' → soM tk u d = soM (tkF (TC h' it nb own (6 + ns)) (6 + ns) (allB it n)) u d := by
          intro d
          induction d with
          | zero => intro _; rfl
          | succ d ih =>
            intro hd
            show (if tk d = u then d else soM tk u d) = (if tkF (TC h' it nb own (6 + ns)) (6 + ns) (allB it n) d = u then d else soM (tkF (TC h' it nb own (6 + ns)) (6 + ns) (allB it n)) u d)
            rw [et d (by omega), ih (by omega)]
        exact key m' (Nat.le_refl _)
      have od : ∀ p, p < n → ∃ j, j < m' ∧ h'.1 22 (it p) = nI j ∧ soM tk (it p) m' = j := by
        intro p hp
        obtain ⟨j, j1, j2, j3⟩ := so_at lA (fun j hj => (z1.2.2.2 j hj).1) p0 (u := it p) ((allB_bit it (it p) n).mpr ⟨p, hp, rfl⟩)
        refine ⟨j, j1, ?_, by rw [so]; exact j3⟩
        rw [← j2]
        exact (z1.2.2.2 j j1).2.2.2
      have key : anyB (kpB h' it ga gb) ng = anyB (kfM g it ga gb tk m') ng := by
        refine anyB_congr (fun i hi => ?_)
        obtain ⟨q1, q2, q3, q4⟩ := hR.2.2.2.2.2.1.1.2.2 i hi
        obtain ⟨w1, w2⟩ := hR.2.2.2.2.2.1.2.2 i hi
        obtain ⟨a, a1, a2, a3⟩ := od (ga i) q2
        obtain ⟨b, b1, b2, b3⟩ := od (gb i) q4
        unfold kpB kfM
        rw [a2, b2, a3, b3, w1, Bool.eq_iff_iff, decide_eq_true_eq, ab_kf (by omega) (by omega) w2, Bool.not_eq_true', decide_eq_false_iff_not]
      rw [key]
  · rintro E h' ⟨rfl, c, rfl⟩
    rcases hg with ⟨-, rfl, rfl⟩ | ⟨q, -⟩
    · exact ⟨⟨_, rfl⟩, by rw [up_eq]; rfl, hR.gc _⟩
    · exact absurd q c
end PuL
