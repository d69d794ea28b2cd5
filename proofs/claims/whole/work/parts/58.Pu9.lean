/-! What each call keeps: box, deep, slant, group, glue, clamp -/
section PuI
theorem Bd_plc {v : Int64} (hv : plc v) : Bd 1000000 v := by
  obtain ⟨h1, h2⟩ := hv
  rw [Int64.le_iff_toInt_le] at h1 h2
  exact ⟨h1, h2⟩
theorem Bd_siz {v : Int64} (hv : siz v) : Bd 1000000 v := by
  obtain ⟨h1, h2⟩ := hv
  rw [Int64.le_iff_toInt_le] at h1 h2
  have e1 : (1 : Int64).toInt = 1 := by decide
  have e2 : (1000000 : Int64).toInt = 1000000 := by decide
  exact ⟨by omega, by omega⟩
theorem lt3 {x : Nat} (h : x < 3) : x = 0 ∨ x = 1 ∨ x = 2 := by omega
theorem op_box {h g : Hp} {n : Nat} {it : Nat → Nat} {nb : Nat} {own : Nat → Nat} {ns ng : Nat} {ga gb : Nat → Nat} (hR : RlD h g n it nb own ns ng ga gb) {p : Int32} {x y z w d : Int64} {r' : Option Value} {g' : Hp} (hg : (pOM g p ∧ nb < 40 ∧ (plc x ∧ plc y ∧ plc z) ∧ siz w ∧ siz d) ∧ r' = some (.int (nI nb)) ∧ g' = mbH (upI g 0 0 0) nb p x y z w d ∨ r' = some (.int 0) ∧ (¬ pOM g p ∧ g' = upI g 0 0 1 ∨ pOM g p ∧ ¬ nb < 40 ∧ g' = upI g 0 0 2 ∨ pOM g p ∧ nb < 40 ∧ ¬ ((plc x ∧ plc y ∧ plc z) ∧ siz w ∧ siz d) ∧ g' = upI g 0 0 3)) :
    (∀ r h', (pOk h p ∧ nb < 40 ∧ (plc x ∧ plc y ∧ plc z) ∧ siz w ∧ siz d) ∧ r = some (.int (nI nb)) ∧ h' = adH (upI h 0 8 0) nb p x y z w d → Ag1 h' g' r r') ∧ (∀ E h', h' = h ∧ (¬ pOk h p ∧ E = 1 ∨ pOk h p ∧ ¬ nb < 40 ∧ E = 0 ∨ pOk h p ∧ nb < 40 ∧ ¬ ((plc x ∧ plc y ∧ plc z) ∧ siz w ∧ siz d) ∧ E = 2) → Ag2 h' g' (ce 2 1 3 E) r') := by
  rw [← pOk_M hR p] at hg
  refine ⟨?_, ?_⟩
  · rintro r h' ⟨c, rfl, rfl⟩
    rcases hg with ⟨-, rfl, rfl⟩ | ⟨-, ⟨q, -⟩ | ⟨-, q, -⟩ | ⟨-, -, q, -⟩⟩
    · refine ⟨_, rfl, rfl, by simp [mbH, upI_get, upL_f], ?_⟩
      obtain ⟨⟨⟨⟨a1, a2, a3⟩, ⟨b1, b2, b3⟩, c9, d1, d2, d3⟩, sh, mz⟩, ⟨⟨e1, e2, e3⟩, ⟨f1, f2, f3⟩, k1, k2⟩, id, ⟨n1, n2, n3⟩, ⟨s1, s2⟩, ⟨⟨l1, l2, l3⟩, ⟨l4, l5, l6⟩, l7⟩, -, od⟩ := hR
      obtain ⟨q, rfl, hq⟩ := Ok_ex a1 (by omega) c.1
      refine ⟨n, it, nb + 1, fun i => if i = nb then q else own i, ns, ng, ga, gb, ⟨⟨⟨by simp [adH, upI_get, upL_f, a1], a2, fun i hi => by simp [adH, upI_get, upL_f]; exact a3 i hi⟩, ⟨by simp [adH, upI_get, upL_f], by omega, fun i hi => ?_⟩, fun i hi => ?_, by simp [adH, upI_get, upL_f, d1], d2, d3⟩, fun q hq => by simp [adH, upI_get, upL_f]; exact sh q hq, fun j hj => by simp [adH, upI_get, upL_f]; exact mz j hj⟩, ⟨⟨by simp [mbH, upI_get, upL_f, e1], e2, fun i hi => by simp [mbH, upI_get, upL_f]; exact e3 i hi⟩, ⟨by simp [mbH, upI_get, upL_f], by omega, fun i hi => ?_⟩, by simp [mbH, upI_get, upL_f, k1], k2⟩, id, ⟨fun a xx ha hx => ?_, fun ww xx hw hx => ?_, fun xx hx => ?_⟩, ⟨fun qq xx h1 h2 h3 => ?_, fun ww xx hw hx => ?_⟩, ⟨⟨by simp [adH, upI_get, upL_f, l1], l2, fun i hi => by simp [adH, upI_get, upL_f]; exact l3 i hi⟩, ⟨by simp [mbH, upI_get, upL_f, l4], l5, fun i hi => by simp [mbH, upI_get, upL_f]; exact l6 i hi⟩, fun i hi => by simp [adH, mbH, upI_get, upL_f]; exact l7 i hi⟩, Or.inl ⟨by simp [adH, upI_get, upL_f], by simp [mbH, upI_get, upL_f]⟩, od.g (by simp [mbH, upI_get, upL_f]) (by simp [mbH, upI_get, upL_f]) (fun j => by simp [mbH, upI_get, upL_f])⟩
      · by_cases e : i = nb
        · subst e; simp [adH, upI_get, upL_f]; omega
        · simp [adH, upI_get, upL_f, e]; exact b3 i (by omega)
      · by_cases e : i = nb
        · simp [e]; exact hq
        · simp [e]; exact c9 i (by omega)
      · by_cases e : i = nb
        · subst e; simp [mbH, upI_get, upL_f]; omega
        · simp [mbH, upI_get, upL_f, e]; exact f3 i (by omega)
      · by_cases e : a = nb
        · subst e
          have o1 : Bd 1000000 1 := ⟨by decide, by decide⟩
          rcases lt3 hx with rfl | rfl | rfl
          · simp [adH, mbH, upL_get, upI_s]
            exact ⟨Bd_plc c.2.2.1.1, Bd_siz c.2.2.2.1⟩
          · simp [adH, mbH, upL_get, upI_s]
            exact ⟨Bd_plc c.2.2.1.2.1, Bd_siz c.2.2.2.2⟩
          · simp [adH, mbH, upL_get, upI_s]
            exact ⟨Bd_plc c.2.2.1.2.2, o1⟩
        · have := n1 a xx (by omega) hx
          have z0 : ∀ j, j < 6 → ¬ 6 * a + xx = 6 * nb + j := by intro j hj; omega
          have z3 : ∀ j, j < 6 → ¬ 6 * a + (xx + 3) = 6 * nb + j := by intro j hj; omega
          have y0 : ¬ 6 * a + xx = 6 * nb := by omega
          have y3 : ¬ 6 * a + (xx + 3) = 6 * nb := by omega
          simp only [adH, mbH, upL_get, upI_s, e, and_false, if_false, z0 1 (by omega), z0 2 (by omega), z0 3 (by omega), z0 4 (by omega), z0 5 (by omega), z3 1 (by omega), z3 2 (by omega), z3 3 (by omega), z3 4 (by omega), z3 5 (by omega), y0, y3]
          exact this
      · have := n2 ww xx hw hx
        have t : ∀ j, j < 32 → ¬ 32 + xx = j := by intro j hj; omega
        simp only [adH, mbH, upL_get, upI_s, t 26 (by omega), t 27 (by omega), t 28 (by omega), t 29 (by omega), t 30 (by omega), t 31 (by omega), false_and, if_false, show ¬ (3 = 2) by decide]
        exact this
      · have := n3 xx hx
        have t : ∀ j, j < 32 → ¬ 32 + xx = j := by intro j hj; omega
        simp only [adH, upL_get, upI_s, t 26 (by omega), t 27 (by omega), t 28 (by omega), t 29 (by omega), t 30 (by omega), t 31 (by omega), false_and, if_false]
        exact this
      · have := s1 qq xx h1 h2 h3
        have t : ∀ j, j < 32 → ¬ 35 + xx = j := by intro j hj; omega
        simp only [adH, upL_get, upI_s, t 26 (by omega), t 27 (by omega), t 28 (by omega), t 29 (by omega), t 30 (by omega), t 31 (by omega), false_and, if_false]
        exact this
      · have := s2 ww xx hw hx
        have t : ∀ j, j < 32 → ¬ 32 + xx = j := by intro j hj; omega
        simp only [adH, upL_get, upI_s, t 26 (by omega), t 27 (by omega), t 28 (by omega), t 29 (by omega), t 30 (by omega), t 31 (by omega), false_and, if_false]
        exact this
    · exact absurd c.1 q
    · exact absurd c.2.1 q
    · exact absurd c.2.2 q
  · rintro E h' ⟨rfl, c⟩
    rcases hg with ⟨q, -, -⟩ | ⟨rfl, hg⟩
    · rcases c with ⟨c1, -⟩ | ⟨-, c1, -⟩ | ⟨-, -, c1, -⟩
      · exact absurd q.1 c1
      · exact absurd q.2.1 c1
      · exact absurd q.2.2 c1
    · rcases c with ⟨c1, rfl⟩ | ⟨c0, c1, rfl⟩ | ⟨c0, c1, c2, rfl⟩
      · rcases hg with ⟨-, rfl⟩ | ⟨q, -, -⟩ | ⟨q, -, -, -⟩
        · exact ⟨⟨_, rfl⟩, by rw [up_eq]; rfl, hR.gc _⟩
        · exact absurd q c1
        · exact absurd q c1
      · rcases hg with ⟨q, -⟩ | ⟨-, -, rfl⟩ | ⟨-, q, -, -⟩
        · exact absurd c0 q
        · exact ⟨⟨_, rfl⟩, by rw [up_eq]; rfl, hR.gc _⟩
        · exact absurd q c1
      · rcases hg with ⟨q, -⟩ | ⟨-, q, -⟩ | ⟨-, -, -, rfl⟩
        · exact absurd c0 q
        · exact absurd c1 q
        · exact ⟨⟨_, rfl⟩, by rw [up_eq]; rfl, hR.gc _⟩
theorem bOk_M {h g : Hp} {n : Nat} {it : Nat → Nat} {nb : Nat} {own : Nat → Nat} {ns ng : Nat} {ga gb : Nat → Nat} (hR : RlD h g n it nb own ns ng ga gb) (p : Int32) : bOk h p ↔ bOM g p := by
  unfold bOk bOM
  rw [hR.1.1.2.1.1, hR.2.1.2.1.1]
theorem op_deep {h g : Hp} {n : Nat} {it : Nat → Nat} {nb : Nat} {own : Nat → Nat} {ns ng : Nat} {ga gb : Nat → Nat} (hR : RlD h g n it nb own ns ng ga gb) {b : Int32} {d : Int64} {r' : Option Value} {g' : Hp} (hg : (bOM g b ∧ siz d) ∧ (∃ i, b = nI i ∧ i < nb ∧ (g.2 2 (6 * i + 5) = g.2 2 (6 * i + 2) + d ∧ r' = some (.int 0) ∧ g' = upI g 0 0 0 ∨ g.2 2 (6 * i + 5) ≠ g.2 2 (6 * i + 2) + d ∧ r' = some (.int 1) ∧ g' = upI (upL (upI g 0 0 0) 2 (6 * i + 5) (g.2 2 (6 * i + 2) + d)) 0 14 0)) ∨ r' = some (.int 0) ∧ (¬ bOM g b ∧ g' = upI g 0 0 1 ∨ bOM g b ∧ ¬ siz d ∧ g' = upI g 0 0 2)) :
    (∀ r h', (bOk h b ∧ siz d) ∧ (∃ i, b = nI i ∧ i < nb ∧ (h.2 31 i = d ∧ r = some (.int 0) ∧ h' = h ∨ h.2 31 i ≠ d ∧ r = some (.int 1) ∧ h' = upI (upL h 31 i d) 0 8 0)) → Ag1 h' g' r r') ∧ (∀ E h', h' = h ∧ (¬ bOk h b ∧ E = 1 ∨ bOk h b ∧ ¬ siz d ∧ E = 2) → Ag2 h' g' (ce 0 1 2 E) r') := by
  rw [← bOk_M hR b] at hg
  refine ⟨?_, ?_⟩
  · rintro r h' ⟨c, i, rfl, hi, hx⟩
    have h40 := hR.1.1.2.1.2.1
    rcases hg with ⟨-, j, ej, hj, hg⟩ | ⟨-, ⟨q, -⟩ | ⟨-, q, -⟩⟩
    · have e : i = j := (nI_eq (by omega) (by omega)).mp ej
      subst e
      obtain ⟨q1, q2, -, -⟩ := hR.2.2.2.1.1 i 2 hi (by omega)
      have key : g.2 2 (6 * i + 5) = g.2 2 (6 * i + 2) + d ↔ h.2 31 i = d := by
        rw [q1, show 6 * i + 5 = 6 * i + (2 + 3) from rfl, q2]
        exact Int64.add_right_inj (h.2 (26 + 2) i)
      rw [ne_eq, key] at hg
      rcases hx with ⟨x1, rfl, rfl⟩ | ⟨x1, rfl, rfl⟩
      · rcases hg with ⟨-, rfl, rfl⟩ | ⟨z, -⟩
        · exact ⟨_, rfl, rfl, up_eq _ _ _ _, hR.gc 0⟩
        · exact absurd x1 z
      · rcases hg with ⟨z, -⟩ | ⟨-, rfl, rfl⟩
        · exact absurd z x1
        · refine ⟨_, rfl, rfl, by simp [upI_get, upL_f], ?_⟩
          obtain ⟨⟨⟨⟨a1, a2, a3⟩, ⟨b1, b2, b3⟩, c9, d1, d2, d3⟩, sh, mz⟩, ⟨⟨e1, e2, e3⟩, ⟨f1, f2, f3⟩, k1, k2⟩, id, ⟨n1, n2, n3⟩, ⟨s1, s2⟩, ⟨⟨l1, l2, l3⟩, ⟨l4, l5, l6⟩, l7⟩, -, od⟩ := hR
          refine ⟨n, it, nb, own, ns, ng, ga, gb, ⟨⟨⟨by simp [upI_get, upL_f, a1], a2, fun i hi => by simp [upI_get, upL_f]; exact a3 i hi⟩, ⟨by simp [upI_get, upL_f, b1], b2, fun i hi => by simp [upI_get, upL_f]; exact b3 i hi⟩, c9, by simp [upI_get, upL_f, d1], d2, d3⟩, fun q hq => by simp [upI_get, upL_f]; exact sh q hq, fun j hj => by simp [upI_get, upL_f]; exact mz j hj⟩, ⟨⟨by simp [upI_get, upL_f, e1], e2, fun i hi => by simp [upI_get, upL_f]; exact e3 i hi⟩, ⟨by simp [upI_get, upL_f, f1], f2, fun i hi => by simp [upI_get, upL_f]; exact f3 i hi⟩, by simp [upI_get, upL_f, k1], k2⟩, id, ⟨fun a xx ha hx => ?_, fun ww xx hw hx => ?_, fun xx hx => ?_⟩, ⟨fun qq xx h1 h2 h3 => ?_, fun ww xx hw hx => ?_⟩, ⟨⟨by simp [upI_get, upL_f, l1], l2, fun i hi => by simp [upI_get, upL_f]; exact l3 i hi⟩, ⟨by simp [upI_get, upL_f, l4], l5, fun i hi => by simp [upI_get, upL_f]; exact l6 i hi⟩, fun i hi => by simp [upI_get, upL_f]; exact l7 i hi⟩, Or.inl ⟨by simp [upI_get, upL_f], by simp [upI_get, upL_f]⟩, od.g (by simp [upI_get, upL_f]) (by simp [upI_get, upL_f]) (fun j => by simp [upI_get, upL_f])⟩
          · have nn := n1 a xx ha hx
            have t0 : ¬ 6 * a + xx = 6 * i + 5 := by omega
            have t1 : ¬ 26 + xx = 31 := by omega
            by_cases e : a = i ∧ xx = 2
            · obtain ⟨rfl, rfl⟩ := e
              simp only [upI_s, upL_get, t0, and_false, if_false]
              refine ⟨nn.1, ?_, nn.2.2.1, ?_⟩
              · simp [nn.1]
              · simp; exact Bd_siz c.2
            · have t2 : ¬ 6 * a + (xx + 3) = 6 * i + 5 := by omega
              have t3 : ¬ (29 + xx = 31 ∧ a = i) := by omega
              simp only [upI_s, upL_get, t0, t1, t2, t3, and_false, false_and, if_false]
              exact nn
          · have t1 : ¬ 32 + xx = 31 := by omega
            simp only [upI_s, upL_get, t1, false_and, if_false, show ¬ (3 = 2) by decide]
            exact n2 ww xx hw hx
          · have t1 : ¬ 32 + xx = 31 := by omega
            simp only [upI_s, upL_get, t1, false_and, if_false]
            exact n3 xx hx
          · have t1 : ¬ 35 + xx = 31 := by omega
            simp only [upI_s, upL_get, t1, false_and, if_false]
            exact s1 qq xx h1 h2 h3
          · have t1 : ¬ 32 + xx = 31 := by omega
            simp only [upI_s, upL_get, t1, false_and, if_false]
            exact s2 ww xx hw hx
    · exact absurd c.1 q
    · exact absurd c.2 q
  · rintro E h' ⟨rfl, c⟩
    rcases hg with ⟨q, -⟩ | ⟨rfl, hg⟩
    · rcases c with ⟨c1, -⟩ | ⟨-, c1, -⟩
      · exact absurd q.1 c1
      · exact absurd q.2 c1
    · rcases c with ⟨c1, rfl⟩ | ⟨c0, c1, rfl⟩
      · rcases hg with ⟨-, rfl⟩ | ⟨q, -, -⟩
        · exact ⟨⟨_, rfl⟩, by rw [up_eq]; rfl, hR.gc _⟩
        · exact absurd q c1
      · rcases hg with ⟨q, -⟩ | ⟨-, -, rfl⟩
        · exact absurd c0 q
        · exact ⟨⟨_, rfl⟩, by rw [up_eq]; rfl, hR.gc _⟩
theorem op_slant {h g : Hp} {n : Nat} {it : Nat → Nat} {nb : Nat} {own : Nat → Nat} {ns ng : Nat} {ga gb : Nat → Nat} (hR : RlD h g n it nb own ns ng ga gb) {x y z : Int64} {r' : Option Value} {g' : Hp} (hg : ((slt x ∧ slt y ∧ slt z) ∧ ¬ (x = 0 ∧ y = 0 ∧ z = 0)) ∧ (ns = 4 ∧ r' = some (.int 0) ∧ g' = upI g 0 0 0 ∨ ns < 4 ∧ r' = some (.int 1) ∧ g' = upI (upI (upL (upL (upL (upI g 0 0 0) 3 (3 * (6 + ns)) x) 3 (3 * (6 + ns) + 1) y) 3 (3 * (6 + ns) + 2) z) 0 5 (nI (ns + 1))) 0 14 0) ∨ ¬ ((slt x ∧ slt y ∧ slt z) ∧ ¬ (x = 0 ∧ y = 0 ∧ z = 0)) ∧ r' = some (.int 0) ∧ g' = upI g 0 0 1) :
    (∀ r h', ((slt x ∧ slt y ∧ slt z) ∧ ¬ (x = 0 ∧ y = 0 ∧ z = 0)) ∧ (6 + ns = 10 ∧ r = some (.int 0) ∧ h' = h ∨ 6 + ns < 10 ∧ r = some (.int 1) ∧ h' = upI (upI (upL (upL (upL h 32 (6 + ns) x) 33 (6 + ns) y) 34 (6 + ns) z) 3 0 (nI (6 + ns + 1))) 0 8 0) → Ag1 h' g' r r') ∧ (∀ E h', h' = h ∧ ¬ ((slt x ∧ slt y ∧ slt z) ∧ ¬ (x = 0 ∧ y = 0 ∧ z = 0)) ∧ E = 2 → Ag2 h' g' (ce 0 0 1 E) r') := by
  refine ⟨?_, ?_⟩
  · rintro r h' ⟨c, hx⟩
    rcases hg with ⟨-, hg⟩ | ⟨q, -, -⟩
    · rcases hx with ⟨x1, rfl, rfl⟩ | ⟨x1, rfl, rfl⟩
      · rcases hg with ⟨-, rfl, rfl⟩ | ⟨q, -⟩
        · exact ⟨_, rfl, rfl, up_eq _ _ _ _, hR.gc 0⟩
        · omega
      · rcases hg with ⟨q, -⟩ | ⟨-, rfl, rfl⟩
        · omega
        · refine ⟨_, rfl, rfl, by simp [upI_get, upL_f], ?_⟩
          obtain ⟨⟨⟨⟨a1, a2, a3⟩, ⟨b1, b2, b3⟩, c9, d1, d2, d3⟩, sh, mz⟩, ⟨⟨e1, e2, e3⟩, ⟨f1, f2, f3⟩, k1, k2⟩, id, ⟨n1, n2, n3⟩, ⟨s1, s2⟩, ⟨⟨l1, l2, l3⟩, ⟨l4, l5, l6⟩, l7⟩, -, od⟩ := hR
          refine ⟨n, it, nb, own, ns + 1, ng, ga, gb, ⟨⟨⟨by simp [upI_get, upL_f, a1], a2, fun i hi => by simp [upI_get, upL_f]; exact a3 i hi⟩, ⟨by simp [upI_get, upL_f, b1], b2, fun i hi => by simp [upI_get, upL_f]; exact b3 i hi⟩, c9, by rw [up_off _ _ _ _ (by decide), up_eq]; rfl, by omega, by omega⟩, fun q hq => by simp [upI_get, upL_f]; exact sh q hq, fun j hj => by simp [upI_get, upL_f]; exact mz j hj⟩, ⟨⟨by simp [upI_get, upL_f, e1], e2, fun i hi => by simp [upI_get, upL_f]; exact e3 i hi⟩, ⟨by simp [upI_get, upL_f, f1], f2, fun i hi => by simp [upI_get, upL_f]; exact f3 i hi⟩, by simp [upI_get, upL_f], by omega⟩, id, ⟨fun a xx ha hx => ?_, fun ww xx hw hx => ?_, fun xx hx => ?_⟩, ⟨fun qq xx h1 h2 h3 => ?_, fun ww xx hw hx => ?_⟩, ⟨⟨by simp [upI_get, upL_f, l1], l2, fun i hi => by simp [upI_get, upL_f]; exact l3 i hi⟩, ⟨by simp [upI_get, upL_f, l4], l5, fun i hi => by simp [upI_get, upL_f]; exact l6 i hi⟩, fun i hi => by simp [upI_get, upL_f]; exact l7 i hi⟩, Or.inl ⟨by simp [upI_get, upL_f], by simp [upI_get, upL_f]⟩, od.g (by simp [upI_get, upL_f]) (by simp [upI_get, upL_f]) (fun j => by simp [upI_get, upL_f])⟩
          · have nn := n1 a xx ha hx
            have t0 : ∀ j, 32 ≤ j → ¬ 26 + xx = j := by intro j hj; omega
            have t1 : ∀ j, 32 ≤ j → ¬ 29 + xx = j := by intro j hj; omega
            simp only [upI_s, upL_get, t0 32 (by omega), t0 33 (by omega), t0 34 (by omega), t1 32 (by omega), t1 33 (by omega), t1 34 (by omega), false_and, if_false, show ¬ (2 = 3) by decide]
            exact nn
          · by_cases e : ww = 6 + ns
            · subst e
              rcases lt3 hx with rfl | rfl | rfl
              · simp [upI_s, upL_get]
              · simp [upI_s, upL_get]
              · simp [upI_s, upL_get]
            · have nn := n2 ww xx (by omega) hx
              have u0 : ¬ 3 * ww + xx = 3 * (6 + ns) := by omega
              have u1 : ¬ 3 * ww + xx = 3 * (6 + ns) + 1 := by omega
              have u2 : ¬ 3 * ww + xx = 3 * (6 + ns) + 2 := by omega
              simp only [upI_s, upL_get, e, u0, u1, u2, and_false, if_false]
              exact nn
          · have t : ¬ 10 = 6 + ns := by omega
            simp only [upI_s, upL_get, t, and_false, if_false]
            exact n3 xx hx
          · have t0 : ∀ j, j < 35 → ¬ 35 + xx = j := by intro j hj; omega
            simp only [upI_s, upL_get, t0 32 (by omega), t0 33 (by omega), t0 34 (by omega), false_and, if_false]
            exact s1 qq xx h1 h2 h3
          · have t : ¬ ww = 6 + ns := by omega
            simp only [upI_s, upL_get, t, and_false, if_false]
            exact s2 ww xx hw hx
    · exact absurd c q
  · rintro E h' ⟨rfl, c, rfl⟩
    rcases hg with ⟨q, -⟩ | ⟨-, rfl, rfl⟩
    · exact absurd q c
    · exact ⟨⟨_, rfl⟩, by rw [up_eq]; rfl, hR.gc _⟩
end PuI
