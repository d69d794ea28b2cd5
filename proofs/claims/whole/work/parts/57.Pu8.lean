/-! What holds of both sides between two calls; and what each call keeps of it -/
section PuH
theorem upI_get (h : Hp) (k j : Nat) (v : Int32) (a b : Nat) : (upI h k j v).1 a b = if a = k ∧ b = j then v else h.1 a b := by
  by_cases e : a = k
  · subst e
    by_cases e2 : b = j
    · subst e2; rw [up_eq, if_pos ⟨rfl, rfl⟩]
    · rw [up_ne _ _ _ _ e2, if_neg (fun z => e2 z.2)]
  · rw [up_off _ _ _ _ e, if_neg (fun z => e z.1)]
theorem upL_get (h : Hp) (k j : Nat) (v : Int64) (a b : Nat) : (upL h k j v).2 a b = if a = k ∧ b = j then v else h.2 a b := by
  by_cases e : a = k
  · subst e
    by_cases e2 : b = j
    · subst e2; rw [upL_eq, if_pos ⟨rfl, rfl⟩]
    · rw [upL_ne _ _ _ _ e2, if_neg (fun z => e2 z.2)]
  · rw [upL_off2 _ _ _ _ e, if_neg (fun z => e z.1)]
theorem upI_s (h : Hp) (k j : Nat) (v : Int32) : (upI h k j v).2 = h.2 := rfl
theorem upL_f (h : Hp) (k j : Nat) (v : Int64) : (upL h k j v).1 = h.1 := rfl
/-- what the reference keeps of a run -/
def MgI (g : Hp) (T : Nat → Nat → Nat) (nw A m : Nat) : Prop := g.1 0 15 = nI m ∧ g.1 0 18 = nI (plS T nw A m) ∧ ∀ j, j < m → g.1 10 j = nI (tkF T nw A j) ∧ g.1 11 j = oI (lfw T nw (tkF T nw A j) (plS T nw A j))
/-- what stands in the reference's record, also of a run that no longer counts -/
def OdI (g : Hp) : Prop := ∃ (M : Nat) (tk : Nat → Nat) (B : Nat), g.1 0 15 = nI M ∧ M ≤ 12 ∧ (∀ j, j < M → g.1 10 j = nI (tk j) ∧ tk j < 12) ∧ g.1 0 18 = nI B ∧ B < 4096
theorem OdI.g {g g' : Hp} (od : OdI g) (h15 : g'.1 0 15 = g.1 0 15) (h18 : g'.1 0 18 = g.1 0 18) (h10 : ∀ j, g'.1 10 j = g.1 10 j) : OdI g' := by
  obtain ⟨M, tk, B, a, b, c, d, e⟩ := od
  exact ⟨M, tk, B, by rw [h15]; exact a, b, fun j hj => by rw [h10]; exact c j hj, by rw [h18]; exact d, e⟩
/-- both ran, or none did -/
def RnE (h g : Hp) (n : Nat) (it : Nat → Nat) (nb : Nat) (own : Nat → Nat) (ns : Nat) : Prop := (h.1 0 8 = 0 ∧ g.1 0 14 = 0 ∨ h.1 0 8 = 1 ∧ g.1 0 14 = 1 ∧ RanI h n it nb own (6 + ns) ∧ ∃ m, h.1 6 5 = nI m ∧ m ≤ 12 ∧ MgI g (TC h it nb own (6 + ns)) (6 + ns) (allB it n) m) ∧ OdI g
def GlE (h g : Hp) (n ng : Nat) (ga gb : Nat → Nat) : Prop := GlI h n ng ga gb ∧ GmI g n ng ga gb ∧ ∀ i, i < ng → h.1 16 i = g.1 7 i ∧ 0 ≤ g.1 7 i
def RlD (h g : Hp) (n : Nat) (it : Nat → Nat) (nb : Nat) (own : Nat → Nat) (ns ng : Nat) (ga gb : Nat → Nat) : Prop :=
  BV h n it nb own (6 + ns) ∧ MdI g n it nb own ns ∧ (∀ p, p < n → it (it p) = it p) ∧ NmE h g nb (6 + ns) ∧ (SbI h ∧ ∀ w x, w < 6 → x < 3 → h.2 (32 + x) w = Ev w x) ∧ GlE h g n ng ga gb ∧ RnE h g n it nb own ns
def Rl (h g : Hp) : Prop := ∃ n it nb own ns ng ga gb, RlD h g n it nb own ns ng ga gb
/-- both answered, and the same -/
def Ag1 (h g : Hp) (r r' : Option Value) : Prop := ∃ v, r = some (.int v) ∧ r' = some (.int v) ∧ g.1 0 0 = 0 ∧ Rl h g
/-- the class threw, and the reference tells that with c -/
def Ag2 (h g : Hp) (c : Int32) (r' : Option Value) : Prop := (∃ v, r' = some (.int v)) ∧ g.1 0 0 = c ∧ Rl h g
/-- the helper's answer for an exception -/
def ce (a b c : Int32) (E : Nat) : Int32 := match E with
  | 0 => a
  | 1 => b
  | _ => c
/-- the reference's cells that count are the same -/
def SmG (g g' : Hp) : Prop := (∀ j, j ≠ 0 → g'.1 0 j = g.1 0 j) ∧ (∀ k, k ≠ 0 → k ≠ 9 → k ≠ 12 → k ≠ 13 → g'.1 k = g.1 k) ∧ g'.2 2 = g.2 2 ∧ g'.2 3 = g.2 3
theorem SmG.c (g : Hp) (v : Int32) : SmG g (upI g 0 0 v) := ⟨fun j hj => up_ne _ _ _ _ hj, fun k hk _ _ _ => up_off _ _ _ _ hk, rfl, rfl⟩
theorem SmG.tr {g g' g'' : Hp} (h1 : SmG g g') (h2 : SmG g' g'') : SmG g g'' := ⟨fun j hj => (h2.1 j hj).trans (h1.1 j hj), fun k a b c d => (h2.2.1 k a b c d).trans (h1.2.1 k a b c d), h2.2.2.1.trans h1.2.2.1, h2.2.2.2.trans h1.2.2.2⟩
theorem SmG.s (g : Hp) {k : Nat} (hk : k = 9 ∨ k = 12 ∨ k = 13) (f : Nat → Int32) : SmG g (setI g k f) := ⟨fun j _ => by rw [setI_ne _ _ (by omega)], fun q a b c d => setI_ne _ _ (by omega), rfl, rfl⟩
theorem SmG.std (g : Hp) : SmG g (std g) := ⟨fun _ _ => rfl, fun _ _ _ _ _ => rfl, setL_ne _ _ (by decide), setL_ne _ _ (by decide)⟩
theorem RlD.g {h g g' : Hp} {n : Nat} {it : Nat → Nat} {nb : Nat} {own : Nat → Nat} {ns ng : Nat} {ga gb : Nat → Nat} (hR : RlD h g n it nb own ns ng ga gb) (hs : SmG g g') : RlD h g' n it nb own ns ng ga gb := by
  obtain ⟨a, ⟨⟨b1, b2, b3⟩, ⟨c1, c2, c3⟩, d1, d2⟩, e, ⟨f1, f2, f3⟩, k, ⟨l1, ⟨l2, l3, l4⟩, l5⟩, m, od⟩ := hR
  obtain ⟨s1, s2, s3, s4⟩ := hs
  have t1 := s2 1 (by decide) (by decide) (by decide) (by decide)
  have t4 := s2 4 (by decide) (by decide) (by decide) (by decide)
  have t5 := s2 5 (by decide) (by decide) (by decide) (by decide)
  have t6 := s2 6 (by decide) (by decide) (by decide) (by decide)
  have t7 := s2 7 (by decide) (by decide) (by decide) (by decide)
  have t10 := s2 10 (by decide) (by decide) (by decide) (by decide)
  have t11 := s2 11 (by decide) (by decide) (by decide) (by decide)
  refine ⟨a, ⟨⟨by rw [s1 1 (by decide)]; exact b1, b2, fun i hi => by rw [t4]; exact b3 i hi⟩, ⟨by rw [s1 2 (by decide)]; exact c1, c2, fun i hi => by rw [t1]; exact c3 i hi⟩, by rw [s1 5 (by decide)]; exact d1, d2⟩, e, ⟨fun a x ha hx => by rw [s3]; exact f1 a x ha hx, fun w x hw hx => by rw [s4]; exact f2 w x hw hx, f3⟩, k, ⟨l1, ⟨by rw [s1 8 (by decide)]; exact l2, l3, fun i hi => by rw [t5, t6]; exact l4 i hi⟩, fun i hi => by rw [t7]; exact l5 i hi⟩, ?_, od.g (s1 15 (by decide)) (s1 18 (by decide)) (fun j => by rw [t10])⟩
  rcases m with ⟨m1, m2⟩ | ⟨m1, m2, m3, m, m4, m5, m6, m7, m8⟩
  · exact Or.inl ⟨m1, by rw [s1 14 (by decide)]; exact m2⟩
  · exact Or.inr ⟨m1, by rw [s1 14 (by decide)]; exact m2, m3, m, m4, m5, by rw [s1 15 (by decide)]; exact m6, by rw [s1 18 (by decide)]; exact m7, fun j hj => by rw [t10, t11]; exact m8 j hj⟩
theorem RlD.r {h g : Hp} {n : Nat} {it : Nat → Nat} {nb : Nat} {own : Nat → Nat} {ns ng : Nat} {ga gb : Nat → Nat} (hR : RlD h g n it nb own ns ng ga gb) : Rl h g := ⟨n, it, nb, own, ns, ng, ga, gb, hR⟩
theorem RlD.gc {h g : Hp} {n : Nat} {it : Nat → Nat} {nb : Nat} {own : Nat → Nat} {ns ng : Nat} {ga gb : Nat → Nat} (hR : RlD h g n it nb own ns ng ga gb) (v : Int32) : Rl h (upI g 0 0 v) := (hR.g (SmG.c g v)).r
/-- the class's heap behind turnings, two or out -/
theorem RlD.h {h h' g : Hp} {n : Nat} {it : Nat → Nat} {nb : Nat} {own : Nat → Nat} {ns ng : Nat} {ga gb : Nat → Nat} (hR : RlD h g n it nb own ns ng ga gb) (h8 : ¬ h.1 0 8 = 0) (hf : FrR h h') (h8' : h'.1 0 8 = 1) (hr : RanI h' n it nb own (6 + ns)) (h6 : h'.1 6 = h.1 6) : RlD h' g n it nb own ns ng ga gb := by
  obtain ⟨a, b, e, ⟨f1, f2, f3⟩, ⟨k1, k2⟩, ⟨⟨l1, l1', l1''⟩, l2, l5⟩, m, od⟩ := hR
  have mt : TC h' it nb own (6 + ns) = TC h it nb own (6 + ns) := by
    unfold TC
    rw [mtB_fn hf.1]
  refine ⟨BV.frR a hf, b, e, ⟨fun a x ha hx => ?_, fun w x hw hx => ?_, fun x hx => ?_⟩, ⟨fun q x h1 h2 h3 => ?_, fun w x hw hx => ?_⟩, ⟨⟨?_, l1', fun i hi => ?_⟩, l2, fun i hi => ?_⟩, ?_, od⟩
  · rw [hf.1 (26 + x) (by omega), hf.1 (29 + x) (by omega)]; exact f1 a x ha hx
  · rw [hf.1 (32 + x) (by omega)]; exact f2 w x hw hx
  · rw [hf.1 (32 + x) (by omega)]; exact f3 x hx
  · rw [hf.1 (35 + x) (by omega)]; exact k1 q x h1 h2 h3
  · rw [hf.1 (32 + x) (by omega)]; exact k2 w x hw hx
  · rw [hf.2 4 (by decide) (by decide)]; exact l1
  · rw [hf.2 14 (by decide) (by decide), hf.2 15 (by decide) (by decide)]; exact l1'' i hi
  · rw [hf.2 16 (by decide) (by decide)]; exact l5 i hi
  · rcases m with ⟨m1, m2⟩ | ⟨m1, m2, m3, m, m4, m5, m6⟩
    · exact absurd m1 h8
    · exact Or.inr ⟨h8', m2, hr, m, by rw [h6]; exact m4, m5, by rw [mt]; exact m6⟩
theorem pOk_M {h g : Hp} {n : Nat} {it : Nat → Nat} {nb : Nat} {own : Nat → Nat} {ns ng : Nat} {ga gb : Nat → Nat} (hR : RlD h g n it nb own ns ng ga gb) (p : Int32) : pOk h p ↔ pOM g p := by
  unfold pOk pOM
  rw [hR.1.1.1.1, hR.2.1.1.1]
-- part
theorem op_part {h g : Hp} {n : Nat} {it : Nat → Nat} {nb : Nat} {own : Nat → Nat} {ns ng : Nat} {ga gb : Nat → Nat} (hR : RlD h g n it nb own ns ng ga gb) {r' : Option Value} {g' : Hp} (hg : n = 12 ∧ r' = some (.int 0) ∧ g' = upI g 0 0 1 ∨ n < 12 ∧ r' = some (.int (nI n)) ∧ g' = upI (upI (upI (upI g 0 0 0) 4 n (nI n)) 0 1 (nI (n + 1))) 0 14 0) :
    (∀ r h', n < 12 ∧ r = some (.int (nI n)) ∧ h' = upI (upI (upI h 0 8 0) 9 n (nI n)) 1 0 (nI (n + 1)) → Ag1 h' g' r r') ∧ (∀ E h', n = 12 ∧ E = 0 ∧ h' = h → Ag2 h' g' (ce 1 0 0 E) r') := by
  refine ⟨?_, ?_⟩
  · rintro r h' ⟨c1, rfl, rfl⟩
    rcases hg with ⟨c2, -, -⟩ | ⟨-, rfl, rfl⟩
    · omega
    · refine ⟨_, rfl, rfl, by simp [upI_get], ?_⟩
      obtain ⟨⟨⟨⟨a1, a2, a3⟩, ⟨b1, b2, b3⟩, c, d1, d2, d3⟩, sh, mz⟩, ⟨⟨e1, e2, e3⟩, ⟨f1, f2, f3⟩, k1, k2⟩, id, ⟨n1, n2, n3⟩, ⟨s1, s2⟩, ⟨⟨l1, l2, l3⟩, ⟨l4, l5, l6⟩, l7⟩, -, od⟩ := hR
      refine ⟨n + 1, fun p => if p = n then n else it p, nb, own, ns, ng, ga, gb, ⟨⟨⟨by simp [upI_get], by omega, fun i hi => ?_⟩, ⟨by simp [upI_get, b1], b2, fun i hi => by simp [upI_get]; exact b3 i hi⟩, fun i hi => by have := c i hi; omega, by simp [upI_get, d1], d2, d3⟩, fun q hq => by simp [upI_get]; exact sh q hq, fun j hj => by simp [upI_get]; exact mz j hj⟩, ⟨⟨by simp [upI_get], by omega, fun i hi => ?_⟩, ⟨by simp [upI_get, f1], f2, fun i hi => by simp [upI_get]; exact f3 i hi⟩, by simp [upI_get, k1], k2⟩, fun p hp => ?_, ⟨n1, n2, n3⟩, ⟨s1, s2⟩, ⟨⟨by simp [upI_get, l1], l2, fun i hi => by simp [upI_get]; have := l3 i hi; exact ⟨this.1, by omega, this.2.2.1, by omega⟩⟩, ⟨by simp [upI_get, l4], l5, fun i hi => by simp [upI_get]; have := l6 i hi; exact ⟨this.1, by omega, this.2.2.1, by omega⟩⟩, fun i hi => by simp [upI_get]; exact l7 i hi⟩, Or.inl ⟨by simp [upI_get], by simp [upI_get]⟩, od.g (by simp [upI_get]) (by simp [upI_get]) (fun j => by simp [upI_get])⟩
      · by_cases e : i = n
        · subst e; simp [upI_get]
        · simp [upI_get, e]; exact a3 i (by omega)
      · by_cases e : i = n
        · subst e; simp [upI_get]
        · simp [upI_get, e]; exact e3 i (by omega)
      · by_cases e : p = n
        · subst e; simp
        · have h1 := id p (by omega)
          have h2 := (a3 p (by omega)).2
          simp only [e, if_false]
          rw [if_neg (by omega), h1]
  · rintro E h' ⟨c1, rfl, rfl⟩
    rcases hg with ⟨-, rfl, rfl⟩ | ⟨c2, -, -⟩
    · exact ⟨⟨_, rfl⟩, by rw [up_eq]; rfl, hR.gc 1⟩
    · omega
end PuH
