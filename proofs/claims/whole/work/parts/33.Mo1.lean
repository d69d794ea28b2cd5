/-! The reference: what is told: thrown, isIn, part, box, deep, slant, stand -/
section MoA
variable {l : Launch} {D : va_G} {cA : Nat → ClassId} {ad : Nat → Nat} {St : (Nat → Prop) → State → Heap → Prop}
theorem nI_p1 (n : Nat) : nI (n + 1) - 1 = nI n := by rw [← nI_1, Int32.add_sub_cancel]
theorem c_Mo_thrown (hSt : StOk St) (g : Hp) : Ct l y_Mo_thrown prog_11_method_2_code 1 (some .int) (rmD 1) D cls cA slM St ad [.ref 0] g (fun r g' => r = some (.int (g.1 0 0)) ∧ g' = g) := by
  refine Ct.of (tl := T_Mo_thrown) (by decide) tk_Mo_thrown cls_ok hSt (Nat.le_of_ble_eq_true rfl) (fun V G E C => ?_)
  repeat (first | refine G.sx (fun _ => false) rfl rfl rfl ?_ | refine G.gox (fun _ => false) rfl rfl rfl ?_ | refine G.getx (fun _ => false) rfl rfl rfl rfl ?_)
  exact E.ri rfl (Or.inl rfl) ⟨rfl, rfl⟩
theorem c_Mo_isIn (hSt : StOk St) (g : Hp) (v a b : Int64) : Ct l y_Mo_isIn prog_11_method_3_code 6 (some .boolean) (rmD 1) D cls cA slM St ad [.long v, .long a, .long b] g (fun r g' => r = some (.int (if a ≤ v ∧ v ≤ b then 1 else 0)) ∧ g' = g) := by
  refine Ct.of (tl := T_Mo_isIn) (by decide) tk_Mo_isIn cls_ok hSt (Nat.le_of_ble_eq_true rfl) (fun V G E C => ?_)
  repeat (first | refine G.sx (fun _ => false) rfl rfl rfl ?_ | refine G.gox (fun _ => false) rfl rfl rfl ?_ | refine G.getx (fun _ => false) rfl rfl rfl rfl ?_)
  refine G.br rfl rfl (fun c1 => ?_) (fun c1 => ?_)
  · repeat (first | refine G.sx (fun _ => false) rfl rfl rfl ?_ | refine G.gox (fun _ => false) rfl rfl rfl ?_ | refine G.getx (fun _ => false) rfl rfl rfl rfl ?_)
    refine E.ri rfl (Or.inr ⟨rfl, Or.inl rfl⟩) ⟨?_, rfl⟩
    rw [if_neg (fun z => absurd (cmp_lt.mp c1) (Int64.not_lt.mpr z.1))]
  · repeat (first | refine G.sx (fun _ => false) rfl rfl rfl ?_ | refine G.gox (fun _ => false) rfl rfl rfl ?_ | refine G.getx (fun _ => false) rfl rfl rfl rfl ?_)
    refine G.br rfl rfl (fun c2 => ?_) (fun c2 => ?_)
    · repeat (first | refine G.sx (fun _ => false) rfl rfl rfl ?_ | refine G.gox (fun _ => false) rfl rfl rfl ?_ | refine G.getx (fun _ => false) rfl rfl rfl rfl ?_)
      refine E.ri rfl (Or.inr ⟨rfl, Or.inl rfl⟩) ⟨?_, rfl⟩
      rw [if_neg (fun z => absurd (cmp_gt.mp c2) (Int64.not_lt.mpr z.2))]
    · repeat (first | refine G.sx (fun _ => false) rfl rfl rfl ?_ | refine G.gox (fun _ => false) rfl rfl rfl ?_ | refine G.getx (fun _ => false) rfl rfl rfl rfl ?_)
      refine E.ri rfl (Or.inr ⟨rfl, Or.inr rfl⟩) ⟨?_, rfl⟩
      rw [if_pos ⟨Int64.not_lt.mp (fun z => c1 (cmp_lt.mpr z)), Int64.not_lt.mp (fun z => c2 (cmp_gt.mpr z))⟩]
theorem c_Mo_part (hSt : StOk St) {g : Hp} {n : Nat} (hn : g.1 0 1 = nI n) (h12 : n ≤ 12) : Ct l y_Mo_part prog_11_method_4_code 1 (some .int) (rmD 1) D cls cA slM St ad [.ref 0] g (fun r g' => n = 12 ∧ r = some (.int 0) ∧ g' = upI g 0 0 1 ∨ n < 12 ∧ r = some (.int (nI n)) ∧ g' = upI (upI (upI (upI g 0 0 0) 4 n (nI n)) 0 1 (nI (n + 1))) 0 14 0) := by
  refine Ct.of (tl := T_Mo_part) (by decide) tk_Mo_part cls_ok hSt (Nat.le_of_ble_eq_true rfl) (fun V G E C => ?_)
  repeat (first | refine G.sx (fun q => Nat.beq q 7) rfl rfl rfl ?_ | refine G.gox (fun q => Nat.beq q 7) rfl rfl rfl ?_ | refine G.getx (fun q => Nat.beq q 7) rfl rfl rfl rfl ?_)
  show V 7 _ [.int 12, .int (g.1 0 1), .ref 0] _
  rw [hn]
  refine G.br rfl rfl (fun c1 => ?_) (fun c1 => ?_)
  · have hlt : n < 12 := by
      have : n ≠ 12 := fun z => c1 (by rw [z]; rfl)
      omega
    repeat (first | refine G.sx (fun _ => false) rfl rfl rfl ?_ | refine G.gox (fun _ => false) rfl rfl rfl ?_ | refine G.getx (fun _ => false) rfl rfl rfl rfl ?_)
    refine G.put rfl rfl rfl ?_
    repeat (first | refine G.sx (fun _ => false) rfl rfl rfl ?_ | refine G.gox (fun _ => false) rfl rfl rfl ?_ | refine G.getx (fun _ => false) rfl rfl rfl rfl ?_)
    refine G.br rfl rfl (fun c2 => ?_) (fun c2 => absurd (by rw [up_eq]; decide) c2)
    have e1 : (upI g 0 0 0).1 0 1 = nI n := by rw [up_ne _ _ _ _ (by decide)]; exact hn
    repeat (first | refine G.sx (fun q => Nat.beq q 39) rfl rfl rfl ?_ | refine G.gox (fun q => Nat.beq q 39) rfl rfl rfl ?_ | refine G.getx (fun q => Nat.beq q 39) rfl rfl rfl rfl ?_)
    show V 39 _ [.int ((upI g 0 0 0).1 0 1), .int ((upI g 0 0 0).1 0 1), .ref 4] _
    rw [e1]
    refine G.iasn rfl rfl (by omega) (by decide) ?_
    have e2 : (upI (upI g 0 0 0) 4 n (nI n)).1 0 1 = nI n := by rw [up_off _ _ _ _ (by decide)]; exact e1
    repeat (first | refine G.sx (fun q => Nat.beq q 47) rfl rfl rfl ?_ | refine G.gox (fun q => Nat.beq q 47) rfl rfl rfl ?_ | refine G.getx (fun q => Nat.beq q 47) rfl rfl rfl rfl ?_)
    show V 47 _ [.int ((upI (upI g 0 0 0) 4 n (nI n)).1 0 1 + 1), .ref 0] _
    rw [e2, nI_1]
    refine G.put rfl rfl rfl ?_
    repeat (first | refine G.sx (fun _ => false) rfl rfl rfl ?_ | refine G.gox (fun _ => false) rfl rfl rfl ?_ | refine G.getx (fun _ => false) rfl rfl rfl rfl ?_)
    refine G.putz rfl rfl rfl (Or.inl rfl) ?_
    have e3 : (upI (upI (upI (upI g 0 0 0) 4 n (nI n)) 0 1 (nI (n + 1))) 0 14 0).1 0 1 = nI (n + 1) := by rw [up_ne _ _ _ _ (by decide), up_eq]
    repeat (first | refine G.sx (fun q => Nat.beq q 61) rfl rfl rfl ?_ | refine G.gox (fun q => Nat.beq q 61) rfl rfl rfl ?_ | refine G.getx (fun q => Nat.beq q 61) rfl rfl rfl rfl ?_)
    show V 61 _ [.int ((upI (upI (upI (upI g 0 0 0) 4 n (nI n)) 0 1 (nI (n + 1))) 0 14 0).1 0 1 - 1)] _
    rw [e3, nI_p1]
    exact E.ri rfl (Or.inl rfl) (Or.inr ⟨hlt, rfl, rfl⟩)
  · have hge : n = 12 := (nI_eq (b := 12) (by omega) (by omega)).mp c1
    repeat (first | refine G.sx (fun _ => false) rfl rfl rfl ?_ | refine G.gox (fun _ => false) rfl rfl rfl ?_ | refine G.getx (fun _ => false) rfl rfl rfl rfl ?_)
    refine G.put rfl rfl rfl ?_
    repeat (first | refine G.sx (fun _ => false) rfl rfl rfl ?_ | refine G.gox (fun _ => false) rfl rfl rfl ?_ | refine G.getx (fun _ => false) rfl rfl rfl rfl ?_)
    refine G.br rfl rfl (fun c2 => absurd c2 (by rw [up_eq]; decide)) (fun c2 => ?_)
    repeat (first | refine G.sx (fun _ => false) rfl rfl rfl ?_ | refine G.gox (fun _ => false) rfl rfl rfl ?_ | refine G.getx (fun _ => false) rfl rfl rfl rfl ?_)
    exact E.ri rfl (Or.inl rfl) (Or.inl ⟨hge, rfl, rfl⟩)
abbrev pOM (g : Hp) (x : Int32) : Prop := 0 ≤ x ∧ x < g.1 0 1
theorem ix6 (b : Nat) : (6 : Int32) * nI b = nI (6 * b) := (Int32.ofNat_mul 6 b).symm
theorem ix3 (b : Nat) : (3 : Int32) * nI b = nI (3 * b) := (Int32.ofNat_mul 3 b).symm
/-- the reference's heap with a box more -/
def mbH (g : Hp) (nb : Nat) (p : Int32) (x y z w d : Int64) : Hp := upI (upI (upL (upL (upL (upL (upL (upL (upI g 1 nb p) 2 (6 * nb) x) 2 (6 * nb + 1) y) 2 (6 * nb + 2) z) 2 (6 * nb + 3) (x + w)) 2 (6 * nb + 4) (y + d)) 2 (6 * nb + 5) (z + 1)) 0 2 (nI (nb + 1))) 0 14 0
theorem c_Mo_box (hSt : StOk St) {g : Hp} {nb : Nat} (hn : g.1 0 2 = nI nb) (h40 : nb ≤ 40) (p : Int32) (x y z w d : Int64) : Ct l y_Mo_box prog_11_method_6_code 14 (some .int) (rmD 2) D cls cA slM St ad [.ref 0, .int p, .long x, .long y, .long z, .long w, .long d] g (fun r g' => (pOM g p ∧ nb < 40 ∧ (plc x ∧ plc y ∧ plc z) ∧ siz w ∧ siz d) ∧ r = some (.int (nI nb)) ∧ g' = mbH (upI g 0 0 0) nb p x y z w d ∨ r = some (.int 0) ∧ (¬ pOM g p ∧ g' = upI g 0 0 1 ∨ pOM g p ∧ ¬ nb < 40 ∧ g' = upI g 0 0 2 ∨ pOM g p ∧ nb < 40 ∧ ¬ ((plc x ∧ plc y ∧ plc z) ∧ siz w ∧ siz d) ∧ g' = upI g 0 0 3)) := by
  refine Ct.of (tl := T_Mo_box) (by decide) tk_Mo_box cls_ok hSt (Nat.le_of_ble_eq_true rfl) (fun V G E C => ?_)
  have K1 : ∀ (c : Int32) lv, lk lv 0 = some (.ref 0) → 0 < c → (¬ pOM g p ∧ c = 1 ∨ pOM g p ∧ ¬ nb < 40 ∧ c = 2 ∨ pOM g p ∧ nb < 40 ∧ ¬ ((plc x ∧ plc y ∧ plc z) ∧ siz w ∧ siz d) ∧ c = 3) → V 112 lv [.int c, .ref 0] g := by
    intro c lv hl hc hx
    refine G.le [some (.ref 0)] (by cases lv with | nil => simp [lk] at hl | cons a r => exact leL_c hl leL_0) ?_
    refine G.put rfl rfl rfl ?_
    repeat (first | refine G.sx (fun _ => false) rfl rfl rfl ?_ | refine G.gox (fun _ => false) rfl rfl rfl ?_ | refine G.getx (fun _ => false) rfl rfl rfl rfl ?_)
    refine G.br rfl rfl (fun c2 => absurd c2 (by rw [up_eq]; exact Int32.not_le.mpr hc)) (fun c2 => ?_)
    repeat (first | refine G.sx (fun _ => false) rfl rfl rfl ?_ | refine G.gox (fun _ => false) rfl rfl rfl ?_ | refine G.getx (fun _ => false) rfl rfl rfl rfl ?_)
    refine E.ri rfl (Or.inl rfl) (Or.inr ⟨rfl, ?_⟩)
    rcases hx with ⟨a1, rfl⟩ | ⟨a1, a2, rfl⟩ | ⟨a1, a2, a3, rfl⟩
    · exact Or.inl ⟨a1, rfl⟩
    · exact Or.inr (Or.inl ⟨a1, a2, rfl⟩)
    · exact Or.inr (Or.inr ⟨a1, a2, a3, rfl⟩)
  have J : ∀ gd : Int32, (gd = 0 ∧ ¬ ((plc x ∧ plc y ∧ plc z) ∧ siz w ∧ siz d) ∨ gd = 1 ∧ ((plc x ∧ plc y ∧ plc z) ∧ siz w ∧ siz d)) → V 70 (ent [.ref 0, .int p, .long x, .long y, .long z, .long w, .long d] 14) [.int gd] g := by
    intro gd hgd
    repeat (first | refine G.sx (fun _ => false) rfl rfl rfl ?_ | refine G.gox (fun _ => false) rfl rfl rfl ?_ | refine G.getx (fun _ => false) rfl rfl rfl rfl ?_)
    refine G.br rfl rfl (fun c1 => ?_) (fun c1 => ?_)
    · repeat (first | refine G.sx (fun _ => false) rfl rfl rfl ?_ | refine G.gox (fun _ => false) rfl rfl rfl ?_ | refine G.getx (fun _ => false) rfl rfl rfl rfl ?_)
      exact K1 1 _ rfl (by decide) (Or.inl ⟨fun q => absurd q.1 (Int32.not_le.mpr c1), rfl⟩)
    repeat (first | refine G.sx (fun _ => false) rfl rfl rfl ?_ | refine G.gox (fun _ => false) rfl rfl rfl ?_ | refine G.getx (fun _ => false) rfl rfl rfl rfl ?_)
    refine G.br rfl rfl (fun c2 => ?_) (fun c2 => ?_)
    · have pk : pOM g p := ⟨Int32.not_lt.mp c1, c2⟩
      repeat (first | refine G.sx (fun q => Nat.beq q 95) rfl rfl rfl ?_ | refine G.gox (fun q => Nat.beq q 95) rfl rfl rfl ?_ | refine G.getx (fun q => Nat.beq q 95) rfl rfl rfl rfl ?_)
      show V 95 _ [.int 40, .int (g.1 0 2), .ref 0] _
      rw [hn]
      refine G.br rfl rfl (fun c3 => ?_) (fun c3 => ?_)
      · have hlt : nb < 40 := by
          have : nb ≠ 40 := fun z => c3 (by rw [z]; rfl)
          omega
        repeat (first | refine G.sx (fun _ => false) rfl rfl rfl ?_ | refine G.gox (fun _ => false) rfl rfl rfl ?_ | refine G.getx (fun _ => false) rfl rfl rfl rfl ?_)
        refine G.br rfl rfl (fun c4 => ?_) (fun c4 => ?_)
        · have hb : ¬ ((plc x ∧ plc y ∧ plc z) ∧ siz w ∧ siz d) := by
            rcases hgd with q | q
            · exact q.2
            · rw [q.1] at c4
              exact absurd c4 (by decide)
          repeat (first | refine G.sx (fun _ => false) rfl rfl rfl ?_ | refine G.gox (fun _ => false) rfl rfl rfl ?_ | refine G.getx (fun _ => false) rfl rfl rfl rfl ?_)
          exact K1 3 _ rfl (by decide) (Or.inr (Or.inr ⟨pk, hlt, hb, rfl⟩))
        · have hb : (plc x ∧ plc y ∧ plc z) ∧ siz w ∧ siz d := by
            rcases hgd with q | q
            · exact absurd q.1 c4
            · exact q.2
          repeat (first | refine G.sx (fun _ => false) rfl rfl rfl ?_ | refine G.gox (fun _ => false) rfl rfl rfl ?_ | refine G.getx (fun _ => false) rfl rfl rfl rfl ?_)
          refine G.put rfl rfl rfl ?_
          repeat (first | refine G.sx (fun _ => false) rfl rfl rfl ?_ | refine G.gox (fun _ => false) rfl rfl rfl ?_ | refine G.getx (fun _ => false) rfl rfl rfl rfl ?_)
          refine G.br rfl rfl (fun c5 => ?_) (fun c5 => absurd (by rw [up_eq]; decide) c5)
          have e1 : (upI g 0 0 0).1 0 2 = nI nb := by rw [up_ne _ _ _ _ (by decide)]; exact hn
          repeat (first | refine G.sx (fun q => Nat.beq q 133) rfl rfl rfl ?_ | refine G.gox (fun q => Nat.beq q 133) rfl rfl rfl ?_ | refine G.getx (fun q => Nat.beq q 133) rfl rfl rfl rfl ?_)
          show V 133 _ [.int p, .int ((upI g 0 0 0).1 0 2), .ref 1] _
          rw [e1]
          refine G.iasn rfl rfl hlt (by decide) ?_
          have e2 : (upI (upI g 0 0 0) 1 nb p).1 0 2 = nI nb := by rw [up_off _ _ _ _ (by decide)]; exact e1
          repeat (first | refine G.sx (fun q => Nat.beq q 141) rfl rfl rfl ?_ | refine G.gox (fun q => Nat.beq q 141) rfl rfl rfl ?_ | refine G.getx (fun q => Nat.beq q 141) rfl rfl rfl rfl ?_)
          show V 141 _ [.int (6 * (upI (upI g 0 0 0) 1 nb p).1 0 2)] _
          rw [e2, ix6]
          repeat (first | refine G.sx (fun _ => false) rfl rfl rfl ?_ | refine G.gox (fun _ => false) rfl rfl rfl ?_ | refine G.getx (fun _ => false) rfl rfl rfl rfl ?_)
          refine G.lasn rfl rfl (by omega) (by decide) ?_
          repeat (first | refine G.sx (fun q => Nat.beq q 161) rfl rfl rfl ?_ | refine G.gox (fun q => Nat.beq q 161) rfl rfl rfl ?_ | refine G.getx (fun q => Nat.beq q 161) rfl rfl rfl rfl ?_)
          show V 161 _ [.long y, .int (nI (6 * nb) + nI 1), .ref 2] _
          rw [nI_add]
          refine G.lasn rfl rfl (by omega) (by decide) ?_
          repeat (first | refine G.sx (fun q => Nat.beq q 172) rfl rfl rfl ?_ | refine G.gox (fun q => Nat.beq q 172) rfl rfl rfl ?_ | refine G.getx (fun q => Nat.beq q 172) rfl rfl rfl rfl ?_)
          show V 172 _ [.long z, .int (nI (6 * nb) + nI 2), .ref 2] _
          rw [nI_add]
          refine G.lasn rfl rfl (by omega) (by decide) ?_
          repeat (first | refine G.sx (fun q => Nat.beq q 185) rfl rfl rfl ?_ | refine G.gox (fun q => Nat.beq q 185) rfl rfl rfl ?_ | refine G.getx (fun q => Nat.beq q 185) rfl rfl rfl rfl ?_)
          show V 185 _ [.long (x + w), .int (nI (6 * nb) + nI 3), .ref 2] _
          rw [nI_add]
          refine G.lasn rfl rfl (by omega) (by decide) ?_
          repeat (first | refine G.sx (fun q => Nat.beq q 199) rfl rfl rfl ?_ | refine G.gox (fun q => Nat.beq q 199) rfl rfl rfl ?_ | refine G.getx (fun q => Nat.beq q 199) rfl rfl rfl rfl ?_)
          show V 199 _ [.long (y + d), .int (nI (6 * nb) + nI 4), .ref 2] _
          rw [nI_add]
          refine G.lasn rfl rfl (by omega) (by decide) ?_
          repeat (first | refine G.sx (fun q => Nat.beq q 212) rfl rfl rfl ?_ | refine G.gox (fun q => Nat.beq q 212) rfl rfl rfl ?_ | refine G.getx (fun q => Nat.beq q 212) rfl rfl rfl rfl ?_)
          show V 212 _ [.long (z + 1), .int (nI (6 * nb) + nI 5), .ref 2] _
          rw [nI_add]
          refine G.lasn rfl rfl (by omega) (by decide) ?_
          repeat (first | refine G.sx (fun q => Nat.beq q 220) rfl rfl rfl ?_ | refine G.gox (fun q => Nat.beq q 220) rfl rfl rfl ?_ | refine G.getx (fun q => Nat.beq q 220) rfl rfl rfl rfl ?_)
          show V 220 _ [.int ((upI (upI g 0 0 0) 1 nb p).1 0 2 + 1), .ref 0] _
          rw [e2, nI_1]
          refine G.put rfl rfl rfl ?_
          repeat (first | refine G.sx (fun _ => false) rfl rfl rfl ?_ | refine G.gox (fun _ => false) rfl rfl rfl ?_ | refine G.getx (fun _ => false) rfl rfl rfl rfl ?_)
          refine G.putz rfl rfl rfl (Or.inl rfl) ?_
          repeat (first | refine G.sx (fun q => Nat.beq q 234) rfl rfl rfl ?_ | refine G.gox (fun q => Nat.beq q 234) rfl rfl rfl ?_ | refine G.getx (fun q => Nat.beq q 234) rfl rfl rfl rfl ?_)
          have e3 : (mbH (upI g 0 0 0) nb p x y z w d).1 0 2 = nI (nb + 1) := by unfold mbH; rw [up_ne _ _ _ _ (by decide), up_eq]
          show V 234 _ [.int ((mbH (upI g 0 0 0) nb p x y z w d).1 0 2 - 1)] _
          rw [e3, nI_p1]
          exact E.ri rfl (Or.inl rfl) (Or.inl ⟨⟨pk, hlt, hb⟩, rfl, rfl⟩)
      · have hge : nb = 40 := (nI_eq (b := 40) (by omega) (by omega)).mp c3
        repeat (first | refine G.sx (fun _ => false) rfl rfl rfl ?_ | refine G.gox (fun _ => false) rfl rfl rfl ?_ | refine G.getx (fun _ => false) rfl rfl rfl rfl ?_)
        exact K1 2 _ rfl (by decide) (Or.inr (Or.inl ⟨pk, by omega, rfl⟩))
    · repeat (first | refine G.sx (fun _ => false) rfl rfl rfl ?_ | refine G.gox (fun _ => false) rfl rfl rfl ?_ | refine G.getx (fun _ => false) rfl rfl rfl rfl ?_)
      exact K1 1 _ rfl (by decide) (Or.inl ⟨fun q => c2 q.2, rfl⟩)
  have J0 : ¬ ((plc x ∧ plc y ∧ plc z) ∧ siz w ∧ siz d) → V 69 (ent [.ref 0, .int p, .long x, .long y, .long z, .long w, .long d] 14) [] g := by
    intro hb
    repeat (first | refine G.sx (fun q => Nat.beq q 70) rfl rfl rfl ?_ | refine G.gox (fun q => Nat.beq q 70) rfl rfl rfl ?_ | refine G.getx (fun q => Nat.beq q 70) rfl rfl rfl rfl ?_)
    exact J 0 (Or.inl ⟨rfl, hb⟩)
  repeat (first | refine G.sx (fun _ => false) rfl rfl rfl ?_ | refine G.gox (fun _ => false) rfl rfl rfl ?_ | refine G.getx (fun _ => false) rfl rfl rfl rfl ?_)
  refine C.cs [.long x, .long (-1000000), .long 1000000] [] rfl cw_Mo_69 (d1 := 1) (by omega) (by omega) rfl (c_Mo_isIn hSt g x _ _) (by decide) (fun r h2 hq => ?_)
  obtain ⟨rfl, rfl⟩ := hq
  refine G.br rfl rfl (fun c2 => J0 (fun q => i01.mp c2 q.1.1)) (fun c2 => ?_)
  repeat (first | refine G.sx (fun _ => false) rfl rfl rfl ?_ | refine G.gox (fun _ => false) rfl rfl rfl ?_ | refine G.getx (fun _ => false) rfl rfl rfl rfl ?_)
  refine C.cs [.long y, .long (-1000000), .long 1000000] [] rfl cw_Mo_69 (d1 := 1) (by omega) (by omega) rfl (c_Mo_isIn hSt h2 y _ _) (by decide) (fun r h3 hq => ?_)
  obtain ⟨rfl, rfl⟩ := hq
  refine G.br rfl rfl (fun c3 => J0 (fun q => i01.mp c3 q.1.2.1)) (fun c3 => ?_)
  repeat (first | refine G.sx (fun _ => false) rfl rfl rfl ?_ | refine G.gox (fun _ => false) rfl rfl rfl ?_ | refine G.getx (fun _ => false) rfl rfl rfl rfl ?_)
  refine C.cs [.long z, .long (-1000000), .long 1000000] [] rfl cw_Mo_69 (d1 := 1) (by omega) (by omega) rfl (c_Mo_isIn hSt h3 z _ _) (by decide) (fun r h4 hq => ?_)
  obtain ⟨rfl, rfl⟩ := hq
  refine G.br rfl rfl (fun c4 => J0 (fun q => i01.mp c4 q.1.2.2)) (fun c4 => ?_)
  repeat (first | refine G.sx (fun _ => false) rfl rfl rfl ?_ | refine G.gox (fun _ => false) rfl rfl rfl ?_ | refine G.getx (fun _ => false) rfl rfl rfl rfl ?_)
  refine C.cs [.long w, .long 1, .long 1000000] [] rfl cw_Mo_69 (d1 := 1) (by omega) (by omega) rfl (c_Mo_isIn hSt h4 w _ _) (by decide) (fun r h5 hq => ?_)
  obtain ⟨rfl, rfl⟩ := hq
  refine G.br rfl rfl (fun c5 => J0 (fun q => i01.mp c5 q.2.1)) (fun c5 => ?_)
  repeat (first | refine G.sx (fun _ => false) rfl rfl rfl ?_ | refine G.gox (fun _ => false) rfl rfl rfl ?_ | refine G.getx (fun _ => false) rfl rfl rfl rfl ?_)
  refine C.cs [.long d, .long 1, .long 1000000] [] rfl cw_Mo_69 (d1 := 1) (by omega) (by omega) rfl (c_Mo_isIn hSt h5 d _ _) (by decide) (fun r h6 hq => ?_)
  obtain ⟨rfl, rfl⟩ := hq
  refine G.br rfl rfl (fun c6 => J0 (fun q => i01.mp c6 q.2.2)) (fun c6 => ?_)
  repeat (first | refine G.sx (fun q => Nat.beq q 70) rfl rfl rfl ?_ | refine G.gox (fun q => Nat.beq q 70) rfl rfl rfl ?_ | refine G.getx (fun q => Nat.beq q 70) rfl rfl rfl rfl ?_)
  exact J 1 (Or.inr ⟨rfl, ⟨Decidable.not_not.mp (fun q => c2 (i01.mpr q)), Decidable.not_not.mp (fun q => c3 (i01.mpr q)), Decidable.not_not.mp (fun q => c4 (i01.mpr q))⟩, Decidable.not_not.mp (fun q => c5 (i01.mpr q)), Decidable.not_not.mp (fun q => c6 (i01.mpr q))⟩)
theorem c_Mo_stand (hSt : StOk St) (g : Hp) : Ct l y_Mo_stand prog_11_method_14_code 2 none (rmD 1) D cls cA slM St ad [.ref 0] g (fun r g' => r = none ∧ g' = setL g 8 (fun j => if j < 36 then 0 else g.2 8 j)) := by
  refine Ct.of (tl := T_Mo_stand) (by decide) tk_Mo_stand cls_ok hSt (Nat.le_of_ble_eq_true rfl) (fun V G E C => ?_)
  have L : ∀ i, i ≤ 36 → V 2 [some (.ref 0), some (.int (nI i))] [] (setL g 8 (fun j => if j < i then 0 else g.2 8 j)) := by
    refine loopUp 36 (fun i hi ih => ?_) ?_
    · repeat (first | refine G.sx (fun _ => false) rfl rfl rfl ?_ | refine G.gox (fun _ => false) rfl rfl rfl ?_ | refine G.getx (fun _ => false) rfl rfl rfl rfl ?_)
      refine G.br rfl rfl (fun c1 => absurd c1 (nI_ge (b := 36) hi (by omega))) (fun c1 => ?_)
      repeat (first | refine G.sx (fun _ => false) rfl rfl rfl ?_ | refine G.gox (fun _ => false) rfl rfl rfl ?_ | refine G.getx (fun _ => false) rfl rfl rfl rfl ?_)
      refine G.lasn rfl rfl hi (by decide) ?_
      repeat (first | refine G.sx (fun _ => false) rfl rfl rfl ?_ | refine G.gox (fun _ => false) rfl rfl rfl ?_ | refine G.getx (fun _ => false) rfl rfl rfl rfl ?_)
      refine G.go rfl ?_
      rw [← nI_1] at ih
      have e : upL (setL g 8 (fun j => if j < i then 0 else g.2 8 j)) 8 i 0 = setL g 8 (fun j => if j < i + 1 then 0 else g.2 8 j) := by
        rw [upL_setL]
        congr 1
        funext j
        unfold vp_updL
        by_cases e : j = i
        · subst e; simp
        · simp only [e, if_false]
          by_cases e2 : j < i
          · rw [if_pos e2, if_pos (by omega)]
          · rw [if_neg e2, if_neg (by omega)]
      rw [e]
      exact ih
    · repeat (first | refine G.sx (fun _ => false) rfl rfl rfl ?_ | refine G.gox (fun _ => false) rfl rfl rfl ?_ | refine G.getx (fun _ => false) rfl rfl rfl rfl ?_)
      refine G.br rfl rfl (fun c1 => ?_) (fun c1 => absurd (nI_le (a := 36) (Nat.le_refl 36) (by omega)) c1)
      exact E.rv rfl rfl ⟨rfl, rfl⟩
  have e0 : setL g 8 (fun j => if j < 0 then 0 else g.2 8 j) = g := by
    have e1 : (fun j => if j < 0 then (0 : Int64) else g.2 8 j) = g.2 8 := by funext j; rw [if_neg (by omega)]
    rw [e1]
    exact setL_id g 8
  have L0 := L 0 (Nat.zero_le _)
  rw [e0] at L0
  repeat (first | refine G.sx (fun q => Nat.beq q 2) rfl rfl rfl ?_ | refine G.gox (fun q => Nat.beq q 2) rfl rfl rfl ?_ | refine G.getx (fun q => Nat.beq q 2) rfl rfl rfl rfl ?_)
  exact L0
end MoA
