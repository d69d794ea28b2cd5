/-! The reference: free, group, notRun, noSteps, apart, step, locked, stage, stepOf, keeps, clamp -/
section MoF
variable {l : Launch} {D : va_G} {cA : Nat → ClassId} {ad : Nat → Nat} {St : (Nat → Prop) → State → Heap → Prop}
theorem OwI.up0 {g : Hp} {nb : Nat} {own : Nat → Nat} {j : Nat} {v : Int32} (hO : OwI g nb own) (hj : j ≠ 2) : OwI (upI g 0 j v) nb own := by
  obtain ⟨h1, h2, h3⟩ := hO
  exact ⟨by rw [up_ne _ _ _ _ (by omega)]; exact h1, h2, fun i hi => by rw [up_off _ _ _ _ (by decide)]; exact h3 i hi⟩
theorem OwI.stL {g : Hp} {nb : Nat} {own : Nat → Nat} {k : Nat} {f : Nat → Int64} (hO : OwI g nb own) : OwI (setL g k f) nb own := hO
/-- the heap behind stand -/
def std (g : Hp) : Hp := setL g 8 (fun j => if j < 36 then 0 else g.2 8 j)
abbrev wOM (ns : Nat) (x : Int32) : Prop := 0 ≤ x ∧ x < nI (6 + ns)
theorem c_Mo_free (hSt : StOk St) {g : Hp} {n : Nat} (hn : g.1 0 1 = nI n) (n12 : n ≤ 12) {nb : Nat} {own : Nat → Nat} (hO : OwI g nb own) {ns : Nat} (hs : g.1 0 5 = nI ns) (h4 : ns ≤ 4) (p w : Int32) (x : Int64) : Ct l y_Mo_free prog_11_method_15_code 5 (some .boolean) (rmD 4) D cls cA slM St ad [.ref 0, .int p, .int w, .long x] g (fun r g' => ((pOM g p ∧ wOM ns w) ∧ bitsOff x n = 0) ∧ (∃ i k, p = nI i ∧ w = nI k ∧ i < n ∧ k < 6 + ns ∧ r = some (.int (if nI (bfM own nb (fun a b => swM (std g) own a b k) i) &&& x.toInt32 &&& ((1 : Int32) <<< (nI i &&& 31) ^^^ (-1)) = 0 then 1 else 0)) ∧ g' = std (upI g 0 0 0)) ∨ r = some (.int 0) ∧ (¬ (pOM g p ∧ wOM ns w) ∧ g' = upI g 0 0 1 ∨ (pOM g p ∧ wOM ns w) ∧ ¬ bitsOff x n = 0 ∧ g' = upI g 0 0 2)) := by
  refine Ct.of (tl := T_Mo_free) (by decide) tk_Mo_free cls_ok hSt (Nat.le_of_ble_eq_true rfl) (fun V G E C => ?_)
  have K1 : ∀ (c : Int32) lv, lk lv 0 = some (.ref 0) → 0 < c → (¬ (pOM g p ∧ wOM ns w) ∧ c = 1 ∨ (pOM g p ∧ wOM ns w) ∧ ¬ bitsOff x n = 0 ∧ c = 2) → V 48 lv [.int c, .ref 0] g := by
    intro c lv hl hc hx
    refine G.le _ (le1 hl) ?_
    refine G.put rfl rfl rfl ?_
    repeat (first | refine G.sx (fun _ => false) rfl rfl rfl ?_ | refine G.gox (fun _ => false) rfl rfl rfl ?_ | refine G.getx (fun _ => false) rfl rfl rfl rfl ?_)
    refine G.br rfl rfl (fun c2 => absurd c2 (by rw [up_eq]; exact Int32.not_le.mpr hc)) (fun c2 => ?_)
    repeat (first | refine G.sx (fun _ => false) rfl rfl rfl ?_ | refine G.gox (fun _ => false) rfl rfl rfl ?_ | refine G.getx (fun _ => false) rfl rfl rfl rfl ?_)
    refine E.ri rfl (Or.inr ⟨rfl, Or.inl rfl⟩) (Or.inr ⟨rfl, ?_⟩)
    rcases hx with ⟨a1, rfl⟩ | ⟨a1, a2, rfl⟩
    · exact Or.inl ⟨a1, rfl⟩
    · exact Or.inr ⟨a1, a2, rfl⟩
  have K2 : ∀ lv, lk lv 0 = some (.ref 0) → ¬ (pOM g p ∧ wOM ns w) → V 28 lv [.ref 0] g := by
    intro lv hl hx
    refine G.le _ (le1 hl) ?_
    repeat (first | refine G.sx (fun _ => false) rfl rfl rfl ?_ | refine G.gox (fun _ => false) rfl rfl rfl ?_ | refine G.getx (fun _ => false) rfl rfl rfl rfl ?_)
    exact K1 1 _ rfl (by decide) (Or.inl ⟨hx, rfl⟩)
  repeat (first | refine G.sx (fun _ => false) rfl rfl rfl ?_ | refine G.gox (fun _ => false) rfl rfl rfl ?_ | refine G.getx (fun _ => false) rfl rfl rfl rfl ?_)
  refine G.br rfl rfl (fun c1 => K2 _ rfl (fun q => absurd q.1.1 (Int32.not_le.mpr c1))) (fun c1 => ?_)
  repeat (first | refine G.sx (fun _ => false) rfl rfl rfl ?_ | refine G.gox (fun _ => false) rfl rfl rfl ?_ | refine G.getx (fun _ => false) rfl rfl rfl rfl ?_)
  refine G.br rfl rfl (fun c2 => K2 _ rfl (fun q => absurd q.1.2 (Int32.not_lt.mpr c2))) (fun c2 => ?_)
  repeat (first | refine G.sx (fun _ => false) rfl rfl rfl ?_ | refine G.gox (fun _ => false) rfl rfl rfl ?_ | refine G.getx (fun _ => false) rfl rfl rfl rfl ?_)
  refine G.br rfl rfl (fun c3 => K2 _ rfl (fun q => absurd q.2.1 (Int32.not_le.mpr c3))) (fun c3 => ?_)
  repeat (first | refine G.sx (fun q => Nat.beq q 25) rfl rfl rfl ?_ | refine G.gox (fun q => Nat.beq q 25) rfl rfl rfl ?_ | refine G.getx (fun q => Nat.beq q 25) rfl rfl rfl rfl ?_)
  show V 25 _ [.int (nI 6 + g.1 0 5), .int w, .ref 0] _
  rw [hs, nI_add]
  refine G.br rfl rfl (fun c4 => ?_) (fun c4 => K2 _ rfl (fun q => c4 q.2.2))
  have pk : pOM g p ∧ wOM ns w := ⟨⟨Int32.not_lt.mp c1, Int32.not_le.mp c2⟩, Int32.not_lt.mp c3, c4⟩
  obtain ⟨i, rfl, hi⟩ := Ok_ex hn (by omega) pk.1
  obtain ⟨k, rfl, hk⟩ := Ok_ex (rfl : nI (6 + ns) = _) (by omega) pk.2
  repeat (first | refine G.sx (fun q => Nat.beq q 37) rfl rfl rfl ?_ | refine G.gox (fun q => Nat.beq q 37) rfl rfl rfl ?_ | refine G.getx (fun q => Nat.beq q 37) rfl rfl rfl rfl ?_)
  show V 37 _ [.int (g.1 0 1), .long x, .ref 0] _
  rw [hn]
  repeat (first | refine G.sx (fun _ => false) rfl rfl rfl ?_ | refine G.gox (fun _ => false) rfl rfl rfl ?_ | refine G.getx (fun _ => false) rfl rfl rfl rfl ?_)
  refine G.br rfl rfl (fun c5 => ?_) (fun c5 => ?_)
  · have c5 : bitsOff x n = 0 := cmp_eq.mp c5
    repeat (first | refine G.sx (fun _ => false) rfl rfl rfl ?_ | refine G.gox (fun _ => false) rfl rfl rfl ?_ | refine G.getx (fun _ => false) rfl rfl rfl rfl ?_)
    refine G.put rfl rfl rfl ?_
    repeat (first | refine G.sx (fun _ => false) rfl rfl rfl ?_ | refine G.gox (fun _ => false) rfl rfl rfl ?_ | refine G.getx (fun _ => false) rfl rfl rfl rfl ?_)
    refine G.br rfl rfl (fun c6 => ?_) (fun c6 => absurd (by rw [up_eq]; decide) c6)
    repeat (first | refine G.sx (fun _ => false) rfl rfl rfl ?_ | refine G.gox (fun _ => false) rfl rfl rfl ?_ | refine G.getx (fun _ => false) rfl rfl rfl rfl ?_)
    refine C.cv [] [] rfl cw_Mo_95 (d1 := 1) (by omega) (by omega) rfl rfl rfl (c_Mo_stand hSt (upI g 0 0 0)) (by decide) (fun r h1 hq => ?_)
    obtain ⟨rfl, rfl⟩ := hq
    repeat (first | refine G.sx (fun _ => false) rfl rfl rfl ?_ | refine G.gox (fun _ => false) rfl rfl rfl ?_ | refine G.getx (fun _ => false) rfl rfl rfl rfl ?_)
    refine C.cv [.int (nI i), .int (nI k)] [] rfl cw_Mo_91 (d1 := 3) (by omega) (by omega) rfl rfl rfl (c_Mo_barsOf hSt (OwI.stL (hO.up0 (by decide))) i k (by omega) (by omega)) (by decide) (fun r h1 hq => ?_)
    obtain ⟨rfl, rfl⟩ := hq
    repeat (first | refine G.sx (fun _ => false) rfl rfl rfl ?_ | refine G.gox (fun _ => false) rfl rfl rfl ?_ | refine G.getx (fun _ => false) rfl rfl rfl rfl ?_)
    refine G.br rfl rfl (fun c7 => ?_) (fun c7 => ?_)
    · repeat (first | refine G.sx (fun _ => false) rfl rfl rfl ?_ | refine G.gox (fun _ => false) rfl rfl rfl ?_ | refine G.getx (fun _ => false) rfl rfl rfl rfl ?_)
      refine E.ri rfl (Or.inr ⟨rfl, Or.inl rfl⟩) (Or.inl ⟨⟨pk, c5⟩, i, k, rfl, rfl, hi, hk, ?_, rfl⟩)
      refine congrArg (fun v => some (Value.int v)) (Eq.symm (if_neg ?_))
      exact c7
    · repeat (first | refine G.sx (fun _ => false) rfl rfl rfl ?_ | refine G.gox (fun _ => false) rfl rfl rfl ?_ | refine G.getx (fun _ => false) rfl rfl rfl rfl ?_)
      refine E.ri rfl (Or.inr ⟨rfl, Or.inr rfl⟩) (Or.inl ⟨⟨pk, c5⟩, i, k, rfl, rfl, hi, hk, ?_, rfl⟩)
      refine congrArg (fun v => some (Value.int v)) (Eq.symm (if_pos ?_))
      exact c7
  · repeat (first | refine G.sx (fun _ => false) rfl rfl rfl ?_ | refine G.gox (fun _ => false) rfl rfl rfl ?_ | refine G.getx (fun _ => false) rfl rfl rfl rfl ?_)
    exact K1 2 _ rfl (by decide) (Or.inr ⟨pk, fun q => c5 (cmp_eq.mpr q), rfl⟩)
theorem c_Mo_notRun (hSt : StOk St) (g : Hp) : Ct l y_Mo_notRun prog_11_method_25_code 1 (some .boolean) (rmD 1) D cls cA slM St ad [.ref 0] g (fun r g' => g.1 0 14 = 0 ∧ r = some (.int 1) ∧ g' = upI g 0 0 1 ∨ ¬ g.1 0 14 = 0 ∧ r = some (.int 0) ∧ g' = upI g 0 0 0) := by
  refine Ct.of (tl := T_Mo_notRun) (by decide) tk_Mo_notRun cls_ok hSt (Nat.le_of_ble_eq_true rfl) (fun V G E C => ?_)
  repeat (first | refine G.sx (fun _ => false) rfl rfl rfl ?_ | refine G.gox (fun _ => false) rfl rfl rfl ?_ | refine G.getx (fun _ => false) rfl rfl rfl rfl ?_)
  refine G.br rfl rfl (fun c1 => ?_) (fun c1 => ?_)
  · repeat (first | refine G.sx (fun _ => false) rfl rfl rfl ?_ | refine G.gox (fun _ => false) rfl rfl rfl ?_ | refine G.getx (fun _ => false) rfl rfl rfl rfl ?_)
    refine G.put rfl rfl rfl ?_
    repeat (first | refine G.sx (fun _ => false) rfl rfl rfl ?_ | refine G.gox (fun _ => false) rfl rfl rfl ?_ | refine G.getx (fun _ => false) rfl rfl rfl rfl ?_)
    refine G.br rfl rfl (fun c2 => absurd c2 (by rw [up_eq]; decide)) (fun c2 => ?_)
    repeat (first | refine G.sx (fun _ => false) rfl rfl rfl ?_ | refine G.gox (fun _ => false) rfl rfl rfl ?_ | refine G.getx (fun _ => false) rfl rfl rfl rfl ?_)
    exact E.ri rfl (Or.inr ⟨rfl, Or.inr rfl⟩) (Or.inl ⟨c1, rfl, rfl⟩)
  · repeat (first | refine G.sx (fun _ => false) rfl rfl rfl ?_ | refine G.gox (fun _ => false) rfl rfl rfl ?_ | refine G.getx (fun _ => false) rfl rfl rfl rfl ?_)
    refine G.put rfl rfl rfl ?_
    repeat (first | refine G.sx (fun _ => false) rfl rfl rfl ?_ | refine G.gox (fun _ => false) rfl rfl rfl ?_ | refine G.getx (fun _ => false) rfl rfl rfl rfl ?_)
    refine G.br rfl rfl (fun c2 => ?_) (fun c2 => absurd (by rw [up_eq]; decide) c2)
    repeat (first | refine G.sx (fun _ => false) rfl rfl rfl ?_ | refine G.gox (fun _ => false) rfl rfl rfl ?_ | refine G.getx (fun _ => false) rfl rfl rfl rfl ?_)
    exact E.ri rfl (Or.inr ⟨rfl, Or.inl rfl⟩) (Or.inr ⟨c1, rfl, rfl⟩)
theorem c_Mo_noSteps (hSt : StOk St) (g : Hp) : Ct l y_Mo_noSteps prog_11_method_24_code 1 (some .boolean) (rmD 1) D cls cA slM St ad [.ref 0] g (fun r g' => ¬ (¬ g.1 0 14 = 0 ∧ g.1 0 18 = 0) ∧ r = some (.int 1) ∧ g' = upI g 0 0 1 ∨ (¬ g.1 0 14 = 0 ∧ g.1 0 18 = 0) ∧ r = some (.int 0) ∧ g' = upI g 0 0 0) := by
  refine Ct.of (tl := T_Mo_noSteps) (by decide) tk_Mo_noSteps cls_ok hSt (Nat.le_of_ble_eq_true rfl) (fun V G E C => ?_)
  have K : ¬ (¬ g.1 0 14 = 0 ∧ g.1 0 18 = 0) → V 19 [some (.ref 0)] [.ref 0] g := by
    intro hx
    repeat (first | refine G.sx (fun _ => false) rfl rfl rfl ?_ | refine G.gox (fun _ => false) rfl rfl rfl ?_ | refine G.getx (fun _ => false) rfl rfl rfl rfl ?_)
    refine G.put rfl rfl rfl ?_
    repeat (first | refine G.sx (fun _ => false) rfl rfl rfl ?_ | refine G.gox (fun _ => false) rfl rfl rfl ?_ | refine G.getx (fun _ => false) rfl rfl rfl rfl ?_)
    refine G.br rfl rfl (fun c2 => absurd c2 (by rw [up_eq]; decide)) (fun c2 => ?_)
    repeat (first | refine G.sx (fun _ => false) rfl rfl rfl ?_ | refine G.gox (fun _ => false) rfl rfl rfl ?_ | refine G.getx (fun _ => false) rfl rfl rfl rfl ?_)
    exact E.ri rfl (Or.inr ⟨rfl, Or.inr rfl⟩) (Or.inl ⟨hx, rfl, rfl⟩)
  repeat (first | refine G.sx (fun _ => false) rfl rfl rfl ?_ | refine G.gox (fun _ => false) rfl rfl rfl ?_ | refine G.getx (fun _ => false) rfl rfl rfl rfl ?_)
  refine G.br rfl rfl (fun c1 => K (fun q => q.1 c1)) (fun c1 => ?_)
  repeat (first | refine G.sx (fun _ => false) rfl rfl rfl ?_ | refine G.gox (fun _ => false) rfl rfl rfl ?_ | refine G.getx (fun _ => false) rfl rfl rfl rfl ?_)
  refine G.br rfl rfl (fun c3 => K (fun q => c3 q.2)) (fun c3 => ?_)
  repeat (first | refine G.sx (fun _ => false) rfl rfl rfl ?_ | refine G.gox (fun _ => false) rfl rfl rfl ?_ | refine G.getx (fun _ => false) rfl rfl rfl rfl ?_)
  refine G.put rfl rfl rfl ?_
  repeat (first | refine G.sx (fun _ => false) rfl rfl rfl ?_ | refine G.gox (fun _ => false) rfl rfl rfl ?_ | refine G.getx (fun _ => false) rfl rfl rfl rfl ?_)
  refine G.br rfl rfl (fun c2 => ?_) (fun c2 => absurd (by rw [up_eq]; decide) c2)
  repeat (first | refine G.sx (fun _ => false) rfl rfl rfl ?_ | refine G.gox (fun _ => false) rfl rfl rfl ?_ | refine G.getx (fun _ => false) rfl rfl rfl rfl ?_)
  exact E.ri rfl (Or.inr ⟨rfl, Or.inl rfl⟩) (Or.inr ⟨⟨c1, c3⟩, rfl, rfl⟩)
theorem upI_2 (g : Hp) (k j : Nat) (a b : Int32) : upI (upI g k j a) k j b = upI g k j b := by
  unfold upI
  congr 1
  funext q
  by_cases e : q = k
  · subst e
    show va_up (va_up g.1 q (upd (g.1 q) j a)) q (upd (va_up g.1 q (upd (g.1 q) j a) q) j b) q = va_up g.1 q (upd (g.1 q) j b) q
    rw [va_up_self, va_up_self, va_up_self]
    funext i
    unfold upd
    by_cases e2 : i = j
    · rw [if_pos e2, if_pos e2]
    · rw [if_neg e2, if_neg e2, if_neg e2]
  · show va_up (va_up g.1 k (upd (g.1 k) j a)) k (upd (va_up g.1 k (upd (g.1 k) j a) k) j b) q = va_up g.1 k (upd (g.1 k) j b) q
    rw [va_up_ne _ _ e, va_up_ne _ _ e, va_up_ne _ _ e]
theorem c_Mo_apart (hSt : StOk St) {g : Hp} {m : Nat} (hm : g.1 0 15 = nI m) (m12 : m ≤ 12) (k : Int32) : Ct l y_Mo_apart prog_11_method_27_code 2 (some .int) (rmD 2) D cls cA slM St ad [.ref 0, .int k] g (fun r g' => g.1 0 14 = 0 ∧ r = some (.int 0) ∧ g' = upI g 0 0 1 ∨ ¬ g.1 0 14 = 0 ∧ (¬ 0 ≤ k ∧ r = some (.int 0) ∧ g' = upI g 0 0 2 ∨ ∃ j, k = nI j ∧ j < 2 ^ 31 ∧ r = some (.int (if j < m then g.1 10 j else -1)) ∧ g' = upI g 0 0 0)) := by
  refine Ct.of (tl := T_Mo_apart) (by decide) tk_Mo_apart cls_ok hSt (Nat.le_of_ble_eq_true rfl) (fun V G E C => ?_)
  repeat (first | refine G.sx (fun _ => false) rfl rfl rfl ?_ | refine G.gox (fun _ => false) rfl rfl rfl ?_ | refine G.getx (fun _ => false) rfl rfl rfl rfl ?_)
  refine C.cv [] [] rfl cw_Mo_136 (d1 := 1) (by omega) (by omega) rfl rfl rfl (c_Mo_notRun hSt g) (by decide) (fun r h1 hq => ?_)
  rcases hq with ⟨r0, rfl, rfl⟩ | ⟨r0, rfl, rfl⟩
  · refine G.br rfl rfl (fun c1 => absurd c1 (by decide)) (fun _ => ?_)
    repeat (first | refine G.sx (fun _ => false) rfl rfl rfl ?_ | refine G.gox (fun _ => false) rfl rfl rfl ?_ | refine G.getx (fun _ => false) rfl rfl rfl rfl ?_)
    exact E.ri rfl (Or.inl rfl) (Or.inl ⟨r0, rfl, rfl⟩)
  · refine G.br rfl rfl (fun _ => ?_) (fun c1 => absurd rfl c1)
    repeat (first | refine G.sx (fun _ => false) rfl rfl rfl ?_ | refine G.gox (fun _ => false) rfl rfl rfl ?_ | refine G.getx (fun _ => false) rfl rfl rfl rfl ?_)
    refine G.br rfl rfl (fun c1 => ?_) (fun c1 => ?_)
    · obtain ⟨j, hj, rfl⟩ := nI_of (Int32.not_lt.mpr c1)
      repeat (first | refine G.sx (fun _ => false) rfl rfl rfl ?_ | refine G.gox (fun _ => false) rfl rfl rfl ?_ | refine G.getx (fun _ => false) rfl rfl rfl rfl ?_)
      refine G.put rfl rfl rfl ?_
      rw [upI_2]
      have e1 : (upI g 0 0 0).1 0 15 = nI m := by rw [up_ne _ _ _ _ (by decide)]; exact hm
      repeat (first | refine G.sx (fun _ => false) rfl rfl rfl ?_ | refine G.gox (fun _ => false) rfl rfl rfl ?_ | refine G.getx (fun _ => false) rfl rfl rfl rfl ?_)
      refine G.br rfl rfl (fun c2 => ?_) (fun c2 => absurd (by rw [up_eq]; decide) c2)
      repeat (first | refine G.sx (fun q => Nat.beq q 38) rfl rfl rfl ?_ | refine G.gox (fun q => Nat.beq q 38) rfl rfl rfl ?_ | refine G.getx (fun q => Nat.beq q 38) rfl rfl rfl rfl ?_)
      show V 38 _ [.int ((upI g 0 0 0).1 0 15), .int (nI j)] _
      rw [e1]
      refine G.br rfl rfl (fun c3 => ?_) (fun c3 => ?_)
      · have c3 : m ≤ j := (nI_leI (by omega) hj).mp c3
        repeat (first | refine G.sx (fun _ => false) rfl rfl rfl ?_ | refine G.gox (fun _ => false) rfl rfl rfl ?_ | refine G.getx (fun _ => false) rfl rfl rfl rfl ?_)
        refine E.ri rfl (Or.inl rfl) (Or.inr ⟨r0, Or.inr ⟨j, rfl, hj, ?_, rfl⟩⟩)
        rw [if_neg (by omega)]
      · have c3 : j < m := Nat.lt_of_not_le (fun z => c3 ((nI_leI (by omega) hj).mpr z))
        repeat (first | refine G.sx (fun _ => false) rfl rfl rfl ?_ | refine G.gox (fun _ => false) rfl rfl rfl ?_ | refine G.getx (fun _ => false) rfl rfl rfl rfl ?_)
        refine G.ialn rfl rfl (by omega) (by decide) ?_
        rw [up_off _ _ _ _ (by decide)]
        repeat (first | refine G.sx (fun _ => false) rfl rfl rfl ?_ | refine G.gox (fun _ => false) rfl rfl rfl ?_ | refine G.getx (fun _ => false) rfl rfl rfl rfl ?_)
        refine E.ri rfl (Or.inl rfl) (Or.inr ⟨r0, Or.inr ⟨j, rfl, hj, ?_, rfl⟩⟩)
        rw [if_pos c3]
    · repeat (first | refine G.sx (fun _ => false) rfl rfl rfl ?_ | refine G.gox (fun _ => false) rfl rfl rfl ?_ | refine G.getx (fun _ => false) rfl rfl rfl rfl ?_)
      refine G.put rfl rfl rfl ?_
      rw [upI_2]
      repeat (first | refine G.sx (fun _ => false) rfl rfl rfl ?_ | refine G.gox (fun _ => false) rfl rfl rfl ?_ | refine G.getx (fun _ => false) rfl rfl rfl rfl ?_)
      refine G.br rfl rfl (fun c2 => absurd c2 (by rw [up_eq]; decide)) (fun c2 => ?_)
      repeat (first | refine G.sx (fun _ => false) rfl rfl rfl ?_ | refine G.gox (fun _ => false) rfl rfl rfl ?_ | refine G.getx (fun _ => false) rfl rfl rfl rfl ?_)
      exact E.ri rfl (Or.inl rfl) (Or.inr ⟨r0, Or.inl ⟨c1, rfl, rfl⟩⟩)
theorem GrI.up0 {g : Hp} {n : Nat} {it : Nat → Nat} {j : Nat} {v : Int32} (hI : GrI g n it) (hj : j ≠ 1) : GrI (upI g 0 j v) n it := by
  obtain ⟨h1, h2, h3⟩ := hI
  exact ⟨by rw [up_ne _ _ _ _ (by omega)]; exact h1, h2, fun i hi => by rw [up_off _ _ _ _ (by decide)]; exact h3 i hi⟩
theorem c_Mo_step (hSt : StOk St) {g : Hp} {n : Nat} {it : Nat → Nat} (hI : GrI g n it) {m : Nat} (hm : g.1 0 15 = nI m) (m12 : m ≤ 12) {tk : Nat → Nat} (htk : ∀ j, j < m → g.1 10 j = nI (tk j) ∧ tk j < 12) (k t : Int32) : Ct l y_Mo_step prog_11_method_26_code 4 (some .int) (rmD 2) D cls cA slM St ad [.ref 0, .int k, .int t] g (fun r g' => ¬ (¬ g.1 0 14 = 0 ∧ g.1 0 18 = 0) ∧ r = some (.int 0) ∧ g' = upI g 0 0 1 ∨ (¬ g.1 0 14 = 0 ∧ g.1 0 18 = 0) ∧ (¬ (0 ≤ k ∧ k < nI m) ∧ r = some (.int 0) ∧ g' = upI g 0 0 2 ∨ (0 ≤ k ∧ k < nI m) ∧ ¬ (0 ≤ t ∧ t ≤ 2) ∧ r = some (.int 0) ∧ g' = upI g 0 0 3 ∨ (0 ≤ t ∧ t ≤ 2) ∧ ∃ j, k = nI j ∧ j < m ∧ r = some (.int (if t = 0 then nI (tk (m - 1 - j)) else if t = 1 then g.1 11 (m - 1 - j) else nI (ppM it (tk (m - 1 - j)) n))) ∧ g' = upI g 0 0 0)) := by
  refine Ct.of (tl := T_Mo_step) (by decide) tk_Mo_step cls_ok hSt (Nat.le_of_ble_eq_true rfl) (fun V G E C => ?_)
  repeat (first | refine G.sx (fun _ => false) rfl rfl rfl ?_ | refine G.gox (fun _ => false) rfl rfl rfl ?_ | refine G.getx (fun _ => false) rfl rfl rfl rfl ?_)
  refine C.cv [] [] rfl cw_Mo_129 (d1 := 1) (by omega) (by omega) rfl rfl rfl (c_Mo_noSteps hSt g) (by decide) (fun r h1 hq => ?_)
  rcases hq with ⟨r0, rfl, rfl⟩ | ⟨r0, rfl, rfl⟩
  · refine G.br rfl rfl (fun c1 => absurd c1 (by decide)) (fun _ => ?_)
    repeat (first | refine G.sx (fun _ => false) rfl rfl rfl ?_ | refine G.gox (fun _ => false) rfl rfl rfl ?_ | refine G.getx (fun _ => false) rfl rfl rfl rfl ?_)
    exact E.ri rfl (Or.inl rfl) (Or.inl ⟨r0, rfl, rfl⟩)
  · refine G.br rfl rfl (fun _ => ?_) (fun c1 => absurd rfl c1)
    have e1 : (upI g 0 0 0).1 0 15 = nI m := by rw [up_ne _ _ _ _ (by decide)]; exact hm
    have K1 : ∀ (c : Int32) lv, lk lv 0 = some (.ref 0) → 0 < c → (¬ (0 ≤ k ∧ k < nI m) ∧ c = 2 ∨ (0 ≤ k ∧ k < nI m) ∧ ¬ (0 ≤ t ∧ t ≤ 2) ∧ c = 3) → V 40 lv [.int c, .ref 0] (upI g 0 0 0) := by
      intro c lv hl hc hx
      refine G.le _ (le1 hl) ?_
      refine G.put rfl rfl rfl ?_
      rw [upI_2]
      repeat (first | refine G.sx (fun _ => false) rfl rfl rfl ?_ | refine G.gox (fun _ => false) rfl rfl rfl ?_ | refine G.getx (fun _ => false) rfl rfl rfl rfl ?_)
      refine G.br rfl rfl (fun c2 => absurd c2 (by rw [up_eq]; exact Int32.not_le.mpr hc)) (fun c2 => ?_)
      repeat (first | refine G.sx (fun _ => false) rfl rfl rfl ?_ | refine G.gox (fun _ => false) rfl rfl rfl ?_ | refine G.getx (fun _ => false) rfl rfl rfl rfl ?_)
      refine E.ri rfl (Or.inl rfl) (Or.inr ⟨r0, ?_⟩)
      rcases hx with ⟨a1, rfl⟩ | ⟨a1, a2, rfl⟩
      · exact Or.inl ⟨a1, rfl, rfl⟩
      · exact Or.inr (Or.inl ⟨a1, a2, rfl, rfl⟩)
    have K2 : ∀ lv, lk lv 0 = some (.ref 0) → ¬ (0 ≤ k ∧ k < nI m) → V 22 lv [.ref 0] (upI g 0 0 0) := by
      intro lv hl hx
      refine G.le _ (le1 hl) ?_
      repeat (first | refine G.sx (fun _ => false) rfl rfl rfl ?_ | refine G.gox (fun _ => false) rfl rfl rfl ?_ | refine G.getx (fun _ => false) rfl rfl rfl rfl ?_)
      exact K1 2 _ rfl (by decide) (Or.inl ⟨hx, rfl⟩)
    repeat (first | refine G.sx (fun _ => false) rfl rfl rfl ?_ | refine G.gox (fun _ => false) rfl rfl rfl ?_ | refine G.getx (fun _ => false) rfl rfl rfl rfl ?_)
    refine G.br rfl rfl (fun c1 => K2 _ rfl (fun q => absurd q.1 (Int32.not_le.mpr c1))) (fun c1 => ?_)
    repeat (first | refine G.sx (fun q => Nat.beq q 19) rfl rfl rfl ?_ | refine G.gox (fun q => Nat.beq q 19) rfl rfl rfl ?_ | refine G.getx (fun q => Nat.beq q 19) rfl rfl rfl rfl ?_)
    show V 19 _ [.int ((upI g 0 0 0).1 0 15), .int k, .ref 0] _
    rw [e1]
    refine G.br rfl rfl (fun c2 => ?_) (fun c2 => K2 _ rfl (fun q => c2 q.2))
    have pk : 0 ≤ k ∧ k < nI m := ⟨Int32.not_lt.mp c1, c2⟩
    have K3 : ∀ lv, lk lv 0 = some (.ref 0) → ¬ (0 ≤ t ∧ t ≤ 2) → V 35 lv [.ref 0] (upI g 0 0 0) := by
      intro lv hl hx
      refine G.le _ (le1 hl) ?_
      repeat (first | refine G.sx (fun _ => false) rfl rfl rfl ?_ | refine G.gox (fun _ => false) rfl rfl rfl ?_ | refine G.getx (fun _ => false) rfl rfl rfl rfl ?_)
      exact K1 3 _ rfl (by decide) (Or.inr ⟨pk, hx, rfl⟩)
    repeat (first | refine G.sx (fun _ => false) rfl rfl rfl ?_ | refine G.gox (fun _ => false) rfl rfl rfl ?_ | refine G.getx (fun _ => false) rfl rfl rfl rfl ?_)
    refine G.br rfl rfl (fun c3 => K3 _ rfl (fun q => absurd q.1 (Int32.not_le.mpr c3))) (fun c3 => ?_)
    repeat (first | refine G.sx (fun _ => false) rfl rfl rfl ?_ | refine G.gox (fun _ => false) rfl rfl rfl ?_ | refine G.getx (fun _ => false) rfl rfl rfl rfl ?_)
    refine G.br rfl rfl (fun c4 => ?_) (fun c4 => K3 _ rfl (fun q => c4 q.2))
    have pt : 0 ≤ t ∧ t ≤ 2 := ⟨Int32.not_lt.mp c3, c4⟩
    obtain ⟨j, rfl, hj⟩ := Ok_ex (rfl : nI m = _) (by omega) pk
    obtain ⟨t1, t2⟩ := htk (m - 1 - j) (by omega)
    repeat (first | refine G.sx (fun _ => false) rfl rfl rfl ?_ | refine G.gox (fun _ => false) rfl rfl rfl ?_ | refine G.getx (fun _ => false) rfl rfl rfl rfl ?_)
    refine G.put rfl rfl rfl ?_
    rw [upI_2]
    repeat (first | refine G.sx (fun _ => false) rfl rfl rfl ?_ | refine G.gox (fun _ => false) rfl rfl rfl ?_ | refine G.getx (fun _ => false) rfl rfl rfl rfl ?_)
    refine G.br rfl rfl (fun c2 => ?_) (fun c2 => absurd (by rw [up_eq]; decide) c2)
    repeat (first | refine G.sx (fun q => Nat.beq q 60) rfl rfl rfl ?_ | refine G.gox (fun q => Nat.beq q 60) rfl rfl rfl ?_ | refine G.getx (fun q => Nat.beq q 60) rfl rfl rfl rfl ?_)
    show V 60 _ [.int ((upI g 0 0 0).1 0 15 - nI 1 - nI j)] _
    have e2 : nI m - nI 1 - nI j = nI (m - 1 - j) := by
      rw [show m = (m - 1 - j) + j + 1 by omega, show nI ((m - 1 - j) + j + 1) = nI (m - 1 - j) + nI j + nI 1 by rw [nI_add, nI_add], Int32.add_sub_cancel, Int32.add_sub_cancel]
      congr 1
      omega
    rw [e1, e2]
    repeat (first | refine G.sx (fun _ => false) rfl rfl rfl ?_ | refine G.gox (fun _ => false) rfl rfl rfl ?_ | refine G.getx (fun _ => false) rfl rfl rfl rfl ?_)
    refine G.br rfl rfl (fun c5 => ?_) (fun c5 => ?_)
    · repeat (first | refine G.sx (fun _ => false) rfl rfl rfl ?_ | refine G.gox (fun _ => false) rfl rfl rfl ?_ | refine G.getx (fun _ => false) rfl rfl rfl rfl ?_)
      refine G.br rfl rfl (fun c6 => ?_) (fun c6 => ?_)
      · repeat (first | refine G.sx (fun _ => false) rfl rfl rfl ?_ | refine G.gox (fun _ => false) rfl rfl rfl ?_ | refine G.getx (fun _ => false) rfl rfl rfl rfl ?_)
        refine G.ialn rfl rfl (by omega) (by decide) ?_
        rw [up_off _ _ _ _ (by decide), t1]
        refine C.cv [.int (nI (tk (m - 1 - j)))] [] rfl cw_Mo_133 (d1 := 1) (by omega) (by omega) rfl rfl rfl (c_Mo_partsOf hSt (hI.up0 (by decide)) _ t2) (by decide) (fun r h1 hq => ?_)
        obtain ⟨rfl, rfl⟩ := hq
        refine E.ri rfl (Or.inl rfl) (Or.inr ⟨r0, Or.inr (Or.inr ⟨pt, j, rfl, hj, ?_, rfl⟩)⟩)
        rw [if_neg c5, if_neg c6]
      · repeat (first | refine G.sx (fun _ => false) rfl rfl rfl ?_ | refine G.gox (fun _ => false) rfl rfl rfl ?_ | refine G.getx (fun _ => false) rfl rfl rfl rfl ?_)
        refine G.ialn rfl rfl (by omega) (by decide) ?_
        rw [up_off _ _ _ _ (by decide)]
        repeat (first | refine G.sx (fun _ => false) rfl rfl rfl ?_ | refine G.gox (fun _ => false) rfl rfl rfl ?_ | refine G.getx (fun _ => false) rfl rfl rfl rfl ?_)
        refine E.ri rfl (Or.inl rfl) (Or.inr ⟨r0, Or.inr (Or.inr ⟨pt, j, rfl, hj, ?_, rfl⟩)⟩)
        rw [if_neg c5, if_pos c6]
    · repeat (first | refine G.sx (fun _ => false) rfl rfl rfl ?_ | refine G.gox (fun _ => false) rfl rfl rfl ?_ | refine G.getx (fun _ => false) rfl rfl rfl rfl ?_)
      refine G.ialn rfl rfl (by omega) (by decide) ?_
      rw [up_off _ _ _ _ (by decide), t1]
      repeat (first | refine G.sx (fun _ => false) rfl rfl rfl ?_ | refine G.gox (fun _ => false) rfl rfl rfl ?_ | refine G.getx (fun _ => false) rfl rfl rfl rfl ?_)
      refine E.ri rfl (Or.inl rfl) (Or.inr ⟨r0, Or.inr (Or.inr ⟨pt, j, rfl, hj, ?_, rfl⟩)⟩)
      rw [if_pos c5]
end MoF
