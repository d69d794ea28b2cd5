/-! SmallMoves.leastWithin -/
section Sm3
variable {l : Launch} {D : va_G} {cA : Nat → ClassId} {ad : Nat → Nat}
/-- how far has been searched, and what was found -/
def SmI (h : Hp) (fb : Nat → Bool) (se : Nat) : Prop := h.1 8 4 + 1 = nI se ∧ se ≤ 3 ∧ ((h.1 8 5 = -1 ∧ ∀ c, c < se → fb c = false) ∨ ∃ c, c < se ∧ h.1 8 5 = nI c ∧ fb c = true ∧ ∀ c', c' < c → fb c' = false)
/-- rows filled so far are right -/
def RwS (h : Hp) (it own : Nat → Nat) (nb nw fl : Nat) : Prop := h.1 5 6 = nI fl ∧ fl ≤ 25 ∧ ∀ s, s < fl → RowOk h it own nb nw s
/-- nothing but the table and SmallMoves' two numbers has changed -/
def FrM (h h' : Hp) : Prop := h'.2 = h.2 ∧ ∀ k, k < 38 → k ≠ 5 → k ≠ 8 → h'.1 k = h.1 k
theorem FrM.rf {h : Hp} : FrM h h := ⟨rfl, fun _ _ _ _ => rfl⟩
theorem FrM.tr {h h' h'' : Hp} (h1 : FrM h h') (h2 : FrM h' h'') : FrM h h'' := ⟨h2.1.trans h1.1, fun k a b c => (h2.2 k a b c).trans (h1.2 k a b c)⟩
theorem FrB.m {h h' : Hp} (h1 : FrB h h') : FrM h h' := ⟨h1.1, fun k a b _ => h1.2 k a b⟩
theorem FrM.up8 {h : Hp} {j : Nat} {v : Int32} : FrM h (upI h 8 j v) := ⟨rfl, fun k _ _ c => up_off _ _ _ _ c⟩
theorem CI.frM {h h' : Hp} {n : Nat} {it : Nat → Nat} {nb : Nat} {own : Nat → Nat} {nw : Nat} (hC : CI h n it nb own nw) (hf : FrM h h') : CI h' n it nb own nw := by
  obtain ⟨⟨hn, hn12, hit⟩, ⟨hnb, h40, how⟩, hon, hnw, h6, h10⟩ := hC
  refine ⟨⟨?_, hn12, ?_⟩, ⟨?_, h40, ?_⟩, hon, ?_, h6, h10⟩
  · rw [hf.2 1 (by omega) (by omega) (by omega)]; exact hn
  · rw [hf.2 9 (by omega) (by omega) (by omega)]; exact hit
  · rw [hf.2 2 (by omega) (by omega) (by omega)]; exact hnb
  · rw [hf.2 10 (by omega) (by omega) (by omega)]; exact how
  · rw [hf.2 3 (by omega) (by omega) (by omega)]; exact hnw
theorem shN_mono : ∀ q k, q ≤ k → k ≤ 2 → shN q ≤ shN k := by
  intro q k h1 h2
  rcases (show k = 0 ∨ k = 1 ∨ k = 2 by omega) with rfl | rfl | rfl
  · rw [show q = 0 by omega]; exact Nat.le_refl _
  · rcases (show q = 0 ∨ q = 1 by omega) with rfl | rfl <;> decide
  · rcases (show q = 0 ∨ q = 1 ∨ q = 2 by omega) with rfl | rfl | rfl <;> decide
theorem m1_le {d : Nat} (hd : d < 2 ^ 31) : ¬ nI d < -1 := fun q => by
  have h1 := nI_pos' hd
  simp only [Int32.lt_iff_toInt_lt, Int32.le_iff_toInt_le] at q h1
  have e1 : (-1 : Int32).toInt = -1 := by decide
  have e2 : (0 : Int32).toInt = 0 := by decide
  omega
theorem dl_0 : ∀ k, (0 : Int32) ∈ dl k
  | 0 => by simp [dl]
  | k + 1 => dl_up (dl_0 k)
theorem RowOk.m {h h' : Hp} {it own : Nat → Nat} {nb nw s : Nat} (hr : RowOk h it own nb nw s) (e1 : h'.2 = h.2) (e2 : h'.1 (38 + s) = h.1 (38 + s)) : RowOk h' it own nb nw s := by
  unfold RowOk
  rw [mtB_eq e1, e2]
  exact hr
set_option maxHeartbeats 1000000 in
theorem c_Sm_leastWithin {h : Hp} {n : Nat} {it : Nat → Nat} {nb : Nat} {own : Nat → Nat} {nw : Nat} (hC : CI h n it nb own nw) (hSh : ShI h) {fl : Nat} (hR : RwS h it own nb nw fl) (hmv : ∀ j, j < 12 → h.1 25 j = 0) {fb : Nat → Bool} (hfb : fb = fun c => fbB (fun s => TF (mtB h s) it own nb nw) it nw n c (h.1 25)) {se : Nat} (hS : SmI h fb se) (d : Nat) (hd : d ≤ 2) : Ct l y_Sm_leastWithin prog_8_method_3_code 3 (some .int) (rmD 7) D cls cA slC (StT ad) ad [.ref 8, .int (nI d)] h (fun r h' => r = some (.int (oI (fstN fb (d + 1) 0))) ∧ FrM h h' ∧ (∃ fl', fl ≤ fl' ∧ RwS h' it own nb nw fl') ∧ ∃ se', SmI h' fb se') := by
  refine Ct.of (tl := T_Sm_leastWithin) (by decide) tk_Sm_leastWithin cls_ok (StT_ok ad) (Nat.le_of_ble_eq_true rfl) (fun V G E C => ?_)
  have n12 : n ≤ 12 := hC.1.2.1
  -- the end
  have Ex : ∀ hc, FrM h hc → (∃ fl', fl ≤ fl' ∧ RwS hc it own nb nw fl') → ∀ q, SmI hc fb q → ((d < q) ∨ hc.1 8 5 ≠ -1) → ∀ v2 : Option Value, V 52 [some (.ref 8), some (.int (nI d)), v2] [] hc := by
    intro hc hf hr q hs hend v2
    obtain ⟨s1, s2, s3⟩ := id hs
    repeat (first | refine G.sx (fun _ => false) rfl rfl rfl ?_ | refine G.gox (fun _ => false) rfl rfl rfl ?_ | refine G.getx (fun _ => false) rfl rfl rfl rfl ?_)
    rcases s3 with ⟨f1, f2⟩ | ⟨c, f0, f1, f2, f3⟩
    · have hq : d < q := by
        rcases hend with z | z
        · exact z
        · exact absurd f1 z
      have e0 : fstN fb (d + 1) 0 = none := by
        cases e : fstN fb (d + 1) 0 with
        | none => rfl
        | some c =>
          obtain ⟨-, z1, z2, -⟩ := fstN_some e
          rw [f2 c (by omega)] at z2
          cases z2
      refine G.br rfl rfl (fun c1 => ?_) (fun _ => ?_)
      · exact absurd c1 (by rw [f1]; exact m1_le (by omega))
      · repeat (first | refine G.sx (fun q => Nat.beq q 68) rfl rfl rfl ?_ | refine G.gox (fun q => Nat.beq q 68) rfl rfl rfl ?_ | refine G.getx (fun q => Nat.beq q 68) rfl rfl rfl rfl ?_)
        show V 68 _ [.int (hc.1 8 5)] _
        rw [f1]
        exact E.ri rfl (Or.inl rfl) ⟨by rw [e0]; rfl, hf, hr, q, hs⟩
    · by_cases hcd : c ≤ d
      · have e0 : fstN fb (d + 1) 0 = some c := by
          cases e : fstN fb (d + 1) 0 with
          | none =>
            have z := fstN_none e c (by omega) (by omega)
            rw [f2] at z
            cases z
          | some c' =>
            obtain ⟨-, z1, z2, z3⟩ := fstN_some e
            rcases Nat.lt_trichotomy c' c with y | y | y
            · rw [f3 c' y] at z2; cases z2
            · rw [y]
            · rw [z3 c (by omega) y] at f2; cases f2
        refine G.br rfl rfl (fun c1 => ?_) (fun _ => ?_)
        · exact absurd c1 (by rw [f1]; exact nI_nlt hcd (by omega))
        · repeat (first | refine G.sx (fun q => Nat.beq q 68) rfl rfl rfl ?_ | refine G.gox (fun q => Nat.beq q 68) rfl rfl rfl ?_ | refine G.getx (fun q => Nat.beq q 68) rfl rfl rfl rfl ?_)
          show V 68 _ [.int (hc.1 8 5)] _
          rw [f1]
          exact E.ri rfl (Or.inl rfl) ⟨by rw [e0]; rfl, hf, hr, q, hs⟩
      · have e0 : fstN fb (d + 1) 0 = none := by
          cases e : fstN fb (d + 1) 0 with
          | none => rfl
          | some c' =>
            obtain ⟨-, z1, z2, -⟩ := fstN_some e
            rw [f3 c' (by omega)] at z2
            cases z2
        refine G.br rfl rfl (fun _ => ?_) (fun c1 => ?_)
        · repeat (first | refine G.sx (fun _ => false) rfl rfl rfl ?_ | refine G.gox (fun _ => false) rfl rfl rfl ?_ | refine G.getx (fun _ => false) rfl rfl rfl rfl ?_)
          exact E.ri rfl (Or.inl rfl) ⟨by rw [e0]; rfl, hf, hr, q, hs⟩
        · exact absurd (by rw [f1]; exact nI_lt (by omega) (by omega)) c1
  have Lp : ∀ p q, p + q = 3 → ∀ hc, FrM h hc → ∀ fl', fl ≤ fl' → RwS hc it own nb nw fl' → SmI hc fb q → V 7 [some (.ref 8), some (.int (nI d)), some (.int (nI q))] [] hc := by
    intro p
    induction p with
    | zero =>
      intro q hq hc hf fl' hfl hr hs
      repeat (first | refine G.sx (fun _ => false) rfl rfl rfl ?_ | refine G.gox (fun _ => false) rfl rfl rfl ?_ | refine G.getx (fun _ => false) rfl rfl rfl rfl ?_)
      refine G.br rfl rfl (fun _ => ?_) (fun c1 => absurd (nI_lt (by omega) (by omega)) c1)
      exact Ex hc hf ⟨fl', hfl, hr⟩ q hs (Or.inl (by omega)) _
    | succ p ih =>
      intro q hq hc hf fl' hfl hr hs
      obtain ⟨s1, s2, s3⟩ := id hs
      obtain ⟨r1, r2, r3⟩ := id hr
      repeat (first | refine G.sx (fun _ => false) rfl rfl rfl ?_ | refine G.gox (fun _ => false) rfl rfl rfl ?_ | refine G.getx (fun _ => false) rfl rfl rfl rfl ?_)
      refine G.br rfl rfl (fun c1 => ?_) (fun c1 => ?_)
      · have c1 : d < q := (nI_ltI (by omega) (by omega)).mp c1
        exact Ex hc hf ⟨fl', hfl, hr⟩ q hs (Or.inl c1) _
      · have c1 : q ≤ d := by
          rcases Nat.lt_or_ge d q with z | z
          · exact absurd (nI_lt z (by omega)) c1
          · exact z
        repeat (first | refine G.sx (fun _ => false) rfl rfl rfl ?_ | refine G.gox (fun _ => false) rfl rfl rfl ?_ | refine G.getx (fun _ => false) rfl rfl rfl rfl ?_)
        refine G.br rfl rfl (fun c2 => Ex hc hf ⟨fl', hfl, hr⟩ q hs (Or.inr c2) _) (fun c2 => ?_)
        have s4 : ∀ c, c < q → fb c = false := by
          rcases s3 with z | ⟨c, z0, z1, -⟩
          · exact z.2
          · rw [z1] at c2
            exact absurd c2 (m1_ne (by omega))
        repeat (first | refine G.sx (fun _ => false) rfl rfl rfl ?_ | refine G.gox (fun _ => false) rfl rfl rfl ?_ | refine G.getx (fun _ => false) rfl rfl rfl rfl ?_)
        refine C.cv [.int (nI q)] [] rfl cw_Sm_34 (d1 := 4) (by omega) (by omega) rfl rfl rfl (c_Ba_fillWithin (hC.frM hf) fl' r1 r2 r3 q (by omega)) (by decide) (fun r h1 hq1 => ?_)
        obtain ⟨rfl, g1, g2, g3⟩ := hq1
        have hf1 : FrM h h1 := hf.tr g1.m
        have hC1 := hC.frM hf1
        have m1 : max fl' (shN q) ≤ 25 := by have := (shN_le q).2; omega
        have hmv1 : h1.1 25 = h.1 25 := hf1.2 25 (by omega) (by omega) (by omega)
        have hM1 : MvI (h1.1 25) n 0 := by
          rw [hmv1]
          refine ⟨fun i hi => ?_, fun i o hi ho => ?_⟩
          · rw [hmv i (by omega)]; exact dl_0 0
          · rw [hmv i (by omega), hmv o (by omega)]; exact dl_0 0
        have hT1 : ∀ s, s < max fl' (shN q) → TbI h1 s (TF (mtB h s) it own nb nw) := fun s hs => by
          have := (g3 s hs).T hC1
          rw [mtB_eq hf1.1] at this
          exact this
        have h81 : h1.1 8 = hc.1 8 := g1.2 8 (by omega) (by omega)
        repeat (first | refine G.sx (fun _ => false) rfl rfl rfl ?_ | refine G.gox (fun _ => false) rfl rfl rfl ?_ | refine G.getx (fun _ => false) rfl rfl rfl rfl ?_)
        refine C.cv [.int (nI q)] [] rfl cw_Sm_40 (d1 := 4 + q) (by omega) (by omega) rfl rfl rfl (c_Sm_isFreedBy (T := fun s => TF (mtB h s) it own nb nw) (fl := max fl' (shN q)) hC1.2.2.2.2.2 q 0 h1 hC1.1 hC1.2.2.2.1 (fun z hz => by rw [hf1.2 17 (by omega) (by omega) (by omega)]; exact hSh z hz) (by omega) (by rw [Nat.zero_add]; omega) (by have := shN_mono 0 q (by omega) (by omega); omega) (fun z hz => by have := shN_mono z q (by omega) (by omega); omega) hT1 hM1) (by decide) (fun r h2 hq2 => ?_)
        obtain ⟨rfl, rfl⟩ := hq2
        rw [hmv1]
        have efb : fbB (fun s => TF (mtB h s) it own nb nw) it nw n q (h.1 25) = fb q := by rw [hfb]
        rw [efb]
        have J : ∀ hd : Hp, FrM h hd → RwS hd it own nb nw (max fl' (shN q)) → hd.1 8 4 = hc.1 8 4 → ((hd.1 8 5 = -1 ∧ fb q = false) ∨ (hd.1 8 5 = nI q ∧ fb q = true)) → V 41 [some (.ref 8), some (.int (nI d)), some (.int (nI q))] [] hd := by
          intro hd z1 z2 z3 z4
          repeat (first | refine G.sx (fun _ => false) rfl rfl rfl ?_ | refine G.gox (fun _ => false) rfl rfl rfl ?_ | refine G.getx (fun _ => false) rfl rfl rfl rfl ?_)
          refine G.put rfl rfl rfl ?_
          have e2 := ih (q + 1) (by omega) (upI hd 8 4 (nI q)) (z1.tr FrM.up8) (max fl' (shN q)) (by omega) ?_ ?_
          · rw [← nI_1 q] at e2
            repeat (first | refine G.sx (fun _ => false) rfl rfl rfl ?_ | refine G.gox (fun _ => false) rfl rfl rfl ?_ | refine G.getx (fun _ => false) rfl rfl rfl rfl ?_)
            refine G.go rfl ?_
            exact e2
          · refine ⟨by rw [up_off _ _ _ _ (by decide)]; exact z2.1, z2.2.1, fun s hs => (z2.2.2 s hs).m rfl (by rw [up_off _ _ _ _ (by omega)])⟩
          · refine ⟨by rw [up_eq, nI_1], by omega, ?_⟩
            rw [up_ne _ _ _ _ (by decide)]
            rcases z4 with ⟨y1, y2⟩ | ⟨y1, y2⟩
            · refine Or.inl ⟨y1, fun c hc => ?_⟩
              by_cases e : c = q
              · rw [e]; exact y2
              · exact s4 c (by omega)
            · exact Or.inr ⟨q, by omega, y1, y2, s4⟩
        by_cases hq3 : fb q = true
        · rw [if_pos hq3]
          refine G.br rfl rfl (fun c3 => absurd c3 (by decide)) (fun _ => ?_)
          repeat (first | refine G.sx (fun _ => false) rfl rfl rfl ?_ | refine G.gox (fun _ => false) rfl rfl rfl ?_ | refine G.getx (fun _ => false) rfl rfl rfl rfl ?_)
          refine G.put rfl rfl rfl ?_
          refine J _ (hf1.tr FrM.up8) ⟨by rw [up_off _ _ _ _ (by decide)]; exact g2, m1, fun s hs => (g3 s hs).m rfl (by rw [up_off _ _ _ _ (by omega)])⟩ ?_ (Or.inr ⟨up_eq _ _ _ _, hq3⟩)
          rw [up_ne _ _ _ _ (by decide), h81]
        · rw [if_neg hq3]
          refine G.br rfl rfl (fun _ => ?_) (fun c3 => absurd rfl c3)
          exact J h2 hf1 ⟨g2, m1, g3⟩ (by rw [h81]) (Or.inl ⟨by rw [h81]; exact c2, by simpa using hq3⟩)
  repeat (first | refine G.sx (fun q => Nat.beq q 6) rfl rfl rfl ?_ | refine G.gox (fun q => Nat.beq q 6) rfl rfl rfl ?_ | refine G.getx (fun q => Nat.beq q 6) rfl rfl rfl rfl ?_)
  show V 6 _ [.int (h.1 8 4 + 1)] _
  rw [hS.1]
  repeat (first | refine G.sx (fun q => Nat.beq q 7) rfl rfl rfl ?_ | refine G.gox (fun q => Nat.beq q 7) rfl rfl rfl ?_ | refine G.getx (fun q => Nat.beq q 7) rfl rfl rfl rfl ?_)
  exact Lp (3 - se) se (by have := hS.2.1; omega) h FrM.rf fl (Nat.le_refl _) hR hS
end Sm3
