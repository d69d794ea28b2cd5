/-! Bars: filling the table -/
section FiC
variable {l : Launch} {D : va_G} {cA : Nat → ClassId} {ad : Nat → Nat} {St : (Nat → Prop) → State → Heap → Prop}
theorem c_Ba_note (hSt : StOk St) {h : Hp} {n : Nat} {it : Nat → Nat} {nb : Nat} {own : Nat → Nat} {nw : Nat} (hC : CI h n it nb own nw) (s w a b B : Nat) (hs : s < 25) (hw : w < 11) (ha : a < nb) (hb : b < nb) (hB : B < 4096) (hR : h.1 (38 + s) (w * 12 + it (own a)) = nI B) : Ct l y_Ba_note prog_2_method_5_code 8 none (rmD 2) D cls cA slC St ad [.ref 5, .int (nI s), .int (nI w), .int (nI a), .int (nI b)] h (fun r h' => r = none ∧ h' = upI h (38 + s) (w * 12 + it (own a)) (nI (if mtB h s w a b then B ||| 2 ^ it (own b) else B))) := by
  obtain ⟨⟨hn, hn12, hit⟩, ⟨hnb, h40, how⟩, hon, hnw, h6, h10⟩ := hC
  have oa := hon a ha
  have ob := hon b hb
  have ia := (hit _ oa).2
  have ib := (hit _ ob).2
  refine Ct.of (tl := T_Ba_note) (by decide) tk_Ba_note cls_ok hSt (Nat.le_of_ble_eq_true rfl) (fun V G E C => ?_)
  repeat (first | refine G.sx (fun _ => false) rfl rfl rfl ?_ | refine G.gox (fun _ => false) rfl rfl rfl ?_ | refine G.getx (fun _ => false) rfl rfl rfl rfl ?_)
  refine G.aaln rfl rfl (by decide) hs (by decide) ?_
  repeat (first | refine G.sx (fun _ => false) rfl rfl rfl ?_ | refine G.gox (fun _ => false) rfl rfl rfl ?_ | refine G.getx (fun _ => false) rfl rfl rfl rfl ?_)
  refine G.ialn rfl rfl (by omega) (by decide) ?_
  rw [(how a ha).1]
  refine G.ialn rfl rfl (by omega) (by decide) ?_
  rw [(hit _ oa).1]
  repeat (first | refine G.sx (fun q => Nat.beq q 30) rfl rfl rfl ?_ | refine G.gox (fun q => Nat.beq q 30) rfl rfl rfl ?_ | refine G.getx (fun q => Nat.beq q 30) rfl rfl rfl rfl ?_)
  show V 30 _ [.int (nI w * 12 + nI (it (own a)))] _
  rw [ix12]
  repeat (first | refine G.sx (fun _ => false) rfl rfl rfl ?_ | refine G.gox (fun _ => false) rfl rfl rfl ?_ | refine G.getx (fun _ => false) rfl rfl rfl rfl ?_)
  refine G.ialn rfl rfl (by omega) (by decide) ?_
  rw [(how b hb).1]
  refine G.ialn rfl rfl (by omega) (by decide) ?_
  rw [(hit _ ob).1]
  repeat (first | refine G.sx (fun q => Nat.beq q 52) rfl rfl rfl ?_ | refine G.gox (fun q => Nat.beq q 52) rfl rfl rfl ?_ | refine G.getx (fun q => Nat.beq q 52) rfl rfl rfl rfl ?_)
  show V 52 _ [.int ((1 : Int32) <<< (nI (it (own b)) &&& 31))] _
  rw [one_shl (by omega)]
  repeat (first | refine G.sx (fun _ => false) rfl rfl rfl ?_ | refine G.gox (fun _ => false) rfl rfl rfl ?_ | refine G.getx (fun _ => false) rfl rfl rfl rfl ?_)
  refine G.ialn rfl (rowB s hs) (by omega) (by decide) ?_
  rw [hR]
  repeat (first | refine G.sx (fun _ => false) rfl rfl rfl ?_ | refine G.gox (fun _ => false) rfl rfl rfl ?_ | refine G.getx (fun _ => false) rfl rfl rfl rfl ?_)
  have bit : nI B &&& nI (2 ^ it (own b)) = 0 ↔ B.testBit (it (own b)) = false := by
    rw [and0 hB, beq_iff_eq]
    constructor
    · intro q
      have := congrArg (fun z => z.testBit (it (own b))) q
      simpa [Nat.testBit_and, Nat.testBit_two_pow] using this
    · intro q
      apply Nat.eq_of_testBit_eq
      intro j
      rw [Nat.testBit_and, Nat.testBit_two_pow, Nat.zero_testBit]
      by_cases e : it (own b) = j
      · subst e; simp [q]
      · simp [e]
  refine G.br rfl rfl (fun c1 => ?_) (fun c1 => ?_)
  · have c1 : B.testBit (it (own b)) = true := by
      cases q : B.testBit (it (own b)) with
      | true => rfl
      | false => exact absurd (bit.mpr q) c1
    have e1 : B ||| 2 ^ it (own b) = B := by
      apply Nat.eq_of_testBit_eq
      intro j
      rw [Nat.testBit_or, Nat.testBit_two_pow]
      by_cases e : it (own b) = j
      · subst e; simp [c1]
      · simp [e]
    refine E.rv rfl rfl ⟨rfl, ?_⟩
    rw [e1, ite_self, ← hR, upI_same]
  · repeat (first | refine G.sx (fun _ => false) rfl rfl rfl ?_ | refine G.gox (fun _ => false) rfl rfl rfl ?_ | refine G.getx (fun _ => false) rfl rfl rfl rfl ?_)
    refine C.cv [.int (nI s), .int (nI w), .int (nI a), .int (nI b)] [] rfl cw_Ba_82 (d1 := 1) (by omega) (by omega) rfl rfl rfl (c_Ba_meets hSt h s w a b hs hw (by omega) (by omega)) (by decide) (fun r h' hq => ?_)
    obtain ⟨rfl, rfl⟩ := hq
    by_cases hm : mtB h' s w a b
    · rw [if_pos hm]
      refine G.br rfl rfl (fun c4 => absurd c4 (by decide)) (fun _ => ?_)
      repeat (first | refine G.sx (fun _ => false) rfl rfl rfl ?_ | refine G.gox (fun _ => false) rfl rfl rfl ?_ | refine G.getx (fun _ => false) rfl rfl rfl rfl ?_)
      refine G.ialn rfl (rowB s hs) (by omega) (by decide) ?_
      rw [hR]
      repeat (first | refine G.sx (fun _ => false) rfl rfl rfl ?_ | refine G.gox (fun _ => false) rfl rfl rfl ?_ | refine G.getx (fun _ => false) rfl rfl rfl rfl ?_)
      show V 86 _ [.int (nI B ||| nI (2 ^ it (own b))), .int (nI (w * 12 + it (own a))), .ref (38 + s)] _
      rw [nI_or]
      refine G.iasn rfl (rowB s hs) (by omega) (by decide) ?_
      exact E.rv rfl rfl ⟨rfl, by rw [if_pos hm]⟩
    · rw [if_neg hm]
      refine G.br rfl rfl (fun _ => ?_) (fun c4 => absurd rfl c4)
      refine E.rv rfl rfl ⟨rfl, ?_⟩
      rw [if_neg hm, ← hR, upI_same]
/-- the row g holds, for each way and item, the items j of the pairs of boxes that Dn names and that meet -/
def RwI (m : Nat → Nat → Nat → Bool) (it own : Nat → Nat) (Dn : Nat → Nat → Nat → Prop) (g : Nat → Int32) : Prop := ∀ w i, w < 11 → i < 12 → ∃ B, B < 4096 ∧ g (w * 12 + i) = nI B ∧ ∀ j, B.testBit j = true ↔ ∃ a b, Dn w a b ∧ it (own a) = i ∧ it (own b) = j ∧ m w a b = true
theorem ix_inj {w w' i i' : Nat} (hi : i < 12) (hi' : i' < 12) (e : w * 12 + i = w' * 12 + i') : w = w' ∧ i = i' := by omega
theorem CI_row {h : Hp} {n : Nat} {it : Nat → Nat} {nb : Nat} {own : Nat → Nat} {nw : Nat} (hC : CI h n it nb own nw) (s : Nat) (g : Nat → Int32) : CI (setI h (38 + s) g) n it nb own nw := by
  obtain ⟨⟨hn, hn12, hit⟩, ⟨hnb, h40, how⟩, hon, hnw, h6, h10⟩ := hC
  refine ⟨⟨?_, hn12, ?_⟩, ⟨?_, h40, ?_⟩, hon, ?_, h6, h10⟩
  · rw [setI_ne _ _ (by omega)]; exact hn
  · rw [setI_ne _ _ (by omega)]; exact hit
  · rw [setI_ne _ _ (by omega)]; exact hnb
  · rw [setI_ne _ _ (by omega)]; exact how
  · rw [setI_ne _ _ (by omega)]; exact hnw
theorem RwI_note {m : Nat → Nat → Nat → Bool} {it own : Nat → Nat} {Dn : Nat → Nat → Nat → Prop} {g : Nat → Int32} (h : RwI m it own Dn g) {w a b B : Nat} (hw : w < 11) (ha : it (own a) < 12) (hb : it (own b) < 12) (hB : B < 4096) (hR : g (w * 12 + it (own a)) = nI B) : RwI m it own (fun w' a' b' => Dn w' a' b' ∨ (w' = w ∧ a' = a ∧ b' = b)) (upd g (w * 12 + it (own a)) (nI (if m w a b then B ||| 2 ^ it (own b) else B))) := by
  intro w' i hw' hi
  obtain ⟨B', hB', hg, hbit⟩ := h w' i hw' hi
  by_cases e : w' * 12 + i = w * 12 + it (own a)
  · obtain ⟨rfl, rfl⟩ := ix_inj hi ha e
    have e1 : B' = B := by
      rw [hR] at hg
      exact ((nI_eq (by omega) (by omega)).mp hg).symm
    subst e1
    refine ⟨if m w' a b then B' ||| 2 ^ it (own b) else B', ?_, by simp [upd], ?_⟩
    · split
      · exact or_lt hB' (pw_lt hb)
      · exact hB'
    · intro j
      by_cases hm : m w' a b
      · rw [if_pos hm, Nat.testBit_or, Nat.testBit_two_pow, Bool.or_eq_true, hbit j]
        constructor
        · rintro (⟨a', b', h1, h2, h3, h4⟩ | q)
          · exact ⟨a', b', Or.inl h1, h2, h3, h4⟩
          · exact ⟨a, b, Or.inr ⟨rfl, rfl, rfl⟩, rfl, by simpa using q, hm⟩
        · rintro ⟨a', b', h1 | ⟨-, rfl, rfl⟩, h2, h3, h4⟩
          · exact Or.inl ⟨a', b', h1, h2, h3, h4⟩
          · exact Or.inr (by simpa using h3)
      · rw [if_neg hm, hbit j]
        constructor
        · rintro ⟨a', b', h1, h2⟩
          exact ⟨a', b', Or.inl h1, h2⟩
        · rintro ⟨a', b', h1 | ⟨-, rfl, rfl⟩, h2, h3, h4⟩
          · exact ⟨a', b', h1, h2, h3, h4⟩
          · exact absurd h4 hm
  · refine ⟨B', hB', by simp [upd, e, hg], ?_⟩
    intro j
    rw [hbit j]
    constructor
    · rintro ⟨a', b', h1, h2⟩
      exact ⟨a', b', Or.inl h1, h2⟩
    · rintro ⟨a', b', h1 | ⟨rfl, rfl, rfl⟩, h2, h3, h4⟩
      · exact ⟨a', b', h1, h2, h3, h4⟩
      · exact absurd (by rw [h2]) e
theorem RwI_eq {m : Nat → Nat → Nat → Bool} {it own : Nat → Nat} {Dn Dn' : Nat → Nat → Nat → Prop} {g : Nat → Int32} (h : RwI m it own Dn g) (e : ∀ w a b, Dn w a b ↔ Dn' w a b) : RwI m it own Dn' g := by
  intro w i hw hi
  obtain ⟨B, h1, h2, h3⟩ := h w i hw hi
  refine ⟨B, h1, h2, fun j => (h3 j).trans ?_⟩
  constructor
  · rintro ⟨a, b, q, q2⟩; exact ⟨a, b, (e w a b).mp q, q2⟩
  · rintro ⟨a, b, q, q2⟩; exact ⟨a, b, (e w a b).mpr q, q2⟩
/-- the pairs that a row is made of -/
def Prs (it own : Nat → Nat) (nb nw : Nat) (w a b : Nat) : Prop := (w < nw ∨ w = 10) ∧ a < nb ∧ b < nb ∧ it (own b) ≠ it (own a)
set_option maxHeartbeats 1000000 in
theorem c_Ba_fill (hSt : StOk St) {h : Hp} {n : Nat} {it : Nat → Nat} {nb : Nat} {own : Nat → Nat} {nw : Nat} (hC : CI h n it nb own nw) (s : Nat) (hs : s < 25) : Ct l y_Ba_fill prog_2_method_4_code 6 none (rmD 3) D cls cA slC St ad [.ref 5, .int (nI s)] h (fun r h' => r = none ∧ ∃ g, h' = setI h (38 + s) g ∧ RwI (mtB h s) it own (Prs it own nb nw) g) := by
  obtain ⟨⟨hn, hn12, hit⟩, ⟨hnb, h40, how⟩, hon, hnw, h6, h10⟩ := id hC
  have iat : ∀ a, a < nb → it (own a) < 12 := fun a ha => by have := (hit _ (hon a ha)).2; have := hon a ha; omega
  refine Ct.of (tl := T_Ba_fill) (by decide) tk_Ba_fill cls_ok hSt (Nat.le_of_ble_eq_true rfl) (fun V G E C => ?_)
  have La : ∀ a, a ≤ nb → ∀ g, RwI (mtB h s) it own (fun w a' b' => Prs it own nb nw w a' b' ∧ a' < a) g → V 12 [some (.ref 5), some (.int (nI s)), some (.int (nI a)), none, none, none] [] (setI h (38 + s) g) := by
    refine loopUp nb (fun a ha ih => ?_) ?_
    · intro g0 hg0
      have qa := how a ha
      have oa := hon a ha
      have ia := hit _ oa
      have Lb : ∀ b, b ≤ nb → ∀ g, RwI (mtB h s) it own (fun w a' b' => Prs it own nb nw w a' b' ∧ (a' < a ∨ a' = a ∧ b' < b)) g → V 44 [some (.ref 5), some (.int (nI s)), some (.int (nI a)), some (.int (nI (it (own a)))), some (.int (nI b)), none] [] (setI h (38 + s) g) := by
        refine loopUp nb (fun b hb ihb => ?_) ?_
        · intro g1 hg1
          have qb := how b hb
          have ob := hon b hb
          have ib := hit _ ob
          have Lw : ∀ w, w ≤ nw → it (own b) ≠ it (own a) → ∀ g, RwI (mtB h s) it own (fun w' a' b' => Prs it own nb nw w' a' b' ∧ (a' < a ∨ a' = a ∧ (b' < b ∨ b' = b ∧ w' < w))) g → V 81 [some (.ref 5), some (.int (nI s)), some (.int (nI a)), some (.int (nI (it (own a)))), some (.int (nI b)), some (.int (nI w))] [] (setI h (38 + s) g) := by
            refine loopUp nw (fun w hw ihw => ?_) ?_
            · intro hne g2 hg2
              obtain ⟨B, hB, hR, -⟩ := hg2 w (it (own a)) (by omega) (iat a ha)
              repeat (first | refine G.sx (fun _ => false) rfl rfl rfl ?_ | refine G.gox (fun _ => false) rfl rfl rfl ?_ | refine G.getx (fun _ => false) rfl rfl rfl rfl ?_)
              refine G.br rfl rfl (fun c1 => absurd c1 (by rw [show (setI h (38 + s) g2).1 3 0 = nI nw by rw [setI_ne _ _ (by omega)]; exact hnw]; exact nI_ge hw (by omega))) (fun _ => ?_)
              repeat (first | refine G.sx (fun _ => false) rfl rfl rfl ?_ | refine G.gox (fun _ => false) rfl rfl rfl ?_ | refine G.getx (fun _ => false) rfl rfl rfl rfl ?_)
              refine C.cv [.int (nI s), .int (nI w), .int (nI a), .int (nI b)] [] rfl cw_Ba_78 (d1 := 2) (by omega) (by omega) rfl rfl rfl (c_Ba_note hSt (CI_row hC s g2) s w a b B hs (by omega) ha hb hB (by rw [setI_at]; exact hR)) (by decide) (fun r h' hq => ?_)
              obtain ⟨rfl, rfl⟩ := hq
              rw [upI_setI]
              repeat (first | refine G.sx (fun _ => false) rfl rfl rfl ?_ | refine G.gox (fun _ => false) rfl rfl rfl ?_ | refine G.getx (fun _ => false) rfl rfl rfl rfl ?_)
              refine G.go rfl ?_
              have e2 := ihw hne _ (RwI_eq (RwI_note hg2 (w := w) (a := a) (b := b) (by omega) (iat a ha) (iat b hb) hB hR) (fun w' a' b' => ?_))
              · rw [← nI_1] at e2
                exact e2
              · constructor
                · rintro (⟨h1, h2⟩ | ⟨rfl, rfl, rfl⟩)
                  · exact ⟨h1, by omega⟩
                  · exact ⟨⟨Or.inl hw, ha, hb, hne⟩, by omega⟩
                · rintro ⟨h1, h2⟩
                  by_cases q : w' = w ∧ a' = a ∧ b' = b
                  · exact Or.inr q
                  · exact Or.inl ⟨h1, by omega⟩
            · intro hne g2 hg2
              obtain ⟨B, hB, hR, -⟩ := hg2 10 (it (own a)) (by omega) (iat a ha)
              repeat (first | refine G.sx (fun _ => false) rfl rfl rfl ?_ | refine G.gox (fun _ => false) rfl rfl rfl ?_ | refine G.getx (fun _ => false) rfl rfl rfl rfl ?_)
              refine G.br rfl rfl (fun _ => ?_) (fun c1 => absurd (by rw [show (setI h (38 + s) g2).1 3 0 = nI nw by rw [setI_ne _ _ (by omega)]; exact hnw]; exact nI_le (Nat.le_refl nw) (by omega)) c1)
              repeat (first | refine G.sx (fun _ => false) rfl rfl rfl ?_ | refine G.gox (fun _ => false) rfl rfl rfl ?_ | refine G.getx (fun _ => false) rfl rfl rfl rfl ?_)
              refine C.cv [.int (nI s), .int (nI 10), .int (nI a), .int (nI b)] [] rfl cw_Ba_78 (d1 := 2) (by omega) (by omega) rfl rfl rfl (c_Ba_note hSt (CI_row hC s g2) s 10 a b B hs (by omega) ha hb hB (by rw [setI_at]; exact hR)) (by decide) (fun r h' hq => ?_)
              obtain ⟨rfl, rfl⟩ := hq
              rw [upI_setI]
              repeat (first | refine G.sx (fun _ => false) rfl rfl rfl ?_ | refine G.gox (fun _ => false) rfl rfl rfl ?_ | refine G.getx (fun _ => false) rfl rfl rfl rfl ?_)
              refine G.go rfl ?_
              have e2 := ihb _ (RwI_eq (RwI_note hg2 (w := 10) (a := a) (b := b) (by omega) (iat a ha) (iat b hb) hB hR) (fun w' a' b' => ?_))
              · rw [← nI_1] at e2
                refine G.le _ ?_ e2
                repeat (first | exact leL_0 | refine leL_n ?_ | refine leL_c rfl ?_)
              · constructor
                · rintro (⟨h1, h2⟩ | ⟨rfl, rfl, rfl⟩)
                  · exact ⟨h1, by omega⟩
                  · exact ⟨⟨Or.inr rfl, ha, hb, hne⟩, by omega⟩
                · rintro ⟨h1, h2⟩
                  by_cases q : w' = 10 ∧ a' = a ∧ b' = b
                  · exact Or.inr q
                  · refine Or.inl ⟨h1, ?_⟩
                    have := h1.1
                    omega
          repeat (first | refine G.sx (fun _ => false) rfl rfl rfl ?_ | refine G.gox (fun _ => false) rfl rfl rfl ?_ | refine G.getx (fun _ => false) rfl rfl rfl rfl ?_)
          refine G.br rfl rfl (fun c1 => absurd c1 (by rw [show (setI h (38 + s) g1).1 2 0 = nI nb by rw [setI_ne _ _ (by omega)]; exact hnb]; exact nI_ge hb (by omega))) (fun _ => ?_)
          repeat (first | refine G.sx (fun _ => false) rfl rfl rfl ?_ | refine G.gox (fun _ => false) rfl rfl rfl ?_ | refine G.getx (fun _ => false) rfl rfl rfl rfl ?_)
          refine G.ialn rfl rfl (by omega) (by decide) ?_
          rw [show (setI h (38 + s) g1).1 10 b = nI (own b) by rw [setI_ne _ _ (by omega)]; exact qb.1]
          refine G.ialn rfl rfl (by omega) (by decide) ?_
          rw [show (setI h (38 + s) g1).1 9 (own b) = nI (it (own b)) by rw [setI_ne _ _ (by omega)]; exact ib.1]
          repeat (first | refine G.sx (fun _ => false) rfl rfl rfl ?_ | refine G.gox (fun _ => false) rfl rfl rfl ?_ | refine G.getx (fun _ => false) rfl rfl rfl rfl ?_)
          refine G.br rfl rfl (fun c1 => ?_) (fun c1 => ?_)
          · have c1 : it (own b) = it (own a) := (nI_eq (by omega) (by omega)).mp c1
            repeat (first | refine G.sx (fun _ => false) rfl rfl rfl ?_ | refine G.gox (fun _ => false) rfl rfl rfl ?_ | refine G.getx (fun _ => false) rfl rfl rfl rfl ?_)
            refine G.go rfl ?_
            have e2 := ihb g1 (RwI_eq hg1 (fun w' a' b' => ?_))
            · rw [← nI_1] at e2
              exact e2
            · constructor
              · rintro ⟨h1, h2⟩
                exact ⟨h1, by omega⟩
              · rintro ⟨h1, h2⟩
                refine ⟨h1, ?_⟩
                by_cases q : a' = a ∧ b' = b
                · exact absurd c1 (by rw [← q.1, ← q.2]; exact h1.2.2.2)
                · omega
          · have c1 : it (own b) ≠ it (own a) := fun q => c1 (by rw [q])
            repeat (first | refine G.sx (fun q => Nat.beq q 81) rfl rfl rfl ?_ | refine G.gox (fun q => Nat.beq q 81) rfl rfl rfl ?_ | refine G.getx (fun q => Nat.beq q 81) rfl rfl rfl rfl ?_)
            refine Lw 0 (Nat.zero_le _) c1 g1 (RwI_eq hg1 (fun w' a' b' => ?_))
            constructor
            · rintro ⟨h1, h2⟩; exact ⟨h1, by omega⟩
            · rintro ⟨h1, h2⟩; exact ⟨h1, by omega⟩
        · intro g1 hg1
          repeat (first | refine G.sx (fun _ => false) rfl rfl rfl ?_ | refine G.gox (fun _ => false) rfl rfl rfl ?_ | refine G.getx (fun _ => false) rfl rfl rfl rfl ?_)
          refine G.br rfl rfl (fun _ => ?_) (fun c1 => absurd (by rw [show (setI h (38 + s) g1).1 2 0 = nI nb by rw [setI_ne _ _ (by omega)]; exact hnb]; exact nI_le (Nat.le_refl nb) (by omega)) c1)
          repeat (first | refine G.sx (fun _ => false) rfl rfl rfl ?_ | refine G.gox (fun _ => false) rfl rfl rfl ?_ | refine G.getx (fun _ => false) rfl rfl rfl rfl ?_)
          refine G.go rfl ?_
          have e2 := ih g1 (RwI_eq hg1 (fun w' a' b' => ?_))
          · rw [← nI_1] at e2
            refine G.le _ ?_ e2
            repeat (first | exact leL_0 | refine leL_n ?_ | refine leL_c rfl ?_)
          · constructor
            · rintro ⟨h1, h2⟩; exact ⟨h1, by omega⟩
            · rintro ⟨h1, h2⟩
              refine ⟨h1, ?_⟩
              have := h1.2.2.1
              omega
      repeat (first | refine G.sx (fun _ => false) rfl rfl rfl ?_ | refine G.gox (fun _ => false) rfl rfl rfl ?_ | refine G.getx (fun _ => false) rfl rfl rfl rfl ?_)
      refine G.br rfl rfl (fun c1 => absurd c1 (by rw [show (setI h (38 + s) g0).1 2 0 = nI nb by rw [setI_ne _ _ (by omega)]; exact hnb]; exact nI_ge ha (by omega))) (fun _ => ?_)
      repeat (first | refine G.sx (fun _ => false) rfl rfl rfl ?_ | refine G.gox (fun _ => false) rfl rfl rfl ?_ | refine G.getx (fun _ => false) rfl rfl rfl rfl ?_)
      refine G.ialn rfl rfl (by omega) (by decide) ?_
      rw [show (setI h (38 + s) g0).1 10 a = nI (own a) by rw [setI_ne _ _ (by omega)]; exact qa.1]
      refine G.ialn rfl rfl (by omega) (by decide) ?_
      rw [show (setI h (38 + s) g0).1 9 (own a) = nI (it (own a)) by rw [setI_ne _ _ (by omega)]; exact ia.1]
      repeat (first | refine G.sx (fun q => Nat.beq q 44) rfl rfl rfl ?_ | refine G.gox (fun q => Nat.beq q 44) rfl rfl rfl ?_ | refine G.getx (fun q => Nat.beq q 44) rfl rfl rfl rfl ?_)
      refine Lb 0 (Nat.zero_le _) g0 (RwI_eq hg0 (fun w' a' b' => ?_))
      constructor
      · rintro ⟨h1, h2⟩; exact ⟨h1, by omega⟩
      · rintro ⟨h1, h2⟩; exact ⟨h1, by omega⟩
    · intro g0 hg0
      repeat (first | refine G.sx (fun _ => false) rfl rfl rfl ?_ | refine G.gox (fun _ => false) rfl rfl rfl ?_ | refine G.getx (fun _ => false) rfl rfl rfl rfl ?_)
      refine G.br rfl rfl (fun _ => ?_) (fun c1 => absurd (by rw [show (setI h (38 + s) g0).1 2 0 = nI nb by rw [setI_ne _ _ (by omega)]; exact hnb]; exact nI_le (Nat.le_refl nb) (by omega)) c1)
      refine E.rv rfl rfl ⟨rfl, g0, rfl, RwI_eq hg0 (fun w' a' b' => ?_)⟩
      constructor
      · rintro ⟨h1, h2⟩; exact h1
      · rintro h1; exact ⟨h1, h1.2.1⟩
  repeat (first | refine G.sx (fun _ => false) rfl rfl rfl ?_ | refine G.gox (fun _ => false) rfl rfl rfl ?_ | refine G.getx (fun _ => false) rfl rfl rfl rfl ?_)
  refine G.aaln rfl rfl (by decide) hs (by decide) ?_
  repeat (first | refine G.sx (fun _ => false) rfl rfl rfl ?_ | refine G.gox (fun _ => false) rfl rfl rfl ?_ | refine G.getx (fun _ => false) rfl rfl rfl rfl ?_)
  refine C.cs [.ref (38 + s), .int 0] [] rfl cw_Ba_57 (d1 := 1) (by omega) (by omega) rfl (c_Ja_fillI hSt h (rowB s hs) (by decide) 0) (by decide) (fun r h' hq => ?_)
  obtain ⟨rfl, rfl⟩ := hq
  repeat (first | refine G.sx (fun q => Nat.beq q 12) rfl rfl rfl ?_ | refine G.gox (fun q => Nat.beq q 12) rfl rfl rfl ?_ | refine G.getx (fun q => Nat.beq q 12) rfl rfl rfl rfl ?_)
  refine La 0 (Nat.zero_le _) _ ?_
  intro w i hw hi
  refine ⟨0, by omega, ?_, fun j => ?_⟩
  · show (if w * 12 + i < 132 then (0 : Int32) else h.1 (38 + s) (w * 12 + i)) = nI 0
    rw [if_pos (by omega)]
    rfl
  · simp
end FiC
