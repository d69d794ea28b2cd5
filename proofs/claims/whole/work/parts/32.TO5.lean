/-! .. keeps -/
section TOe
variable {l : Launch} {D : va_G} {cA : Nat → ClassId} {ad : Nat → Nat}
def GlI (h : Hp) (n ng : Nat) (ga gb : Nat → Nat) : Prop := h.1 4 0 = nI ng ∧ ng ≤ 16 ∧ ∀ i, i < ng → h.1 14 i = nI (ga i) ∧ ga i < n ∧ h.1 15 i = nI (gb i) ∧ gb i < n
def abI (x : Int32) : Int32 := if 0 ≤ x then x else 0 - x
def kpB (h : Hp) (it ga gb : Nat → Nat) (i : Nat) : Bool := decide (h.1 16 i < abI (h.1 22 (it (ga i)) - h.1 22 (it (gb i))))
theorem c_TO_keeps (hfl : l.flags = flags0) {h : Hp} {n : Nat} {it : Nat → Nat} (hI : ItI h n it) {ng : Nat} {ga gb : Nat → Nat} (hG : GlI h n ng ga gb) : CtT l y_TO_keeps prog_1_method_18_code 4 (some .boolean) (rmT 8) D cls cA slC (StX ad) ad [.ref 0] h (fun r h' => (¬ h.1 0 8 = 0 ∧ h.1 6 6 = 0) ∧ r = some (.int (if anyB (kpB h it ga gb) ng then 0 else 1)) ∧ h' = h) (fun E h' => h' = h ∧ ¬ (¬ h.1 0 8 = 0 ∧ h.1 6 6 = 0) ∧ E = 0) := by
  obtain ⟨hn, n12, hit⟩ := hI
  obtain ⟨hg, g16, hgl⟩ := hG
  refine CtT.of (tl := T_TO_keeps) _ (Mx_ok (by decide)) hfl (by omega) rfl tk_TO_keeps cls_ok (Nat.le_of_ble_eq_true rfl) (fun V G E C CT TH M => ?_)
  repeat (first | refine G.sx (fun _ => false) rfl rfl rfl ?_ | refine G.gox (fun _ => false) rfl rfl rfl ?_ | refine G.getx (fun _ => false) rfl rfl rfl rfl ?_)
  refine CT.ct [] [] rfl cw_TO_174 (d1 := 7) (by omega) (by omega) rfl rfl rfl (c_TO_needSteps hfl h) (by decide) (fun r h1 hq => ?_) (fun F h1 hq => ⟨hq.2.2, hq.1, hq.2.1⟩)
  obtain ⟨pa, rfl, rfl⟩ := hq
  have L : ∀ i, i ≤ ng → anyB (kpB h1 it ga gb) i = false → V 6 [some (.ref 0), some (.int (nI i)), none, none] [] h1 := by
    refine loopUp ng (fun i hi ih => ?_) ?_
    · intro hf
      obtain ⟨g1, g2, g3, g4⟩ := hgl i hi
      have a1 := hit (ga i) g2
      have b1 := hit (gb i) g4
      repeat (first | refine G.sx (fun _ => false) rfl rfl rfl ?_ | refine G.gox (fun _ => false) rfl rfl rfl ?_ | refine G.getx (fun _ => false) rfl rfl rfl rfl ?_)
      refine G.br rfl rfl (fun c1 => absurd c1 (by rw [hg]; exact nI_ge hi (by omega))) (fun c1 => ?_)
      repeat (first | refine G.sx (fun _ => false) rfl rfl rfl ?_ | refine G.gox (fun _ => false) rfl rfl rfl ?_ | refine G.getx (fun _ => false) rfl rfl rfl rfl ?_)
      refine G.ialn rfl rfl (by omega) (by decide) ?_
      rw [g1]
      refine G.ialn rfl rfl (by omega) (by decide) ?_
      rw [a1.1]
      refine G.ialn rfl rfl (by omega) (by decide) ?_
      repeat (first | refine G.sx (fun _ => false) rfl rfl rfl ?_ | refine G.gox (fun _ => false) rfl rfl rfl ?_ | refine G.getx (fun _ => false) rfl rfl rfl rfl ?_)
      refine G.ialn rfl rfl (by omega) (by decide) ?_
      rw [g3]
      refine G.ialn rfl rfl (by omega) (by decide) ?_
      rw [b1.1]
      refine G.ialn rfl rfl (by omega) (by decide) ?_
      repeat (first | refine G.sx (fun _ => false) rfl rfl rfl ?_ | refine G.gox (fun _ => false) rfl rfl rfl ?_ | refine G.getx (fun _ => false) rfl rfl rfl rfl ?_)
      refine M.m 0 rfl ml_TO_243 rfl (by decide) ?_
      repeat (first | refine G.sx (fun _ => false) rfl rfl rfl ?_ | refine G.gox (fun _ => false) rfl rfl rfl ?_ | refine G.getx (fun _ => false) rfl rfl rfl rfl ?_)
      refine G.ialn rfl rfl (by omega) (by decide) ?_
      refine G.br rfl rfl (fun c2 => ?_) (fun c2 => ?_)
      · have c3 : kpB h1 it ga gb i = false := decide_eq_false (fun q => absurd c2 (Int32.not_le.mpr q))
        repeat (first | refine G.sx (fun _ => false) rfl rfl rfl ?_ | refine G.gox (fun _ => false) rfl rfl rfl ?_ | refine G.getx (fun _ => false) rfl rfl rfl rfl ?_)
        refine G.go rfl ?_
        have e2 := ih (by simp [anyB, hf, c3])
        rw [← nI_1] at e2
        refine G.le _ ?_ e2
        repeat (first | exact leL_0 | refine leL_n ?_ | refine leL_c rfl ?_)
      · have c3 : kpB h1 it ga gb i = true := decide_eq_true (Int32.not_le.mp c2)
        repeat (first | refine G.sx (fun _ => false) rfl rfl rfl ?_ | refine G.gox (fun _ => false) rfl rfl rfl ?_ | refine G.getx (fun _ => false) rfl rfl rfl rfl ?_)
        refine E.ri rfl (Or.inr ⟨rfl, Or.inl rfl⟩) ⟨pa, ?_, rfl⟩
        rw [if_pos ((anyB_iff _ ng).mpr ⟨i, hi, c3⟩)]
    · intro hf
      repeat (first | refine G.sx (fun _ => false) rfl rfl rfl ?_ | refine G.gox (fun _ => false) rfl rfl rfl ?_ | refine G.getx (fun _ => false) rfl rfl rfl rfl ?_)
      refine G.br rfl rfl (fun c1 => ?_) (fun c1 => absurd (by rw [hg]; exact nI_le (Nat.le_refl ng) (by omega)) c1)
      repeat (first | refine G.sx (fun _ => false) rfl rfl rfl ?_ | refine G.gox (fun _ => false) rfl rfl rfl ?_ | refine G.getx (fun _ => false) rfl rfl rfl rfl ?_)
      refine E.ri rfl (Or.inr ⟨rfl, Or.inr rfl⟩) ⟨pa, ?_, rfl⟩
      rw [if_neg (by rw [hf]; decide)]
  repeat (first | refine G.sx (fun q => Nat.beq q 6) rfl rfl rfl ?_ | refine G.gox (fun q => Nat.beq q 6) rfl rfl rfl ?_ | refine G.getx (fun q => Nat.beq q 6) rfl rfl rfl rfl ?_)
  exact L 0 (Nat.zero_le _) rfl
end TOe
