/-! Bars: the table as a function of the boxes; fillWithin, refresh -/
section FwC
variable {l : Launch} {D : va_G} {cA : Nat → ClassId} {ad : Nat → Nat}
theorem mtB_eq {h h' : Hp} (e : h'.2 = h.2) : mtB h' = mtB h := by
  funext s w a b
  unfold mtB
  have e1 : spdC h' w = spdC h w := by funext x; unfold spdC; rw [e]
  have e2 : nearC h' s a b = nearC h s a b := by funext x; unfold nearC; rw [e]
  have e3 : farC h' s a b = farC h s a b := by funext x; unfold farC; rw [e]
  rw [e1, e2, e3]
/-- the items that bar item i along way w: made of the pairs of boxes that meet -/
def TF (m : Nat → Nat → Nat → Bool) (it own : Nat → Nat) (nb nw w i : Nat) : Nat := foF (fun j => decide (w < nw ∨ w = 10) && anyB (fun a => anyB (fun b => decide (it (own a) = i ∧ it (own b) = j ∧ it (own b) ≠ it (own a)) && m w a b) nb) nb) 12 12 0 0 0
theorem TF_lt (m : Nat → Nat → Nat → Bool) (it own : Nat → Nat) (nb nw w i : Nat) : TF m it own nb nw w i < 4096 := foF_lt rfl (by omega)
theorem TF_bit (m : Nat → Nat → Nat → Bool) (it own : Nat → Nat) (nb nw w i j : Nat) : (TF m it own nb nw w i).testBit j = true ↔ j < 12 ∧ (w < nw ∨ w = 10) ∧ ∃ a b, a < nb ∧ b < nb ∧ it (own a) = i ∧ it (own b) = j ∧ it (own b) ≠ it (own a) ∧ m w a b = true := by
  unfold TF
  rw [foF_bit (by omega)]
  simp only [Nat.zero_testBit, Bool.false_or, Nat.zero_le, decide_true, Bool.true_and, Nat.zero_add, Bool.and_eq_true, decide_eq_true_eq, anyB_iff]
  constructor
  · rintro ⟨h1, h2, a, h3, b, h4, ⟨h5, h6, h7⟩, h8⟩
    exact ⟨h1, h2, a, b, h3, h4, h5, h6, h7, h8⟩
  · rintro ⟨h1, h2, a, b, h3, h4, h5, h6, h7, h8⟩
    exact ⟨h1, h2, a, h3, b, h4, ⟨h5, h6, h7⟩, h8⟩
theorem RwI_T {m : Nat → Nat → Nat → Bool} {it own : Nat → Nat} {nb nw : Nat} {g : Nat → Int32} (hi12 : ∀ a, a < nb → it (own a) < 12) (h : RwI m it own (Prs it own nb nw) g) {w i : Nat} (hw : w < 11) (hi : i < 12) : g (w * 12 + i) = nI (TF m it own nb nw w i) := by
  obtain ⟨B, h1, h2, h3⟩ := h w i hw hi
  rw [h2]
  congr 1
  apply Nat.eq_of_testBit_eq
  intro j
  rw [Bool.eq_iff_iff, h3 j, TF_bit]
  constructor
  · rintro ⟨a, b, ⟨q1, q2, q3, q4⟩, q5, q6, q7⟩
    exact ⟨by rw [← q6]; exact hi12 b q3, q1, a, b, q2, q3, q5, q6, q4, q7⟩
  · rintro ⟨-, q1, a, b, q2, q3, q5, q6, q4, q7⟩
    exact ⟨a, b, ⟨q1, q2, q3, q4⟩, q5, q6, q7⟩
/-- row s is as the boxes tell -/
def RowOk (h : Hp) (it own : Nat → Nat) (nb nw s : Nat) : Prop := RwI (mtB h s) it own (Prs it own nb nw) (h.1 (38 + s))
theorem RowOk.T {h : Hp} {n : Nat} {it : Nat → Nat} {nb : Nat} {own : Nat → Nat} {nw s : Nat} (hC : CI h n it nb own nw) (hr : RowOk h it own nb nw s) : TbI h s (TF (mtB h s) it own nb nw) := by
  obtain ⟨⟨hn, hn12, hit⟩, ⟨hnb, h40, how⟩, hon, hnw, h6, h10⟩ := hC
  intro w i hw hi
  exact ⟨RwI_T (fun a ha => by have := (hit _ (hon a ha)).2; have := hon a ha; omega) hr hw hi, TF_lt _ _ _ _ _ _ _⟩
/-- nothing but rows of the table and the number of filled ones has changed -/
def FrB (h h' : Hp) : Prop := h'.2 = h.2 ∧ (∀ k, k < 38 → k ≠ 5 → h'.1 k = h.1 k)
theorem FrB.rf {h : Hp} : FrB h h := ⟨rfl, fun _ _ _ => rfl⟩
theorem FrB.tr {h h' h'' : Hp} (h1 : FrB h h') (h2 : FrB h' h'') : FrB h h'' := ⟨h2.1.trans h1.1, fun k a b => (h2.2 k a b).trans (h1.2 k a b)⟩
theorem FrB.row {h : Hp} {s : Nat} {g : Nat → Int32} : FrB h (setI h (38 + s) g) := ⟨rfl, fun k a b => setI_ne _ _ (by omega)⟩
theorem FrB.fil {h : Hp} {v : Int32} : FrB h (upI h 5 6 v) := ⟨rfl, fun k a b => up_off _ _ _ _ b⟩
theorem CI.frB {h h' : Hp} {n : Nat} {it : Nat → Nat} {nb : Nat} {own : Nat → Nat} {nw : Nat} (hC : CI h n it nb own nw) (hf : FrB h h') : CI h' n it nb own nw := by
  obtain ⟨⟨hn, hn12, hit⟩, ⟨hnb, h40, how⟩, hon, hnw, h6, h10⟩ := hC
  refine ⟨⟨?_, hn12, ?_⟩, ⟨?_, h40, ?_⟩, hon, ?_, h6, h10⟩
  · rw [hf.2 1 (by omega) (by omega)]; exact hn
  · rw [hf.2 9 (by omega) (by omega)]; exact hit
  · rw [hf.2 2 (by omega) (by omega)]; exact hnb
  · rw [hf.2 10 (by omega) (by omega)]; exact how
  · rw [hf.2 3 (by omega) (by omega)]; exact hnw
def shN (m : Nat) : Nat := match m with
  | 0 => 1
  | 1 => 7
  | _ => 25
theorem shW_n (m : Nat) : shW m = nI (shN m) := by
  match m with
  | 0 => rfl
  | 1 => rfl
  | k + 2 => rfl
theorem shN_le (m : Nat) : 1 ≤ shN m ∧ shN m ≤ 25 := by
  unfold shN
  split <;> omega
theorem c_Ba_fillWithin {h : Hp} {n : Nat} {it : Nat → Nat} {nb : Nat} {own : Nat → Nat} {nw : Nat} (hC : CI h n it nb own nw) (fl : Nat) (hfl : h.1 5 6 = nI fl) (hf25 : fl ≤ 25) (hro : ∀ s, s < fl → RowOk h it own nb nw s) (m : Nat) (hm : m ≤ 2) : Ct l y_Ba_fillWithin prog_2_method_3_code 4 none (rmD 4) D cls cA slC (StT ad) ad [.ref 5, .int (nI m)] h (fun r h' => r = none ∧ FrB h h' ∧ h'.1 5 6 = nI (max fl (shN m)) ∧ ∀ s, s < max fl (shN m) → RowOk h' it own nb nw s) := by
  have hw25 := shN_le m
  refine Ct.ofX (tl := T_Ba_fillWithin) _ Zx_ok (by decide) tk_Ba_fillWithin cls_ok (StT_ok ad) (Nat.le_of_ble_eq_true rfl) (fun V G E C Z => ?_)
  have L : ∀ d s, fl ≤ s → (d + s = shN m ∨ d = 0 ∧ shN m ≤ s ∧ s = fl) → ∀ hc, FrB h hc → hc.1 5 6 = nI s → (∀ q, q < s → RowOk hc it own nb nw q) → s ≤ 25 → V 24 [some (.ref 5), some (.int (nI m)), some (.int (nI (shN m))), some (.int (nI s))] [] hc := by
    intro d
    induction d with
    | zero =>
      intro s h1 h2 hc hf h6 hr h25
      repeat (first | refine G.sx (fun _ => false) rfl rfl rfl ?_ | refine G.gox (fun _ => false) rfl rfl rfl ?_ | refine G.getx (fun _ => false) rfl rfl rfl rfl ?_)
      refine G.br rfl rfl (fun _ => ?_) (fun c1 => absurd (nI_le (by omega) (by omega)) c1)
      have e : max fl (shN m) = s := by omega
      exact E.rv rfl rfl ⟨rfl, hf, by rw [e]; exact h6, by rw [e]; exact hr⟩
    | succ d ih =>
      intro s h1 h2 hc hf h6 hr h25
      repeat (first | refine G.sx (fun _ => false) rfl rfl rfl ?_ | refine G.gox (fun _ => false) rfl rfl rfl ?_ | refine G.getx (fun _ => false) rfl rfl rfl rfl ?_)
      refine G.br rfl rfl (fun c1 => absurd c1 (nI_ge (by omega) (by omega))) (fun _ => ?_)
      repeat (first | refine G.sx (fun _ => false) rfl rfl rfl ?_ | refine G.gox (fun _ => false) rfl rfl rfl ?_ | refine G.getx (fun _ => false) rfl rfl rfl rfl ?_)
      refine C.cv [.int (nI s)] [] rfl cw_Ba_54 (d1 := 3) (by omega) (by omega) rfl rfl rfl (c_Ba_fill (StT_ok ad) (hC.frB hf) s (by omega)) (by decide) (fun r h' hq => ?_)
      obtain ⟨rfl, g, rfl, hg⟩ := hq
      repeat (first | refine G.sx (fun q => Nat.beq q 38) rfl rfl rfl ?_ | refine G.gox (fun q => Nat.beq q 38) rfl rfl rfl ?_ | refine G.getx (fun q => Nat.beq q 38) rfl rfl rfl rfl ?_)
      show V 38 _ [.int (nI s + 1), .ref 5] _
      rw [nI_1]
      refine G.put rfl rfl rfl ?_
      repeat (first | refine G.sx (fun _ => false) rfl rfl rfl ?_ | refine G.gox (fun _ => false) rfl rfl rfl ?_ | refine G.getx (fun _ => false) rfl rfl rfl rfl ?_)
      refine G.go rfl ?_
      show V 24 [some (.ref 5), some (.int (nI m)), some (.int (nI (shN m))), some (.int (nI s + 1))] [] _
      rw [nI_1 s]
      refine ih (s + 1) (by omega) (by omega) _ (hf.tr (FrB.row.tr FrB.fil)) (up_eq _ _ _ _) (fun q hq => ?_) (by omega)
      have e0 : mtB (upI (setI hc (38 + s) g) 5 6 (nI (s + 1))) = mtB hc := mtB_eq rfl
      unfold RowOk
      rw [e0, up_off _ _ _ _ (by omega)]
      by_cases e : q = s
      · subst e
        rw [setI_at]
        exact hg
      · rw [setI_ne _ _ (by omega)]
        exact hr q (by omega)
  repeat (first | refine G.sx (fun _ => false) rfl rfl rfl ?_ | refine G.gox (fun _ => false) rfl rfl rfl ?_ | refine G.getx (fun _ => false) rfl rfl rfl rfl ?_)
  refine G.br rfl rfl (fun c1 => absurd c1 (nI_pos (by omega))) (fun _ => ?_)
  repeat (first | refine G.sx (fun _ => false) rfl rfl rfl ?_ | refine G.gox (fun _ => false) rfl rfl rfl ?_ | refine G.getx (fun _ => false) rfl rfl rfl rfl ?_)
  refine G.br rfl rfl (fun c1 => absurd c1 (nI_nlt (a := 2) (by omega) (by omega))) (fun _ => ?_)
  refine Z.g1 rfl rfl ?_
  repeat (first | refine G.sx (fun _ => false) rfl rfl rfl ?_ | refine G.gox (fun _ => false) rfl rfl rfl ?_ | refine G.getx (fun _ => false) rfl rfl rfl rfl ?_)
  refine Z.a2 rfl (by omega) ?_
  rw [shW_n]
  repeat (first | refine G.sx (fun q => Nat.beq q 23) rfl rfl rfl ?_ | refine G.gox (fun q => Nat.beq q 23) rfl rfl rfl ?_ | refine G.getx (fun q => Nat.beq q 23) rfl rfl rfl rfl ?_)
  show V 23 _ [.int (h.1 5 6)] _
  rw [hfl]
  repeat (first | refine G.sx (fun q => Nat.beq q 24) rfl rfl rfl ?_ | refine G.gox (fun q => Nat.beq q 24) rfl rfl rfl ?_ | refine G.getx (fun q => Nat.beq q 24) rfl rfl rfl rfl ?_)
  refine L (shN m - fl) fl (Nat.le_refl _) (by omega) h FrB.rf hfl hro hf25
theorem c_Ba_refresh {h : Hp} {n : Nat} {it : Nat → Nat} {nb : Nat} {own : Nat → Nat} {nw : Nat} (hC : CI h n it nb own nw) : Ct l y_Ba_refresh prog_2_method_2_code 1 none (rmD 5) D cls cA slC (StT ad) ad [.ref 5] h (fun r h' => r = none ∧ FrB h h' ∧ h'.1 5 6 = nI 1 ∧ RowOk h' it own nb nw 0) := by
  refine Ct.of (tl := T_Ba_refresh) (by decide) tk_Ba_refresh cls_ok (StT_ok ad) (Nat.le_of_ble_eq_true rfl) (fun V G E C => ?_)
  repeat (first | refine G.sx (fun _ => false) rfl rfl rfl ?_ | refine G.gox (fun _ => false) rfl rfl rfl ?_ | refine G.getx (fun _ => false) rfl rfl rfl rfl ?_)
  refine G.put rfl rfl rfl ?_
  repeat (first | refine G.sx (fun _ => false) rfl rfl rfl ?_ | refine G.gox (fun _ => false) rfl rfl rfl ?_ | refine G.getx (fun _ => false) rfl rfl rfl rfl ?_)
  refine C.cv [.int (nI 0)] [] rfl cw_Ba_47 (d1 := 4) (by omega) (by omega) rfl rfl rfl (c_Ba_fillWithin (hC.frB FrB.fil) 0 (up_eq _ _ _ _) (by omega) (fun s hs => by omega) 0 (by omega)) (by decide) (fun r h' hq => ?_)
  obtain ⟨rfl, g1, g2, g3⟩ := hq
  exact E.rv rfl rfl ⟨rfl, FrB.fil.tr g1, g2, g3 0 (by decide)⟩
end FwC
