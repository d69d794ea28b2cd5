/-! The class's own methods that ask what a run found: run, step, apart, locked, stage, turnings, two, hands, out, keeps -/
section TOc
variable {l : Launch} {D : va_G} {cA : Nat → ClassId} {ad : Nat → Nat}
/-- what is the same behind run and what asks about it -/
def FrR (h h' : Hp) : Prop := (∀ k, k ≠ 23 → h'.2 k = h.2 k) ∧ ∀ k, k < 38 → k ∉ [0, 5, 6, 7, 8, 20, 21, 22, 24] → h'.1 k = h.1 k
theorem FrR.rf {h : Hp} : FrR h h := ⟨fun _ _ => rfl, fun _ _ _ => rfl⟩
theorem FrR.tr {h h' h'' : Hp} (h1 : FrR h h') (h2 : FrR h' h'') : FrR h h'' := ⟨fun k a => (h2.1 k a).trans (h1.1 k a), fun k a b => (h2.2 k a b).trans (h1.2 k a b)⟩
theorem FrR.up {h : Hp} {k j : Nat} {v : Int32} (hk : k ∈ [0, 5, 6, 7, 8, 20, 21, 22, 24]) : FrR h (upI h k j v) := ⟨fun _ _ => rfl, fun q _ hq => up_off _ _ _ _ (fun z => hq (by rw [z]; exact hk))⟩
theorem FrB.r {h h' : Hp} (h1 : FrB h h') : FrR h h' := ⟨fun k _ => by rw [h1.1], fun k a b => h1.2 k a (fun z => b (by rw [z]; decide))⟩
theorem FrM.r {h h' : Hp} (h1 : FrM h h') : FrR h h' := ⟨fun k _ => by rw [h1.1], fun k a b => h1.2 k a (fun z => b (by rw [z]; decide)) (fun z => b (by rw [z]; decide))⟩
theorem FrI.r {ks : List Nat} {h h' : Hp} (h1 : FrI ks h h') (hk : ∀ k, k ∈ ks → k ∈ [0, 5, 6, 7, 8, 20, 21, 22, 24]) : FrR h h' := ⟨fun k _ => by rw [h1.1], fun k a b => h1.2 k (fun z => b (hk k z))⟩
theorem FrS.r {ks kl : List Nat} {h h' : Hp} (h1 : FrS ks kl h h') (hk : ∀ k, k ∈ ks → k ∈ [0, 5, 6, 7, 8, 20, 21, 22, 24]) (hl : ∀ k, k ∈ kl → k = 23) : FrR h h' := ⟨fun k q => h1.2 k (fun z => q (hl k z)), fun k a b => h1.1 k (fun z => b (hk k z))⟩
theorem mtB_fr {h h' : Hp} (e : ∀ k, k ≠ 23 → h'.2 k = h.2 k) (s w a b : Nat) (hx : ∀ x, x < 3 → True := by intros; trivial) : mtB h' s w a b = mtB h s w a b := by
  have e1 : ∀ x, spdC h' w x = spdC h w x := fun x => by unfold spdC; rw [e (32 + x) (by omega)]
  have e2 : ∀ x, nearC h' s a b x = nearC h s a b x := fun x => by unfold nearC; rw [e (26 + x) (by omega), e (35 + x) (by omega), e (29 + x) (by omega)]
  have e3 : ∀ x, farC h' s a b x = farC h s a b x := fun x => by unfold farC; rw [e (26 + x) (by omega), e (35 + x) (by omega), e (29 + x) (by omega)]
  unfold mtB
  rw [funext e1, funext e2, funext e3]
theorem mtB_fn {h h' : Hp} (e : ∀ k, k ≠ 23 → h'.2 k = h.2 k) : mtB h' = mtB h := funext fun s => funext fun w => funext fun a => funext fun b => mtB_fr e s w a b
theorem allB_lt {it : Nat → Nat} : ∀ n, n ≤ 12 → (∀ i, i < n → it i ≤ i) → allB it n < 4096
  | 0, _, _ => Nat.lt_of_sub_eq_succ rfl
  | n + 1, hn, hi => or_lt (allB_lt n (by omega) (fun i z => hi i (by omega))) (pw_lt (by have := hi n (by omega); omega))
theorem pOf_lt {it : Nat → Nat} {B : Nat} : ∀ n, n ≤ 12 → pOf it B n < 4096
  | 0, _ => Nat.lt_of_sub_eq_succ rfl
  | n + 1, hn => by
    unfold pOf
    split
    · exact or_lt (pOf_lt n (by omega)) (pw_lt (by omega))
    · exact pOf_lt n (by omega)
/-- what a run has found, and what was found later -/
def RanJ (M : Nat → Nat → Nat → Nat → Bool) (mv : Nat → Int32) (h : Hp) (n : Nat) (it : Nat → Nat) (nb : Nat) (own : Nat → Nat) (nw : Nat) : Prop :=
  (∃ fl, 1 ≤ fl ∧ h.1 5 6 = nI fl ∧ fl ≤ 25 ∧ ∀ s, s < fl → RwI (M s) it own (Prs it own nb nw) (h.1 (38 + s))) ∧
  (∃ m, PlI h (TF (M 0) it own nb nw) nw (allB it n) m ∧ (m = 12 ∨ fstI (TF (M 0) it own nb nw) nw (plS (TF (M 0) it own nb nw) nw (allB it n) m) = none)) ∧
  (h.1 7 5 = 0 ∨ h.1 7 5 = 1 ∧ ∀ i, i < 12 → BfL (TF (M 0) it own nb nw) nw (allB it n) 0 (h.1 24 i) i) ∧
  (h.1 7 6 = 0 ∨ h.1 7 6 = 1 ∧ TnOk (TF (M 0) it own nb nw) nw (allB it n) (h.1 7 7)) ∧
  ∃ se, SmI h (fun c => fbB (fun s => TF (M s) it own nb nw) it nw n c mv) se
def RanI (h : Hp) (n : Nat) (it : Nat → Nat) (nb : Nat) (own : Nat → Nat) (nw : Nat) : Prop := RanJ (mtB h) (h.1 25) h n it nb own nw
/-- the class's heap, but for what a run finds -/
def BV (h : Hp) (n : Nat) (it : Nat → Nat) (nb : Nat) (own : Nat → Nat) (nw : Nat) : Prop := CI h n it nb own nw ∧ ShI h ∧ ∀ j, j < 12 → h.1 25 j = 0
theorem CI.frR {h h' : Hp} {n : Nat} {it : Nat → Nat} {nb : Nat} {own : Nat → Nat} {nw : Nat} (hC : CI h n it nb own nw) (hf : FrR h h') : CI h' n it nb own nw := by
  obtain ⟨⟨a1, a2, a3⟩, ⟨b1, b2, b3⟩, c, d1, d2, d3⟩ := hC
  have e1 := hf.2 1 (by decide) (by decide)
  have e2 := hf.2 2 (by decide) (by decide)
  have e3 := hf.2 3 (by decide) (by decide)
  have e9 := hf.2 9 (by decide) (by decide)
  have e10 := hf.2 10 (by decide) (by decide)
  exact ⟨⟨by rw [e1]; exact a1, a2, fun i hi => by rw [e9]; exact a3 i hi⟩, ⟨by rw [e2]; exact b1, b2, fun i hi => by rw [e10]; exact b3 i hi⟩, c, by rw [e3]; exact d1, d2, d3⟩
theorem BV.frR {h h' : Hp} {n : Nat} {it : Nat → Nat} {nb : Nat} {own : Nat → Nat} {nw : Nat} (hB : BV h n it nb own nw) (hf : FrR h h') : BV h' n it nb own nw :=
  ⟨hB.1.frR hf, fun q hq => by rw [hf.2 17 (by decide) (by decide)]; exact hB.2.1 q hq, fun j hj => by rw [hf.2 25 (by decide) (by decide)]; exact hB.2.2 j hj⟩
theorem RanI_fr {h h' : Hp} {n : Nat} {it : Nat → Nat} {nb : Nat} {own : Nat → Nat} {nw : Nat} (hf : FrR h h') : RanI h' n it nb own nw = RanJ (mtB h) (h.1 25) h' n it nb own nw := by
  unfold RanI
  rw [mtB_fn hf.1, hf.2 25 (by decide) (by decide)]
abbrev TC (h : Hp) (it : Nat → Nat) (nb : Nat) (own : Nat → Nat) (nw : Nat) : Nat → Nat → Nat := TF (mtB h 0) it own nb nw
theorem RanI.T {h : Hp} {n : Nat} {it : Nat → Nat} {nb : Nat} {own : Nat → Nat} {nw : Nat} (hR : RanI h n it nb own nw) (hC : CI h n it nb own nw) : TbI h 0 (TC h it nb own nw) := by
  obtain ⟨⟨fl, f1, f2, f3, f4⟩, -⟩ := hR
  exact RowOk.T hC (f4 0 (by omega))
theorem c_TO_run {h : Hp} {n : Nat} {it : Nat → Nat} {nb : Nat} {own : Nat → Nat} {nw : Nat} (hV : BV h n it nb own nw) (hr : h.1 0 8 = 0 ∨ h.1 0 8 = 1 ∧ RanI h n it nb own nw) : Ct l y_TO_run prog_1_method_8_code 1 (some .int) (rmD 8) D cls cA slC (StX ad) ad [.ref 0] h (fun r h' => r = some (.int (if h'.1 6 6 = 0 then h'.1 6 5 else 0)) ∧ FrR h h' ∧ h'.1 0 8 = 1 ∧ RanI h' n it nb own nw) := by
  obtain ⟨hC, hSh, hmv⟩ := hV
  have hA : allB it n < 4096 := allB_lt n hC.1.2.1 (fun i hi => (hC.1.2.2 i hi).2)
  refine Ct.of (tl := T_TO_run) (by decide) tk_TO_run cls_ok (StX_ok ad) (Nat.le_of_ble_eq_true rfl) (fun V G E C => ?_)
  have F : ∀ h1, FrR h h1 → h1.1 0 8 = 1 → RanI h1 n it nb own nw → V 40 [some (.ref 0)] [] h1 := by
    intro h1 hf h8 hR
    repeat (first | refine G.sx (fun _ => false) rfl rfl rfl ?_ | refine G.gox (fun _ => false) rfl rfl rfl ?_ | refine G.getx (fun _ => false) rfl rfl rfl rfl ?_)
    refine G.br rfl rfl (fun c1 => ?_) (fun c1 => ?_)
    · repeat (first | refine G.sx (fun _ => false) rfl rfl rfl ?_ | refine G.gox (fun _ => false) rfl rfl rfl ?_ | refine G.getx (fun _ => false) rfl rfl rfl rfl ?_)
      refine E.ri rfl (Or.inl rfl) ⟨?_, hf, h8, hR⟩
      rw [if_neg c1]
    · repeat (first | refine G.sx (fun _ => false) rfl rfl rfl ?_ | refine G.gox (fun _ => false) rfl rfl rfl ?_ | refine G.getx (fun _ => false) rfl rfl rfl rfl ?_)
      refine E.ri rfl (Or.inl rfl) ⟨?_, hf, h8, hR⟩
      rw [if_pos c1]
  repeat (first | refine G.sx (fun _ => false) rfl rfl rfl ?_ | refine G.gox (fun _ => false) rfl rfl rfl ?_ | refine G.getx (fun _ => false) rfl rfl rfl rfl ?_)
  refine G.br rfl rfl (fun c1 => ?_) (fun c1 => ?_)
  · rcases hr with z | z
    · exact absurd z c1
    · exact F h FrR.rf z.1 z.2
  · repeat (first | refine G.sx (fun _ => false) rfl rfl rfl ?_ | refine G.gox (fun _ => false) rfl rfl rfl ?_ | refine G.getx (fun _ => false) rfl rfl rfl rfl ?_)
    refine C.cv [] [] rfl cw_TO_158 (d1 := 5) (by omega) (by omega) rfl rfl rfl (Ct.more StX_T (c_Ba_refresh hC)) (by decide) (fun r h1 hq => ?_)
    obtain ⟨rfl, g1, g2, g3⟩ := hq
    have hC1 : CI h1 n it nb own nw := hC.frR g1.r
    have hT1 : TbI h1 0 (TF (mtB h 0) it own nb nw) := by
      have := g3.T hC1
      rw [mtB_fn g1.r.1] at this
      exact this
    repeat (first | refine G.sx (fun _ => false) rfl rfl rfl ?_ | refine G.gox (fun _ => false) rfl rfl rfl ?_ | refine G.getx (fun _ => false) rfl rfl rfl rfl ?_)
    refine C.cv [] [] rfl cw_TO_161 (d1 := 4) (by omega) (by omega) rfl rfl rfl (c_Pl_make (StX_ok ad) hC1.1 hC1.2.2.2.1 hC1.2.2.2.2.2 hT1 hA) (by decide) (fun r h2 hq => ?_)
    obtain ⟨rfl, k1, m, k2, k3⟩ := hq
    repeat (first | refine G.sx (fun _ => false) rfl rfl rfl ?_ | refine G.gox (fun _ => false) rfl rfl rfl ?_ | refine G.getx (fun _ => false) rfl rfl rfl rfl ?_)
    refine C.cv [] [] rfl cw_TO_164 (d1 := 1) (by omega) (by omega) rfl rfl rfl (c_Se_forget (StX_ok ad) h2) (by decide) (fun r h3 hq => ?_)
    obtain ⟨rfl, rfl⟩ := hq
    repeat (first | refine G.sx (fun _ => false) rfl rfl rfl ?_ | refine G.gox (fun _ => false) rfl rfl rfl ?_ | refine G.getx (fun _ => false) rfl rfl rfl rfl ?_)
    refine C.cv [] [] rfl cw_TO_167 (d1 := 1) (by omega) (by omega) rfl rfl rfl (c_Sm_forget (StX_ok ad) (upI (upI h2 7 5 0) 7 6 0)) (by decide) (fun r h4 hq => ?_)
    obtain ⟨rfl, rfl⟩ := hq
    repeat (first | refine G.sx (fun _ => false) rfl rfl rfl ?_ | refine G.gox (fun _ => false) rfl rfl rfl ?_ | refine G.getx (fun _ => false) rfl rfl rfl rfl ?_)
    refine G.putz rfl rfl rfl (Or.inr rfl) ?_
    have hf2 : FrR h h2 := g1.r.tr (k1.r (by decide))
    have hf5 : FrR h (upI (upI (upI (upI (upI h2 7 5 0) 7 6 0) 8 4 (-1)) 8 5 (-1)) 0 8 1) := hf2.tr ((FrR.up (by decide)).tr ((FrR.up (by decide)).tr ((FrR.up (by decide)).tr ((FrR.up (by decide)).tr (FrR.up (by decide))))))
    refine F _ hf5 (up_eq _ _ _ _) ?_
    rw [RanI_fr hf5]
    refine ⟨⟨1, Nat.le_refl _, ?_, by decide, fun s hs => ?_⟩, ⟨m, ?_, k3⟩, Or.inl ?_, Or.inl ?_, 0, ?_, by decide, Or.inl ⟨?_, fun c hc => absurd hc (by omega)⟩⟩
    · rw [up_off _ _ _ _ (by decide), up_off _ _ _ _ (by decide), up_off _ _ _ _ (by decide), up_off _ _ _ _ (by decide), up_off _ _ _ _ (by decide), k1.2 5 (by decide)]
      exact g2
    · have hs0 : s = 0 := by omega
      subst hs0
      rw [up_off _ _ _ _ (by decide), up_off _ _ _ _ (by decide), up_off _ _ _ _ (by decide), up_off _ _ _ _ (by decide), up_off _ _ _ _ (by decide), k1.2 (38 + 0) (by decide)]
      have g4 : RwI (mtB h1 0) it own (Prs it own nb nw) (h1.1 (38 + 0)) := g3
      rw [mtB_fn g1.r.1] at g4
      exact g4
    · obtain ⟨q1, q2, q3, q4⟩ := k2
      have e6 : (upI (upI (upI (upI (upI h2 7 5 0) 7 6 0) 8 4 (-1)) 8 5 (-1)) 0 8 1).1 6 = h2.1 6 := by rw [up_off _ _ _ _ (by decide), up_off _ _ _ _ (by decide), up_off _ _ _ _ (by decide), up_off _ _ _ _ (by decide), up_off _ _ _ _ (by decide)]
      have e20 : (upI (upI (upI (upI (upI h2 7 5 0) 7 6 0) 8 4 (-1)) 8 5 (-1)) 0 8 1).1 20 = h2.1 20 := by rw [up_off _ _ _ _ (by decide), up_off _ _ _ _ (by decide), up_off _ _ _ _ (by decide), up_off _ _ _ _ (by decide), up_off _ _ _ _ (by decide)]
      have e21 : (upI (upI (upI (upI (upI h2 7 5 0) 7 6 0) 8 4 (-1)) 8 5 (-1)) 0 8 1).1 21 = h2.1 21 := by rw [up_off _ _ _ _ (by decide), up_off _ _ _ _ (by decide), up_off _ _ _ _ (by decide), up_off _ _ _ _ (by decide), up_off _ _ _ _ (by decide)]
      have e22 : (upI (upI (upI (upI (upI h2 7 5 0) 7 6 0) 8 4 (-1)) 8 5 (-1)) 0 8 1).1 22 = h2.1 22 := by rw [up_off _ _ _ _ (by decide), up_off _ _ _ _ (by decide), up_off _ _ _ _ (by decide), up_off _ _ _ _ (by decide), up_off _ _ _ _ (by decide)]
      exact ⟨by rw [e6]; exact q1, by rw [e6]; exact q2, q3, fun j hj => by rw [e20, e21, e22]; exact q4 j hj⟩
    · rfl
    · rfl
    · rw [up_off _ _ _ _ (by decide), up_ne _ _ _ _ (by decide), up_eq]
      rfl
    · rw [up_off _ _ _ _ (by decide), up_eq]
end TOc
