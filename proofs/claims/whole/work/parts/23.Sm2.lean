/-! SmallMoves: the search -/
section Sm2
variable {l : Launch} {D : va_G} {cA : Nat → ClassId} {ad : Nat → Nat}
/-- after c more small moves some item is free -/
def fbB (T : Nat → Nat → Nat → Nat) (it : Nat → Nat) (nw n : Nat) : Nat → (Nat → Int32) → Bool
  | 0, mv => sfB T it nw n mv
  | c + 1, mv => anyB (fun i => decide (it i = i) && anyB (fun w => !ibB T (upd mv i (mv i + mvC w)) n i 10 (umB (upd mv i (mv i + mvC w)) n) && fbB T it nw n c (upd mv i (mv i + mvC w))) 6) n
theorem MvI.up {mv : Nat → Int32} {n k : Nat} (h : MvI mv n k) {i w : Nat} (hi : i < n) (hw : w < 6) : MvI (upd mv i (mv i + mvC w)) n (k + 1) := by
  obtain ⟨h1, h2⟩ := h
  refine ⟨fun a ha => ?_, fun a o ha ho => ?_⟩
  · unfold upd
    by_cases e : a = i
    · rw [if_pos e]; exact dl_add (h1 i hi) hw
    · rw [if_neg e]; exact dl_up (h1 a ha)
  · unfold upd
    by_cases e : a = i
    · by_cases e2 : o = i
      · rw [if_pos e, if_pos e2]
        rw [Int32.sub_self]
        have := h2 i i hi hi
        rw [Int32.sub_self] at this
        exact dl_up this
      · rw [if_pos e, if_neg e2]
        have := dl_add (h2 i o hi ho) hw
        rw [show mv i - mv o + mvC w = mv i + mvC w - mv o by
          simp only [Int32.sub_eq_add_neg, Int32.add_assoc, Int32.add_comm (-mv o)]] at this
        exact this
    · by_cases e2 : o = i
      · rw [if_neg e, if_pos e2]
        have := dl_sub (h2 a i ha hi) hw
        rw [show mv a - mv i - mvC w = mv a - (mv i + mvC w) by
          simp only [Int32.sub_eq_add_neg, Int32.neg_add, Int32.add_assoc]] at this
        exact this
      · rw [if_neg e, if_neg e2]
        exact dl_up (h2 a o ha ho)
theorem up_up (h : Hp) (k j : Nat) (v : Int32) : upI (upI h k j v) k j (h.1 k j) = h := by
  rw [upI_self h, upI_setI]
  have e : upd (upd (h.1 k) j v) j (h.1 k j) = h.1 k := by
    funext q
    unfold upd
    by_cases e : q = j
    · simp [e]
    · simp [e]
  rw [e, setI_id]
set_option maxHeartbeats 1000000 in
theorem c_Sm_isFreedBy {T : Nat → Nat → Nat → Nat} {n fl nw : Nat} {it : Nat → Nat} (h10 : nw ≤ 10) : ∀ (c : Nat) (k : Nat) (h : Hp), ItI h n it → h.1 3 0 = nI nw → ShI h → k + c ≤ 2 → shN (k + c) ≤ fl → shN k ≤ fl → (∀ q, q ≤ k + c → shN q ≤ fl) → (∀ s, s < fl → TbI h s (T s)) → MvI (h.1 25) n k → Ct l y_Sm_isFreedBy prog_8_method_4_code 5 (some .boolean) (rmD (4 + c)) D cls cA slC (StT ad) ad [.ref 8, .int (nI c)] h (fun r h' => r = some (.int (if fbB T it nw n c (h.1 25) then 1 else 0)) ∧ h' = h) := by
  intro c
  induction c with
  | zero =>
    intro k h hI hnw hSh hkc hfl hfk hfq hT hM
    refine Ct.of (tl := T_Sm_isFreedBy) (by decide) tk_Sm_isFreedBy cls_ok (StT_ok ad) (Nat.le_of_ble_eq_true rfl) (fun V G E C => ?_)
    repeat (first | refine G.sx (fun _ => false) rfl rfl rfl ?_ | refine G.gox (fun _ => false) rfl rfl rfl ?_ | refine G.getx (fun _ => false) rfl rfl rfl rfl ?_)
    refine G.br rfl rfl (fun c1 => absurd c1 (by decide)) (fun _ => ?_)
    repeat (first | refine G.sx (fun _ => false) rfl rfl rfl ?_ | refine G.gox (fun _ => false) rfl rfl rfl ?_ | refine G.getx (fun _ => false) rfl rfl rfl rfl ?_)
    refine C.cv [] [] rfl cw_Sm_44 (d1 := 3) (by omega) (by omega) rfl rfl rfl (c_Sm_isSomeFree (StT_ok ad) hI hnw h10 hSh (by omega) hfk hT hM) (by decide) (fun r h' hq => ?_)
    obtain ⟨rfl, rfl⟩ := hq
    refine E.ri rfl (Or.inr ⟨rfl, ?_⟩) ⟨rfl, rfl⟩
    split
    · exact Or.inr rfl
    · exact Or.inl rfl
  | succ c ih =>
    intro k h hI hnw hSh hkc hfl hfk hfq hT hM
    obtain ⟨hn, h12, hit⟩ := id hI
    generalize hg : (fun i w => !ibB T (upd (h.1 25) i (h.1 25 i + mvC w)) n i 10 (umB (upd (h.1 25) i (h.1 25 i + mvC w)) n) && fbB T it nw n c (upd (h.1 25) i (h.1 25 i + mvC w))) = g
    generalize hf : (fun i => decide (it i = i) && anyB (g i) 6) = f
    have hfb : fbB T it nw n (c + 1) (h.1 25) = anyB f n := by rw [← hf, ← hg]; rfl
    rw [hfb]
    refine Ct.ofX (tl := T_Sm_isFreedBy) _ Zx_ok (by decide) tk_Sm_isFreedBy cls_ok (StT_ok ad) (Nat.le_of_ble_eq_true rfl) (fun V G E C Z => ?_)
    have La : ∀ i, i ≤ n → ∀ v4 : Option Value, V 13 [some (.ref 8), some (.int (nI (c + 1))), some (.int (if anyB f i then 1 else 0)), some (.int (nI i)), v4] [] h := by
      refine loopUp n (fun i hi iha => ?_) ?_
      · intro v4
        repeat (first | refine G.sx (fun _ => false) rfl rfl rfl ?_ | refine G.gox (fun _ => false) rfl rfl rfl ?_ | refine G.getx (fun _ => false) rfl rfl rfl rfl ?_)
        refine G.br rfl rfl (fun c1 => absurd c1 (by rw [hn]; exact nI_ge hi (by omega))) (fun _ => ?_)
        repeat (first | refine G.sx (fun _ => false) rfl rfl rfl ?_ | refine G.gox (fun _ => false) rfl rfl rfl ?_ | refine G.getx (fun _ => false) rfl rfl rfl rfl ?_)
        by_cases ha : anyB f i = true
        · rw [if_pos ha]
          refine G.br rfl rfl (fun _ => ?_) (fun c1 => absurd c1 (by decide))
          repeat (first | refine G.sx (fun _ => false) rfl rfl rfl ?_ | refine G.gox (fun _ => false) rfl rfl rfl ?_ | refine G.getx (fun _ => false) rfl rfl rfl rfl ?_)
          refine E.ri rfl (Or.inr ⟨rfl, Or.inr rfl⟩) ⟨?_, rfl⟩
          rw [if_pos]
          obtain ⟨j, hj, hj2⟩ := (anyB_iff f i).mp ha
          exact (anyB_iff f n).mpr ⟨j, by omega, hj2⟩
        · rw [if_neg ha]
          have ha0 : anyB f i = false := by simpa using ha
          refine G.br rfl rfl (fun c1 => absurd rfl c1) (fun _ => ?_)
          have nx : ∀ (b : Int32) (v4 : Option Value), b = (if f i then 1 else 0) → V 119 [some (.ref 8), some (.int (nI (c + 1))), some (.int b), some (.int (nI i)), v4] [] h := by
            intro b v4 hb
            have e2 := iha v4
            rw [show (if anyB f (i + 1) = true then (1 : Int32) else 0) = b by rw [hb]; simp only [anyB, ha0, Bool.false_or]] at e2
            rw [← nI_1 i] at e2
            repeat (first | refine G.sx (fun _ => false) rfl rfl rfl ?_ | refine G.gox (fun _ => false) rfl rfl rfl ?_ | refine G.getx (fun _ => false) rfl rfl rfl rfl ?_)
            refine G.go rfl ?_
            exact e2
          have Lw : ∀ w, w ≤ 6 → V 31 [some (.ref 8), some (.int (nI (c + 1))), some (.int (if decide (it i = i) && anyB (g i) w then 1 else 0)), some (.int (nI i)), some (.int (nI w))] [] h := by
            refine loopUp 6 (fun w hw ihw => ?_) ?_
            · repeat (first | refine G.sx (fun _ => false) rfl rfl rfl ?_ | refine G.gox (fun _ => false) rfl rfl rfl ?_ | refine G.getx (fun _ => false) rfl rfl rfl rfl ?_)
              refine G.br rfl rfl (fun c1 => absurd c1 (nI_ge (b := 6) hw (by omega))) (fun _ => ?_)
              repeat (first | refine G.sx (fun _ => false) rfl rfl rfl ?_ | refine G.gox (fun _ => false) rfl rfl rfl ?_ | refine G.getx (fun _ => false) rfl rfl rfl rfl ?_)
              refine C.cv [.int (nI i)] [] rfl cw_Sm_53 (d1 := 2) (by omega) (by omega) rfl rfl rfl (c_It_isItem (StT_ok ad) hI i hi) (by decide) (fun r h' hq => ?_)
              obtain ⟨rfl, rfl⟩ := hq
              by_cases hii : it i = i
              · rw [if_pos hii]
                refine G.br rfl rfl (fun c1 => absurd c1 (by decide)) (fun _ => ?_)
                simp only [hii, decide_true, Bool.true_and] at ihw ⊢
                repeat (first | refine G.sx (fun _ => false) rfl rfl rfl ?_ | refine G.gox (fun _ => false) rfl rfl rfl ?_ | refine G.getx (fun _ => false) rfl rfl rfl rfl ?_)
                by_cases hg1 : anyB (g i) w = true
                · rw [if_pos hg1]
                  refine G.br rfl rfl (fun _ => ?_) (fun c1 => absurd c1 (by decide))
                  refine nx 1 _ ?_
                  rw [if_pos]
                  obtain ⟨j, hj, hj2⟩ := (anyB_iff (g i) w).mp hg1
                  rw [← hf]
                  simp only [hii, decide_true, Bool.true_and]
                  exact (anyB_iff (g i) 6).mpr ⟨j, by omega, hj2⟩
                · rw [if_neg hg1]
                  have hg0 : anyB (g i) w = false := by simpa using hg1
                  refine G.br rfl rfl (fun c1 => absurd rfl c1) (fun _ => ?_)
                  repeat (first | refine G.sx (fun _ => false) rfl rfl rfl ?_ | refine G.gox (fun _ => false) rfl rfl rfl ?_ | refine G.getx (fun _ => false) rfl rfl rfl rfl ?_)
                  refine G.ialn rfl rfl (by omega) (by decide) ?_
                  refine Z.g2 rfl rfl ?_
                  repeat (first | refine G.sx (fun _ => false) rfl rfl rfl ?_ | refine G.gox (fun _ => false) rfl rfl rfl ?_ | refine G.getx (fun _ => false) rfl rfl rfl rfl ?_)
                  refine Z.a1 rfl hw ?_
                  repeat (first | refine G.sx (fun _ => false) rfl rfl rfl ?_ | refine G.gox (fun _ => false) rfl rfl rfl ?_ | refine G.getx (fun _ => false) rfl rfl rfl rfl ?_)
                  refine G.iasn rfl rfl (by omega) (by decide) ?_
                  have hmv : (upI h' 25 i (h'.1 25 i + mvC w)).1 25 = upd (h'.1 25) i (h'.1 25 i + mvC w) := by rw [upI_self, setI_at]
                  have hfr : FrI [25] h' (upI h' 25 i (h'.1 25 i + mvC w)) := FrI.rf.up (by decide) _ _
                  have hI2 := hI.fr hfr (by decide) (by decide)
                  have hnw2 : (upI h' 25 i (h'.1 25 i + mvC w)).1 3 0 = nI nw := by rw [up_off _ _ _ _ (by decide)]; exact hnw
                  have hSh2 : ShI (upI h' 25 i (h'.1 25 i + mvC w)) := fun q hq => by rw [up_off _ _ _ _ (by decide)]; exact hSh q hq
                  have hT2 : ∀ s, s < fl → TbI (upI h' 25 i (h'.1 25 i + mvC w)) s (T s) := fun s hs => (hT s hs).fr hfr (by simp; omega)
                  have hM2 : MvI ((upI h' 25 i (h'.1 25 i + mvC w)).1 25) n (k + 1) := by rw [hmv]; exact hM.up hi hw
                  have J : ∀ b : Int32, b = (if g i w then 1 else 0) → V 97 [some (.ref 8), some (.int (nI (c + 1))), some (.int 0), some (.int (nI i)), some (.int (nI w))] [.int b] (upI h' 25 i (h'.1 25 i + mvC w)) := by
                    intro b hb
                    repeat (first | refine G.sx (fun _ => false) rfl rfl rfl ?_ | refine G.gox (fun _ => false) rfl rfl rfl ?_ | refine G.getx (fun _ => false) rfl rfl rfl rfl ?_)
                    refine G.ialn rfl rfl (by omega) (by decide) ?_
                    rw [up_eq]
                    refine Z.g2 rfl rfl ?_
                    repeat (first | refine G.sx (fun _ => false) rfl rfl rfl ?_ | refine G.gox (fun _ => false) rfl rfl rfl ?_ | refine G.getx (fun _ => false) rfl rfl rfl rfl ?_)
                    refine Z.a1 rfl hw ?_
                    repeat (first | refine G.sx (fun q => Nat.beq q 112) rfl rfl rfl ?_ | refine G.gox (fun q => Nat.beq q 112) rfl rfl rfl ?_ | refine G.getx (fun q => Nat.beq q 112) rfl rfl rfl rfl ?_)
                    show V 112 _ [.int (h'.1 25 i + mvC w - mvC w), .int (nI i), .ref 25] _
                    rw [Int32.add_sub_cancel]
                    refine G.iasn rfl rfl (by omega) (by decide) ?_
                    rw [up_up]
                    rw [show (if anyB (g i) (w + 1) = true then (1 : Int32) else 0) = b by rw [hb]; simp only [anyB, hg0, Bool.false_or]] at ihw
                    rw [← nI_1 w] at ihw
                    repeat (first | refine G.sx (fun _ => false) rfl rfl rfl ?_ | refine G.gox (fun _ => false) rfl rfl rfl ?_ | refine G.getx (fun _ => false) rfl rfl rfl rfl ?_)
                    refine G.go rfl ?_
                    exact ihw
                  repeat (first | refine G.sx (fun _ => false) rfl rfl rfl ?_ | refine G.gox (fun _ => false) rfl rfl rfl ?_ | refine G.getx (fun _ => false) rfl rfl rfl rfl ?_)
                  refine C.cv [] [.int 10, .int (nI i), .ref 8] rfl cw_Sm_59 (d1 := 1) (by omega) (by omega) rfl rfl rfl (c_Sm_unmoved (StT_ok ad) hI2.1 h12) (Nat.le_of_ble_eq_true rfl) (fun r h2 hq => ?_)
                  obtain ⟨rfl, rfl⟩ := hq
                  rw [hmv]
                  refine C.cv [.int (nI i), .int (nI 10), .int (nI (umB (upd (h'.1 25) i (h'.1 25 i + mvC w)) n))] [] rfl cw_Sm_63 (d1 := 2) (by omega) (by omega) rfl rfl rfl (c_Sm_isBarred (StT_ok ad) hI2.1 h12 hSh2 (k := k + 1) (by omega) (hfq (k + 1) (by omega)) hT2 hM2 i 10 _ hi (by omega) (umB_lt _ n h12)) (by decide) (fun r h2 hq => ?_)
                  obtain ⟨rfl, rfl⟩ := hq
                  rw [hmv]
                  by_cases hib : ibB T (upd (h'.1 25) i (h'.1 25 i + mvC w)) n i 10 (umB (upd (h'.1 25) i (h'.1 25 i + mvC w)) n) = true
                  · rw [if_pos hib]
                    refine G.br rfl rfl (fun _ => ?_) (fun c1 => absurd c1 (by decide))
                    repeat (first | refine G.sx (fun q => Nat.beq q 97) rfl rfl rfl ?_ | refine G.gox (fun q => Nat.beq q 97) rfl rfl rfl ?_ | refine G.getx (fun q => Nat.beq q 97) rfl rfl rfl rfl ?_)
                    refine J 0 ?_
                    rw [if_neg]
                    rw [← hg]
                    simp [hib]
                  · rw [if_neg hib]
                    refine G.br rfl rfl (fun c1 => absurd rfl c1) (fun _ => ?_)
                    repeat (first | refine G.sx (fun q => Nat.beq q 86) rfl rfl rfl ?_ | refine G.gox (fun q => Nat.beq q 86) rfl rfl rfl ?_ | refine G.getx (fun q => Nat.beq q 86) rfl rfl rfl rfl ?_)
                    show V 86 _ [.int (nI (c + 1) - 1), .ref 8] _
                    rw [nI_pred]
                    refine C.cv [.int (nI c)] [] rfl cw_Sm_40 (d1 := 4 + c) (by omega) (by omega) rfl rfl rfl (ih (k + 1) _ hI2 hnw2 hSh2 (by omega) (by rw [show k + 1 + c = k + (c + 1) by omega]; exact hfl) (hfq (k + 1) (by omega)) (fun q hq => hfq q (by omega)) hT2 hM2) (by decide) (fun r h2 hq => ?_)
                    obtain ⟨rfl, rfl⟩ := hq
                    rw [hmv]
                    by_cases hfb2 : fbB T it nw n c (upd (h'.1 25) i (h'.1 25 i + mvC w)) = true
                    · rw [if_pos hfb2]
                      refine G.br rfl rfl (fun c1 => absurd c1 (by decide)) (fun _ => ?_)
                      repeat (first | refine G.sx (fun q => Nat.beq q 97) rfl rfl rfl ?_ | refine G.gox (fun q => Nat.beq q 97) rfl rfl rfl ?_ | refine G.getx (fun q => Nat.beq q 97) rfl rfl rfl rfl ?_)
                      refine J 1 ?_
                      rw [if_pos]
                      rw [← hg]
                      simp [hib, hfb2]
                    · rw [if_neg hfb2]
                      refine G.br rfl rfl (fun _ => ?_) (fun c1 => absurd rfl c1)
                      repeat (first | refine G.sx (fun q => Nat.beq q 97) rfl rfl rfl ?_ | refine G.gox (fun q => Nat.beq q 97) rfl rfl rfl ?_ | refine G.getx (fun q => Nat.beq q 97) rfl rfl rfl rfl ?_)
                      refine J 0 ?_
                      rw [if_neg]
                      rw [← hg]
                      simp [hfb2]
              · rw [if_neg hii]
                refine G.br rfl rfl (fun _ => ?_) (fun c1 => absurd rfl c1)
                refine nx _ _ ?_
                rw [← hf]
                simp [hii]
            · repeat (first | refine G.sx (fun _ => false) rfl rfl rfl ?_ | refine G.gox (fun _ => false) rfl rfl rfl ?_ | refine G.getx (fun _ => false) rfl rfl rfl rfl ?_)
              refine G.br rfl rfl (fun _ => ?_) (fun c1 => absurd (by decide) c1)
              refine nx _ _ ?_
              rw [← hf]
          repeat (first | refine G.sx (fun q => Nat.beq q 31) rfl rfl rfl ?_ | refine G.gox (fun q => Nat.beq q 31) rfl rfl rfl ?_ | refine G.getx (fun q => Nat.beq q 31) rfl rfl rfl rfl ?_)
          have e0 := Lw 0 (by omega)
          simp only [anyB, Bool.and_false] at e0
          exact e0
      · intro v4
        repeat (first | refine G.sx (fun _ => false) rfl rfl rfl ?_ | refine G.gox (fun _ => false) rfl rfl rfl ?_ | refine G.getx (fun _ => false) rfl rfl rfl rfl ?_)
        refine G.br rfl rfl (fun _ => ?_) (fun c1 => absurd (by rw [hn]; exact nI_le (Nat.le_refl n) (by omega)) c1)
        repeat (first | refine G.sx (fun _ => false) rfl rfl rfl ?_ | refine G.gox (fun _ => false) rfl rfl rfl ?_ | refine G.getx (fun _ => false) rfl rfl rfl rfl ?_)
        refine E.ri rfl (Or.inr ⟨rfl, ?_⟩) ⟨rfl, rfl⟩
        split
        · exact Or.inr rfl
        · exact Or.inl rfl
    repeat (first | refine G.sx (fun _ => false) rfl rfl rfl ?_ | refine G.gox (fun _ => false) rfl rfl rfl ?_ | refine G.getx (fun _ => false) rfl rfl rfl rfl ?_)
    refine G.br rfl rfl (fun _ => ?_) (fun c1 => absurd (nI_lt (a := 0) (by omega) (by omega)) c1)
    repeat (first | refine G.sx (fun q => Nat.beq q 13) rfl rfl rfl ?_ | refine G.gox (fun q => Nat.beq q 13) rfl rfl rfl ?_ | refine G.getx (fun q => Nat.beq q 13) rfl rfl rfl rfl ?_)
    have e0 := La 0 (by omega) none
    simp only [anyB] at e0
    exact e0
end Sm2
