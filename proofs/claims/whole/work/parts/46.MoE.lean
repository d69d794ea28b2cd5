/-! The reference: turnings -/
section MoN
variable {l : Launch} {D : va_G} {cA : Nat → ClassId} {ad : Nat → Nat} {St : (Nat → Prop) → State → Heap → Prop}
def upN (t : Nat → Nat) (j v : Nat) : Nat → Nat := fun k => if k = j then v else t k
/-- turnings with one item more gone along way w, behind one gone along L -/
def tnP (v L w : Nat) : Nat := if L = 10 ∨ L = w then v else v + 1
/-- the table with item i gone behind the set s along the ways before w -/
def tnW (fr : Nat → Nat → Nat → Bool) (A s L v i : Nat) : Nat → (Nat → Nat) → Nat → Nat
  | 0, t => t
  | w + 1, t => if fr i w (clrS A s) then upN (tnW fr A s L v i w t) (11 * (s ||| 2 ^ i) + w) (if tnP v L w < tnW fr A s L v i w t (11 * (s ||| 2 ^ i) + w) then tnP v L w else tnW fr A s L v i w t (11 * (s ||| 2 ^ i) + w)) else tnW fr A s L v i w t
def tnI (fr : Nat → Nat → Nat → Bool) (A nw s L v : Nat) : Nat → (Nat → Nat) → Nat → Nat
  | 0, t => t
  | i + 1, t => if v < 1000 ∧ A.testBit i = true ∧ s.testBit i = false then tnW fr A s L v i nw (tnI fr A nw s L v i t) else tnI fr A nw s L v i t
def tnL (fr : Nat → Nat → Nat → Bool) (A n nw s : Nat) : Nat → (Nat → Nat) → Nat → Nat
  | 0, t => t
  | L + 1, t => tnI fr A nw s L (tnL fr A n nw s L t (11 * s + L)) n (tnL fr A n nw s L t)
def tnS (fr : Nat → Nat → Nat → Bool) (A n nw : Nat) : Nat → Nat → Nat
  | 0 => fun j => if j = 10 then 0 else 1000
  | s + 1 => tnL fr A n nw s 11 (tnS fr A n nw s)
def tnB (t : Nat → Nat) (A : Nat) : Nat → Nat
  | 0 => 1000
  | L + 1 => if t (11 * A + L) < tnB t A L then t (11 * A + L) else tnB t A L
def TsI (f12 : Nat → Int32) (t : Nat → Nat) : Prop := ∀ j, j < 45056 → f12 j = nI (t j) ∧ t j ≤ 1000
theorem ix11 (b : Nat) : (11 : Int32) * nI b = nI (11 * b) := (Int32.ofNat_mul 11 b).symm
theorem TsI.up {f12 : Nat → Int32} {t : Nat → Nat} (h : TsI f12 t) {j v : Nat} (hv : v ≤ 1000) : TsI (upd f12 j (nI v)) (upN t j v) := by
  intro k hk
  unfold upd upN
  by_cases e : k = j
  · rw [if_pos e, if_pos e]; exact ⟨rfl, hv⟩
  · rw [if_neg e, if_neg e]; exact h k hk
theorem tnB_le (t : Nat → Nat) (A : Nat) : ∀ L, tnB t A L ≤ 1000
  | 0 => Nat.le_refl _
  | L + 1 => by
    unfold tnB
    have := tnB_le t A L
    split <;> omega
set_option maxRecDepth 4000 in
set_option maxHeartbeats 2000000 in
theorem c_Mo_turnings (hSt : StOk St) {g : Hp} {n : Nat} {it : Nat → Nat} {nb : Nat} {own : Nat → Nat} {ns : Nat} (hM : MdI g n it nb own ns) : Ct l y_Mo_turnings prog_11_method_30_code 10 (some .int) (rmD 5) D cls cA slM St ad [.ref 0] g (fun r g' => g.1 0 14 = 0 ∧ r = some (.int 0) ∧ g' = upI g 0 0 1 ∨ ¬ g.1 0 14 = 0 ∧ (¬ g.1 0 18 = 0 ∧ r = some (.int (-1)) ∧ g' = upI g 0 0 0 ∨ g.1 0 18 = 0 ∧ ∃ f9 f12, g' = setI (setI (std (upI g 0 0 0)) 9 f9) 12 f12 ∧ r = some (.int (nI (tnB (tnS (ifM (fun p w => bfM own nb (fun a b => swM (std g) own a b w) p) it n) (aiM it n) n (6 + ns) (2 ^ n)) (aiM it n) 11))))) := by
  have n12 := hM.1.2.1
  have hA := aiM_lt (it := it) n n12
  have h4 := hM.2.2.2
  generalize hAA : aiM it n = A at hA
  generalize hbf : (fun p w => bfM own nb (fun a b => swM (std g) own a b w) p) = bf
  have hbl : ∀ p w, bf p w < 4096 := fun p w => by rw [← hbf]; exact bfM_lt _ _ _ _
  generalize hfr : ifM bf it n = fr
  refine Ct.of (tl := T_Mo_turnings) (by decide) tk_Mo_turnings cls_ok hSt (Nat.le_of_ble_eq_true rfl) (fun V G E C => ?_)
  repeat (first | refine G.sx (fun _ => false) rfl rfl rfl ?_ | refine G.gox (fun _ => false) rfl rfl rfl ?_ | refine G.getx (fun _ => false) rfl rfl rfl rfl ?_)
  refine C.cv [] [] rfl cw_Mo_136 (d1 := 1) (by omega) (by omega) rfl rfl rfl (c_Mo_notRun hSt g) (by decide) (fun r h1 hq => ?_)
  rcases hq with ⟨r0, rfl, rfl⟩ | ⟨r0, rfl, rfl⟩
  · refine G.br rfl rfl (fun c1 => absurd c1 (by decide)) (fun _ => ?_)
    repeat (first | refine G.sx (fun _ => false) rfl rfl rfl ?_ | refine G.gox (fun _ => false) rfl rfl rfl ?_ | refine G.getx (fun _ => false) rfl rfl rfl rfl ?_)
    exact E.ri rfl (Or.inl rfl) (Or.inl ⟨r0, rfl, rfl⟩)
  refine G.br rfl rfl (fun _ => ?_) (fun c1 => absurd rfl c1)
  have hMu : MdI (upI g 0 0 0) n it nb own ns := hM.up0 (by decide) (by decide) (by decide)
  repeat (first | refine G.sx (fun _ => false) rfl rfl rfl ?_ | refine G.gox (fun _ => false) rfl rfl rfl ?_ | refine G.getx (fun _ => false) rfl rfl rfl rfl ?_)
  refine C.cv [] [] rfl cw_Mo_115 (d1 := 2) (by omega) (by omega) rfl rfl rfl (c_Mo_allItems hSt hMu.1) (by decide) (fun r h1 hq => ?_)
  obtain ⟨rfl, rfl⟩ := hq
  rw [hAA]
  have e18 : (upI g 0 0 0).1 0 18 = g.1 0 18 := up_ne _ _ _ _ (by decide)
  repeat (first | refine G.sx (fun q => Nat.beq q 18) rfl rfl rfl ?_ | refine G.gox (fun q => Nat.beq q 18) rfl rfl rfl ?_ | refine G.getx (fun q => Nat.beq q 18) rfl rfl rfl rfl ?_)
  show V 18 _ [.int ((upI g 0 0 0).1 0 18)] _
  rw [e18]
  refine G.br rfl rfl (fun l0 => ?_) (fun l0 => ?_)
  · repeat (first | refine G.sx (fun _ => false) rfl rfl rfl ?_ | refine G.gox (fun _ => false) rfl rfl rfl ?_ | refine G.getx (fun _ => false) rfl rfl rfl rfl ?_)
    refine C.cv [] [] rfl cw_Mo_95 (d1 := 1) (by omega) (by omega) rfl rfl rfl (c_Mo_stand hSt (upI g 0 0 0)) (by decide) (fun r h1 hq => ?_)
    obtain ⟨rfl, rfl⟩ := hq
    have hMs : MdI (std (upI g 0 0 0)) n it nb own ns := hMu.stL
    repeat (first | refine G.sx (fun _ => false) rfl rfl rfl ?_ | refine G.gox (fun _ => false) rfl rfl rfl ?_ | refine G.getx (fun _ => false) rfl rfl rfl rfl ?_)
    refine C.cv [] [] rfl cw_Mo_109 (d1 := 4) (by omega) (by omega) rfl rfl rfl (c_Mo_reckon hSt hMs) (by decide) (fun r h1 hq => ?_)
    obtain ⟨rfl, f9, rfl, hB9⟩ := hq
    have hM1 : ∀ f12, MdI (setI (setI (std (upI g 0 0 0)) 9 f9) 12 f12) n it nb own ns := fun f12 => by
      obtain ⟨⟨a1, a2, a3⟩, ⟨b1, b2, b3⟩, c, d⟩ := hMs.st9 (f9 := f9)
      exact ⟨⟨by rw [setI_ne _ _ (by decide)]; exact a1, a2, fun i hi => by rw [setI_ne _ _ (by decide)]; exact a3 i hi⟩, ⟨by rw [setI_ne _ _ (by decide)]; exact b1, b2, fun i hi => by rw [setI_ne _ _ (by decide)]; exact b3 i hi⟩, by rw [setI_ne _ _ (by decide)]; exact c, d⟩
    have hB1 : ∀ f12, BrF ((setI (setI (std (upI g 0 0 0)) 9 f9) 12 f12).1 9) n (6 + ns) bf := fun f12 => by rw [setI_ne _ _ (by decide), setI_at, ← hbf]; exact hB9
    show V 31 _ [] (setI (std (upI g 0 0 0)) 9 f9)
    generalize hH : setI (std (upI g 0 0 0)) 9 f9 = H at hM1 hB1 ⊢
    have tn := two_n n12
    generalize hnw : 6 + ns = nw at hB1
    have nw10 : nw ≤ 10 := by omega
    have hs5 : ∀ f12, nI 6 + (setI H 12 f12).1 0 5 = nI nw := fun f12 => by rw [(hM1 f12).2.2.1, nI_add, hnw]
    generalize hTT : tnS fr A n nw = TT
    have TT0 : TT 0 = fun j => if j = 10 then 0 else 1000 := by rw [← hTT]; rfl
    have TTs : ∀ s, TT (s + 1) = tnL fr A n nw s 11 (TT s) := fun s => by rw [← hTT]; rfl
    -- the least of the last row
    have LB : ∀ f12, TsI f12 (TT (2 ^ n)) → ∀ L, L ≤ 11 → ∀ o4 o5 o6 o7 o8 o9, V 274 [some (.ref 0), some (.int (nI A)), some (.int (nI (tnB (TT (2 ^ n)) A L))), some (.int (nI L)), o4, o5, o6, o7, o8, o9] [] (setI H 12 f12) := by
      intro f12 hf
      refine loopUp 11 (fun L hL ih => ?_) ?_
      · intro o4 o5 o6 o7 o8 o9
        rw [← nI_1] at ih
        obtain ⟨t1, t2⟩ := hf (11 * A + L) (by omega)
        have tb := tnB_le (TT (2 ^ n)) A L
        have hb : tnB (TT (2 ^ n)) A (L + 1) = if TT (2 ^ n) (11 * A + L) < tnB (TT (2 ^ n)) A L then TT (2 ^ n) (11 * A + L) else tnB (TT (2 ^ n)) A L := rfl
        have t1' : (setI H 12 f12).1 12 (11 * A + L) = nI (TT (2 ^ n) (11 * A + L)) := by rw [setI_at]; exact t1
        repeat (first | refine G.sx (fun _ => false) rfl rfl rfl ?_ | refine G.gox (fun _ => false) rfl rfl rfl ?_ | refine G.getx (fun _ => false) rfl rfl rfl rfl ?_)
        refine G.br rfl rfl (fun c1 => absurd c1 (nI_ge (b := 11) hL (by omega))) (fun _ => ?_)
        repeat (first | refine G.sx (fun q => Nat.beq q 290) rfl rfl rfl ?_ | refine G.gox (fun q => Nat.beq q 290) rfl rfl rfl ?_ | refine G.getx (fun q => Nat.beq q 290) rfl rfl rfl rfl ?_)
        show V 290 _ [.int ((11 : Int32) * nI A + nI L), .ref 12] _
        rw [ix11, nI_add]
        refine G.ialn rfl rfl (by omega) (by omega) ?_
        rw [t1']
        repeat (first | refine G.sx (fun _ => false) rfl rfl rfl ?_ | refine G.gox (fun _ => false) rfl rfl rfl ?_ | refine G.getx (fun _ => false) rfl rfl rfl rfl ?_)
        refine G.br rfl rfl (fun c1 => ?_) (fun c1 => ?_)
        · have c1 := (nI_leI (by omega) (by omega)).mp c1
          rw [if_neg (by omega)] at hb
          rw [hb] at ih
          repeat (first | refine G.sx (fun _ => false) rfl rfl rfl ?_ | refine G.gox (fun _ => false) rfl rfl rfl ?_ | refine G.getx (fun _ => false) rfl rfl rfl rfl ?_)
          refine G.go rfl ?_
          exact ih _ _ _ _ _ _
        · have c1 : TT (2 ^ n) (11 * A + L) < tnB (TT (2 ^ n)) A L := Nat.lt_of_not_le (fun z => c1 (nI_le z (by omega)))
          rw [if_pos c1] at hb
          rw [hb] at ih
          repeat (first | refine G.sx (fun q => Nat.beq q 305) rfl rfl rfl ?_ | refine G.gox (fun q => Nat.beq q 305) rfl rfl rfl ?_ | refine G.getx (fun q => Nat.beq q 305) rfl rfl rfl rfl ?_)
          show V 305 _ [.int ((11 : Int32) * nI A + nI L), .ref 12] _
          rw [ix11, nI_add]
          refine G.ialn rfl rfl (by omega) (by omega) ?_
          rw [t1']
          repeat (first | refine G.sx (fun _ => false) rfl rfl rfl ?_ | refine G.gox (fun _ => false) rfl rfl rfl ?_ | refine G.getx (fun _ => false) rfl rfl rfl rfl ?_)
          refine G.go rfl ?_
          exact ih _ _ _ _ _ _
      · intro o4 o5 o6 o7 o8 o9
        repeat (first | refine G.sx (fun _ => false) rfl rfl rfl ?_ | refine G.gox (fun _ => false) rfl rfl rfl ?_ | refine G.getx (fun _ => false) rfl rfl rfl rfl ?_)
        refine G.br rfl rfl (fun _ => ?_) (fun c1 => absurd (nI_le (a := 11) (Nat.le_refl 11) (by omega)) c1)
        repeat (first | refine G.sx (fun _ => false) rfl rfl rfl ?_ | refine G.gox (fun _ => false) rfl rfl rfl ?_ | refine G.getx (fun _ => false) rfl rfl rfl rfl ?_)
        exact E.ri rfl (Or.inl rfl) (Or.inr ⟨r0, Or.inr ⟨l0, f9, f12, by rw [hH], by rw [hnw, hTT]⟩⟩)
    -- the sets
    have LS : ∀ s, s ≤ 2 ^ n → ∀ f12, TsI f12 (TT s) → ∀ o3 o4 o5 o6 o7 o8 o9, V 64 [some (.ref 0), some (.int (nI A)), some (.int (nI s)), o3, o4, o5, o6, o7, o8, o9] [] (setI H 12 f12) := by
      refine loopUp (2 ^ n) (fun s hs ih => ?_) ?_
      · intro f12 hf o3 o4 o5 o6 o7 o8 o9
        rw [← nI_1] at ih
        have LL : ∀ L, L ≤ 11 → ∀ f12, TsI f12 (tnL fr A n nw s L (TT s)) → ∀ o4 o5 o6 o7 o8 o9, V 76 [some (.ref 0), some (.int (nI A)), some (.int (nI s)), some (.int (nI L)), o4, o5, o6, o7, o8, o9] [] (setI H 12 f12) := by
          refine loopUp 11 (fun L hL ihL => ?_) ?_
          · intro f12 hf o4 o5 o6 o7 o8 o9
            rw [← nI_1] at ihL
            generalize hT : tnL fr A n nw s L (TT s) = T at hf
            obtain ⟨t1, t2⟩ := hf (11 * s + L) (by omega)
            generalize hv : T (11 * s + L) = v at t1 t2
            have hTL : tnL fr A n nw s (L + 1) (TT s) = tnI fr A nw s L v n T := by rw [← hv, ← hT]; rfl
            rw [hTL] at ihL
            have X : ∀ f12, TsI f12 (tnI fr A nw s L v n T) → ∀ o5 o6 o7 o8 o9, V 256 [some (.ref 0), some (.int (nI A)), some (.int (nI s)), some (.int (nI L)), some (.int (nI v)), o5, o6, o7, o8, o9] [] (setI H 12 f12) := by
              intro f12 hf o5 o6 o7 o8 o9
              repeat (first | refine G.sx (fun _ => false) rfl rfl rfl ?_ | refine G.gox (fun _ => false) rfl rfl rfl ?_ | refine G.getx (fun _ => false) rfl rfl rfl rfl ?_)
              refine G.go rfl ?_
              exact ihL f12 hf _ _ _ _ _ _
            have LI : ∀ i, i ≤ n → ∀ f12, TsI f12 (tnI fr A nw s L v i T) → ∀ o6 o7 o8 o9, V 98 [some (.ref 0), some (.int (nI A)), some (.int (nI s)), some (.int (nI L)), some (.int (nI v)), some (.int (nI i)), o6, o7, o8, o9] [] (setI H 12 f12) := by
              refine loopUp n (fun i hi ihi => ?_) ?_
              · intro f12 hf o6 o7 o8 o9
                rw [← nI_1] at ihi
                have hI1 : tnI fr A nw s L v (i + 1) T = if v < 1000 ∧ A.testBit i = true ∧ s.testBit i = false then tnW fr A s L v i nw (tnI fr A nw s L v i T) else tnI fr A nw s L v i T := rfl
                have W : ∀ f12, TsI f12 (tnI fr A nw s L v (i + 1) T) → ∀ o6 o7 o8 o9, V 250 [some (.ref 0), some (.int (nI A)), some (.int (nI s)), some (.int (nI L)), some (.int (nI v)), some (.int (nI i)), o6, o7, o8, o9] [] (setI H 12 f12) := by
                  intro f12 hf o6 o7 o8 o9
                  repeat (first | refine G.sx (fun _ => false) rfl rfl rfl ?_ | refine G.gox (fun _ => false) rfl rfl rfl ?_ | refine G.getx (fun _ => false) rfl rfl rfl rfl ?_)
                  refine G.go rfl ?_
                  exact ihi f12 hf _ _ _ _
                have N0 : ¬ (A.testBit i = true ∧ s.testBit i = false) → ∀ o6, V 137 [some (.ref 0), some (.int (nI A)), some (.int (nI s)), some (.int (nI L)), some (.int (nI v)), some (.int (nI i)), o6, o7, o8, o9] [] (setI H 12 f12) := by
                  intro hx o6
                  rw [if_neg (fun z => hx z.2)] at hI1
                  rw [hI1] at W
                  repeat (first | refine G.sx (fun q => Nat.beq q 152) rfl rfl rfl ?_ | refine G.gox (fun q => Nat.beq q 152) rfl rfl rfl ?_ | refine G.getx (fun q => Nat.beq q 152) rfl rfl rfl rfl ?_)
                  show V 152 _ [.int (nI 6 + (setI H 12 f12).1 0 5), .int (nI 0)] _
                  rw [hs5]
                  refine G.br rfl rfl (fun c3 => W f12 hf _ _ _ _) (fun c3 => ?_)
                  repeat (first | refine G.sx (fun _ => false) rfl rfl rfl ?_ | refine G.gox (fun _ => false) rfl rfl rfl ?_ | refine G.getx (fun _ => false) rfl rfl rfl rfl ?_)
                  refine G.br rfl rfl (fun _ => W f12 hf _ _ _ _) (fun c4 => absurd rfl c4)
                repeat (first | refine G.sx (fun _ => false) rfl rfl rfl ?_ | refine G.gox (fun _ => false) rfl rfl rfl ?_ | refine G.getx (fun _ => false) rfl rfl rfl rfl ?_)
                refine G.br rfl rfl (fun c1 => absurd c1 (by rw [(hM1 f12).1.1]; exact nI_ge hi (by omega))) (fun _ => ?_)
                repeat (first | refine G.sx (fun _ => false) rfl rfl rfl ?_ | refine G.gox (fun _ => false) rfl rfl rfl ?_ | refine G.getx (fun _ => false) rfl rfl rfl rfl ?_)
                refine G.br rfl rfl (fun c1 => ?_) (fun c1 => ?_)
                · have c1 := (nI_leI (a := 1000) (by omega) (by omega)).mp c1
                  refine X f12 ?_ _ _ _ _ _
                  have key : ∀ d, tnI fr A nw s L v (i + d) T = tnI fr A nw s L v i T := by
                    intro d
                    induction d with
                    | zero => rfl
                    | succ d ihd =>
                      have e1 : tnI fr A nw s L v (i + (d + 1)) T = if v < 1000 ∧ A.testBit (i + d) = true ∧ s.testBit (i + d) = false then tnW fr A s L v (i + d) nw (tnI fr A nw s L v (i + d) T) else tnI fr A nw s L v (i + d) T := rfl
                      rw [e1, if_neg (fun z => absurd z.1 (by omega)), ihd]
                  have := key (n - i)
                  rw [show i + (n - i) = n by omega] at this
                  rw [this]
                  exact hf
                have c1 : v < 1000 := Nat.lt_of_not_le (fun z => c1 (nI_le (a := 1000) z (by omega)))
                repeat (first | refine G.sx (fun _ => false) rfl rfl rfl ?_ | refine G.gox (fun _ => false) rfl rfl rfl ?_ | refine G.getx (fun _ => false) rfl rfl rfl rfl ?_)
                refine C.cs [.int (nI A), .int (nI i)] [] rfl cw_Mo_122 (d1 := 1) (by omega) (by omega) rfl (c_Mo_has hSt _ A i (by omega) (by omega)) (by decide) (fun r h2 hq => ?_)
                obtain ⟨rfl, rfl⟩ := hq
                refine G.br rfl rfl (fun c2 => N0 (fun z => i01.mp c2 z.1) _) (fun c2 => ?_)
                have c2 : A.testBit i = true := Decidable.not_not.mp (fun z => c2 (i01.mpr z))
                repeat (first | refine G.sx (fun _ => false) rfl rfl rfl ?_ | refine G.gox (fun _ => false) rfl rfl rfl ?_ | refine G.getx (fun _ => false) rfl rfl rfl rfl ?_)
                refine C.cs [.int (nI s), .int (nI i)] [] rfl cw_Mo_122 (d1 := 1) (by omega) (by omega) rfl (c_Mo_has hSt _ s i (by omega) (by omega)) (by decide) (fun r h2 hq => ?_)
                obtain ⟨rfl, rfl⟩ := hq
                refine G.br rfl rfl (fun c3 => N0 (fun z => by rw [z.2] at c3; exact absurd rfl c3) _) (fun c3 => ?_)
                have c3 : s.testBit i = false := by
                  have := i01.mp c3
                  simpa using this
                rw [if_pos ⟨c1, c2, c3⟩] at hI1
                rw [hI1] at W
                generalize hT2 : tnI fr A nw s L v i T = T2 at hf W
                have so : s ||| 2 ^ i < 4096 := or_lt (by omega) (pw_lt (by omega))
                have LW : ∀ w, w ≤ nw → ∀ f12, TsI f12 (tnW fr A s L v i w T2) → ∀ o8 o9, V 143 [some (.ref 0), some (.int (nI A)), some (.int (nI s)), some (.int (nI L)), some (.int (nI v)), some (.int (nI i)), some (.int 1), some (.int (nI w)), o8, o9] [] (setI H 12 f12) := by
                  refine loopUp nw (fun w hw ihw => ?_) ?_
                  · intro f12 hf o8 o9
                    rw [← nI_1] at ihw
                    have hW1 : tnW fr A s L v i (w + 1) T2 = if fr i w (clrS A s) then upN (tnW fr A s L v i w T2) (11 * (s ||| 2 ^ i) + w) (if tnP v L w < tnW fr A s L v i w T2 (11 * (s ||| 2 ^ i) + w) then tnP v L w else tnW fr A s L v i w T2 (11 * (s ||| 2 ^ i) + w)) else tnW fr A s L v i w T2 := rfl
                    generalize hT3 : tnW fr A s L v i w T2 = T3 at hf hW1
                    repeat (first | refine G.sx (fun q => Nat.beq q 152) rfl rfl rfl ?_ | refine G.gox (fun q => Nat.beq q 152) rfl rfl rfl ?_ | refine G.getx (fun q => Nat.beq q 152) rfl rfl rfl rfl ?_)
                    show V 152 _ [.int (nI 6 + (setI H 12 f12).1 0 5), .int (nI w)] _
                    rw [hs5]
                    refine G.br rfl rfl (fun c4 => absurd c4 (nI_ge hw (by omega))) (fun _ => ?_)
                    repeat (first | refine G.sx (fun _ => false) rfl rfl rfl ?_ | refine G.gox (fun _ => false) rfl rfl rfl ?_ | refine G.getx (fun _ => false) rfl rfl rfl rfl ?_)
                    refine G.br rfl rfl (fun c4 => absurd c4 (by decide)) (fun _ => ?_)
                    repeat (first | refine G.sx (fun q => Nat.beq q 170) rfl rfl rfl ?_ | refine G.gox (fun q => Nat.beq q 170) rfl rfl rfl ?_ | refine G.getx (fun q => Nat.beq q 170) rfl rfl rfl rfl ?_)
                    show V 170 _ [.int (nI A &&& (nI s ^^^ (-1))), .int (nI w), .int (nI i), .ref 0] _
                    rw [not_g hA]
                    refine C.cv [.int (nI i), .int (nI w), .int (nI (clrS A s))] [] rfl cw_Mo_106 (d1 := 2) (by omega) (by omega) rfl rfl rfl (c_Mo_isFree hSt (hM1 f12).1 nw10 (hB1 f12) hbl i w (clrS A s) (by omega) hw (clrS_lt hA)) (by decide) (fun r h2 hq => ?_)
                    obtain ⟨rfl, rfl⟩ := hq
                    rw [hfr]
                    refine G.br rfl rfl (fun c4 => ?_) (fun c4 => ?_)
                    · rw [if_neg (i01.mp c4)] at hW1
                      rw [hW1] at ihw
                      repeat (first | refine G.sx (fun _ => false) rfl rfl rfl ?_ | refine G.gox (fun _ => false) rfl rfl rfl ?_ | refine G.getx (fun _ => false) rfl rfl rfl rfl ?_)
                      refine G.go rfl ?_
                      exact ihw f12 hf _ _
                    have c4 : fr i w (clrS A s) = true := Decidable.not_not.mp (fun z => c4 (i01.mpr z))
                    rw [if_pos c4] at hW1
                    rw [hW1] at ihw
                    repeat (first | refine G.sx (fun q => Nat.beq q 188) rfl rfl rfl ?_ | refine G.gox (fun q => Nat.beq q 188) rfl rfl rfl ?_ | refine G.getx (fun q => Nat.beq q 188) rfl rfl rfl rfl ?_)
                    show V 188 _ [.int ((11 : Int32) * (nI s ||| (1 : Int32) <<< (nI i &&& 31)) + nI w)] _
                    rw [one_shl (by omega), nI_or, ix11, nI_add]
                    generalize hto : 11 * (s ||| 2 ^ i) + w = to at ihw ⊢
                    have to4 : to < 45056 := by omega
                    obtain ⟨u1, u2⟩ := hf to to4
                    have tp : tnP v L w ≤ 1000 := by unfold tnP; split <;> omega
                    have J : ∀ o9, V 211 [some (.ref 0), some (.int (nI A)), some (.int (nI s)), some (.int (nI L)), some (.int (nI v)), some (.int (nI i)), some (.int 1), some (.int (nI w)), some (.int (nI to)), o9] [.int (nI (tnP v L w))] (setI H 12 f12) := by
                      intro o9
                      repeat (first | refine G.sx (fun _ => false) rfl rfl rfl ?_ | refine G.gox (fun _ => false) rfl rfl rfl ?_ | refine G.getx (fun _ => false) rfl rfl rfl rfl ?_)
                      refine G.ialn rfl rfl to4 (by omega) ?_
                      rw [show (setI H 12 f12).1 12 to = nI (T3 to) by rw [setI_at]; exact u1]
                      repeat (first | refine G.sx (fun _ => false) rfl rfl rfl ?_ | refine G.gox (fun _ => false) rfl rfl rfl ?_ | refine G.getx (fun _ => false) rfl rfl rfl rfl ?_)
                      refine G.br rfl rfl (fun c5 => ?_) (fun c5 => ?_)
                      · have c5 := (nI_leI (by omega) (by omega)).mp c5
                        rw [if_neg (by omega)] at ihw
                        repeat (first | refine G.sx (fun _ => false) rfl rfl rfl ?_ | refine G.gox (fun _ => false) rfl rfl rfl ?_ | refine G.getx (fun _ => false) rfl rfl rfl rfl ?_)
                        refine G.ialn rfl rfl to4 (by omega) ?_
                        rw [show (setI H 12 f12).1 12 to = nI (T3 to) by rw [setI_at]; exact u1]
                        refine G.iasn rfl rfl to4 (by omega) ?_
                        rw [upI_setI]
                        repeat (first | refine G.sx (fun _ => false) rfl rfl rfl ?_ | refine G.gox (fun _ => false) rfl rfl rfl ?_ | refine G.getx (fun _ => false) rfl rfl rfl rfl ?_)
                        refine G.go rfl ?_
                        exact ihw _ (hf.up u2) _ _
                      · have c5 : tnP v L w < T3 to := Nat.lt_of_not_le (fun z => c5 (nI_le z (by omega)))
                        rw [if_pos c5] at ihw
                        repeat (first | refine G.sx (fun _ => false) rfl rfl rfl ?_ | refine G.gox (fun _ => false) rfl rfl rfl ?_ | refine G.getx (fun _ => false) rfl rfl rfl rfl ?_)
                        refine G.iasn rfl rfl to4 (by omega) ?_
                        rw [upI_setI]
                        repeat (first | refine G.sx (fun _ => false) rfl rfl rfl ?_ | refine G.gox (fun _ => false) rfl rfl rfl ?_ | refine G.getx (fun _ => false) rfl rfl rfl rfl ?_)
                        refine G.go rfl ?_
                        exact ihw _ (hf.up tp) _ _
                    have J1 : (L = 10 ∨ L = w) → ∀ o9, V 202 [some (.ref 0), some (.int (nI A)), some (.int (nI s)), some (.int (nI L)), some (.int (nI v)), some (.int (nI i)), some (.int 1), some (.int (nI w)), some (.int (nI to)), o9] [] (setI H 12 f12) := by
                      intro hx o9
                      have j := J o9
                      unfold tnP at j
                      rw [if_pos hx] at j
                      repeat (first | refine G.sx (fun q => Nat.beq q 211) rfl rfl rfl ?_ | refine G.gox (fun q => Nat.beq q 211) rfl rfl rfl ?_ | refine G.getx (fun q => Nat.beq q 211) rfl rfl rfl rfl ?_)
                      exact j
                    repeat (first | refine G.sx (fun _ => false) rfl rfl rfl ?_ | refine G.gox (fun _ => false) rfl rfl rfl ?_ | refine G.getx (fun _ => false) rfl rfl rfl rfl ?_)
                    refine G.br rfl rfl (fun c5 => J1 (Or.inl ((nI_eq (b := 10) (by omega) (by omega)).mp c5)) _) (fun c5 => ?_)
                    repeat (first | refine G.sx (fun _ => false) rfl rfl rfl ?_ | refine G.gox (fun _ => false) rfl rfl rfl ?_ | refine G.getx (fun _ => false) rfl rfl rfl rfl ?_)
                    refine G.br rfl rfl (fun c6 => ?_) (fun c6 => J1 (Or.inr ((nI_eq (by omega) (by omega)).mp c6)) _)
                    have j := J o9
                    unfold tnP at j
                    rw [if_neg (fun z => z.elim (fun z => c5 (by rw [z]; rfl)) (fun z => c6 (by rw [z]))), ← nI_1] at j
                    repeat (first | refine G.sx (fun q => Nat.beq q 211) rfl rfl rfl ?_ | refine G.gox (fun q => Nat.beq q 211) rfl rfl rfl ?_ | refine G.getx (fun q => Nat.beq q 211) rfl rfl rfl rfl ?_)
                    exact j
                  · intro f12 hf o8 o9
                    repeat (first | refine G.sx (fun q => Nat.beq q 152) rfl rfl rfl ?_ | refine G.gox (fun q => Nat.beq q 152) rfl rfl rfl ?_ | refine G.getx (fun q => Nat.beq q 152) rfl rfl rfl rfl ?_)
                    show V 152 _ [.int (nI 6 + (setI H 12 f12).1 0 5), .int (nI nw)] _
                    rw [hs5]
                    refine G.br rfl rfl (fun _ => W f12 hf _ _ _ _) (fun c4 => absurd (nI_le (Nat.le_refl nw) (by omega)) c4)
                repeat (first | refine G.sx (fun q => Nat.beq q 143) rfl rfl rfl ?_ | refine G.gox (fun q => Nat.beq q 143) rfl rfl rfl ?_ | refine G.getx (fun q => Nat.beq q 143) rfl rfl rfl rfl ?_)
                exact LW 0 (Nat.zero_le _) f12 hf _ _
              · intro f12 hf o6 o7 o8 o9
                repeat (first | refine G.sx (fun _ => false) rfl rfl rfl ?_ | refine G.gox (fun _ => false) rfl rfl rfl ?_ | refine G.getx (fun _ => false) rfl rfl rfl rfl ?_)
                refine G.br rfl rfl (fun _ => X f12 hf _ _ _ _ _) (fun c1 => absurd (by rw [(hM1 f12).1.1]; exact nI_le (Nat.le_refl n) (by omega)) c1)
            repeat (first | refine G.sx (fun _ => false) rfl rfl rfl ?_ | refine G.gox (fun _ => false) rfl rfl rfl ?_ | refine G.getx (fun _ => false) rfl rfl rfl rfl ?_)
            refine G.br rfl rfl (fun c1 => absurd c1 (nI_ge (b := 11) hL (by omega))) (fun _ => ?_)
            repeat (first | refine G.sx (fun q => Nat.beq q 92) rfl rfl rfl ?_ | refine G.gox (fun q => Nat.beq q 92) rfl rfl rfl ?_ | refine G.getx (fun q => Nat.beq q 92) rfl rfl rfl rfl ?_)
            show V 92 _ [.int ((11 : Int32) * nI s + nI L), .ref 12] _
            rw [ix11, nI_add]
            refine G.ialn rfl rfl (by omega) (by omega) ?_
            rw [show (setI H 12 f12).1 12 (11 * s + L) = nI v by rw [setI_at]; exact t1]
            repeat (first | refine G.sx (fun q => Nat.beq q 98) rfl rfl rfl ?_ | refine G.gox (fun q => Nat.beq q 98) rfl rfl rfl ?_ | refine G.getx (fun q => Nat.beq q 98) rfl rfl rfl rfl ?_)
            exact LI 0 (Nat.zero_le _) f12 hf _ _ _ _
          · intro f12 hf o4 o5 o6 o7 o8 o9
            rw [← TTs] at hf
            repeat (first | refine G.sx (fun _ => false) rfl rfl rfl ?_ | refine G.gox (fun _ => false) rfl rfl rfl ?_ | refine G.getx (fun _ => false) rfl rfl rfl rfl ?_)
            refine G.br rfl rfl (fun _ => ?_) (fun c1 => absurd (nI_le (a := 11) (Nat.le_refl 11) (by omega)) c1)
            repeat (first | refine G.sx (fun _ => false) rfl rfl rfl ?_ | refine G.gox (fun _ => false) rfl rfl rfl ?_ | refine G.getx (fun _ => false) rfl rfl rfl rfl ?_)
            refine G.go rfl ?_
            exact ih f12 hf _ _ _ _ _ _ _
        repeat (first | refine G.sx (fun q => Nat.beq q 70) rfl rfl rfl ?_ | refine G.gox (fun q => Nat.beq q 70) rfl rfl rfl ?_ | refine G.getx (fun q => Nat.beq q 70) rfl rfl rfl rfl ?_)
        show V 70 _ [.int ((setI H 12 f12).1 0 1), .int 1, .int (nI s)] _
        rw [(hM1 f12).1.1]
        repeat (first | refine G.sx (fun q => Nat.beq q 71) rfl rfl rfl ?_ | refine G.gox (fun q => Nat.beq q 71) rfl rfl rfl ?_ | refine G.getx (fun q => Nat.beq q 71) rfl rfl rfl rfl ?_)
        show V 71 _ [.int ((1 : Int32) <<< (nI n &&& 31)), .int (nI s)] _
        rw [one_shl (by omega)]
        refine G.br rfl rfl (fun c3 => absurd c3 (nI_ge hs (by omega))) (fun _ => ?_)
        repeat (first | refine G.sx (fun q => Nat.beq q 76) rfl rfl rfl ?_ | refine G.gox (fun q => Nat.beq q 76) rfl rfl rfl ?_ | refine G.getx (fun q => Nat.beq q 76) rfl rfl rfl rfl ?_)
        exact LL 0 (Nat.zero_le _) f12 hf _ _ _ _ _ _
      · intro f12 hf o3 o4 o5 o6 o7 o8 o9
        repeat (first | refine G.sx (fun q => Nat.beq q 70) rfl rfl rfl ?_ | refine G.gox (fun q => Nat.beq q 70) rfl rfl rfl ?_ | refine G.getx (fun q => Nat.beq q 70) rfl rfl rfl rfl ?_)
        show V 70 _ [.int ((setI H 12 f12).1 0 1), .int 1, .int (nI (2 ^ n))] _
        rw [(hM1 f12).1.1]
        repeat (first | refine G.sx (fun q => Nat.beq q 71) rfl rfl rfl ?_ | refine G.gox (fun q => Nat.beq q 71) rfl rfl rfl ?_ | refine G.getx (fun q => Nat.beq q 71) rfl rfl rfl rfl ?_)
        show V 71 _ [.int ((1 : Int32) <<< (nI n &&& 31)), .int (nI (2 ^ n))] _
        rw [one_shl (by omega)]
        refine G.br rfl rfl (fun _ => ?_) (fun c3 => absurd (nI_le (Nat.le_refl _) (by omega)) c3)
        repeat (first | refine G.sx (fun q => Nat.beq q 274) rfl rfl rfl ?_ | refine G.gox (fun q => Nat.beq q 274) rfl rfl rfl ?_ | refine G.getx (fun q => Nat.beq q 274) rfl rfl rfl rfl ?_)
        exact LB f12 hf 0 (Nat.zero_le _) _ _ _ _ _ _
    -- all begin as many
    have L0 : ∀ k, k ≤ 45056 → ∀ f12 : Nat → Int32, (∀ j, j < k → f12 j = nI 1000) → V 33 [some (.ref 0), some (.int (nI A)), some (.int (nI k)), none, none, none, none, none, none, none] [] (setI H 12 f12) := by
      refine loopUp 45056 (fun k hk ih => ?_) ?_
      · intro f12 hf
        rw [← nI_1 k] at ih
        repeat (first | refine G.sx (fun _ => false) rfl rfl rfl ?_ | refine G.gox (fun _ => false) rfl rfl rfl ?_ | refine G.getx (fun _ => false) rfl rfl rfl rfl ?_)
        refine G.br rfl rfl (fun c1 => absurd c1 (nI_ge (b := 45056) hk (by omega))) (fun _ => ?_)
        repeat (first | refine G.sx (fun _ => false) rfl rfl rfl ?_ | refine G.gox (fun _ => false) rfl rfl rfl ?_ | refine G.getx (fun _ => false) rfl rfl rfl rfl ?_)
        refine G.iasn rfl rfl hk (by omega) ?_
        rw [upI_setI]
        repeat (first | refine G.sx (fun _ => false) rfl rfl rfl ?_ | refine G.gox (fun _ => false) rfl rfl rfl ?_ | refine G.getx (fun _ => false) rfl rfl rfl rfl ?_)
        refine G.go rfl ?_
        refine ih _ (fun j hj => ?_)
        unfold upd
        by_cases e : j = k
        · rw [if_pos e]; rfl
        · rw [if_neg e]; exact hf j (by omega)
      · intro f12 hf
        repeat (first | refine G.sx (fun _ => false) rfl rfl rfl ?_ | refine G.gox (fun _ => false) rfl rfl rfl ?_ | refine G.getx (fun _ => false) rfl rfl rfl rfl ?_)
        refine G.br rfl rfl (fun _ => ?_) (fun c1 => absurd (nI_le (a := 45056) (Nat.le_refl 45056) (by omega)) c1)
        repeat (first | refine G.sx (fun _ => false) rfl rfl rfl ?_ | refine G.gox (fun _ => false) rfl rfl rfl ?_ | refine G.getx (fun _ => false) rfl rfl rfl rfl ?_)
        refine G.iasn (q := 10) rfl rfl (by omega) (by omega) ?_
        rw [upI_setI]
        repeat (first | refine G.sx (fun q => Nat.beq q 64) rfl rfl rfl ?_ | refine G.gox (fun q => Nat.beq q 64) rfl rfl rfl ?_ | refine G.getx (fun q => Nat.beq q 64) rfl rfl rfl rfl ?_)
        refine LS 0 (Nat.zero_le _) _ ?_ _ _ _ _ _ _ _
        rw [TT0]
        intro j hj
        unfold upd
        by_cases e : j = 10
        · rw [if_pos e]
          simp only [e, if_true]
          exact ⟨rfl, by omega⟩
        · rw [if_neg e]
          simp only [e, if_false]
          exact ⟨hf j hj, Nat.le_refl _⟩
    have l0' := L0 0 (Nat.zero_le _) (H.1 12) (fun j hj => by omega)
    rw [setI_id] at l0'
    repeat (first | refine G.sx (fun q => Nat.beq q 33) rfl rfl rfl ?_ | refine G.gox (fun q => Nat.beq q 33) rfl rfl rfl ?_ | refine G.getx (fun q => Nat.beq q 33) rfl rfl rfl rfl ?_)
    exact l0'
  · repeat (first | refine G.sx (fun _ => false) rfl rfl rfl ?_ | refine G.gox (fun _ => false) rfl rfl rfl ?_ | refine G.getx (fun _ => false) rfl rfl rfl rfl ?_)
    exact E.ri rfl (Or.inl rfl) (Or.inr ⟨r0, Or.inl ⟨l0, rfl, rfl⟩⟩)
end MoN
