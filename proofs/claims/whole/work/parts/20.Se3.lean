/-! Sets: the least number of turnings -/
section Se3
variable {l : Launch} {D : va_G} {cA : Nat → ClassId} {ad : Nat → Nat} {St : (Nat → Prop) → State → Heap → Prop}
theorem lbI_le {T : Nat → Nat → Nat} {w : Nat} : ∀ {m i r : Nat}, lbI T w m i r ≤ r
  | 0, i, r => Nat.le_refl _
  | m + 1, i, r => by
    unfold lbI
    refine Nat.le_trans lbI_le ?_
    split
    · exact Nat.and_le_left
    · exact Nat.le_refl _
theorem lbO_le {T : Nat → Nat → Nat} {w : Nat} : ∀ {p r : Nat}, lbO T w p r ≤ r
  | 0, r => Nat.le_refl _
  | p + 1, r => by
    unfold lbO
    split
    · exact Nat.le_refl _
    · exact Nat.le_trans lbO_le lbI_le
set_option maxHeartbeats 1000000 in
theorem c_Se_isEmptied (hSt : StOk St) {h : Hp} {T : Nat → Nat → Nat} {nw : Nat} (hn : h.1 3 0 = nI nw) (h10 : nw ≤ 10) (hT : TbI h 0 T) (A : Nat) (hA : A < 4096) (hin : ∀ Q, Q < 4096 → rB h Q = true → 1 ≤ Q ∧ Q ≤ A) : Ct l y_Se_isEmptiedByOneMore prog_7_method_10_code 5 (some .boolean) (rmD 3) D cls cA slC St ad [.ref 7, .int (nI A)] h (fun r h' => FrS [] [23] h h' ∧ ((r = some (.int 1) ∧ ∃ S w, S < 4096 ∧ rB h S = true ∧ w < nw ∧ lbO T w 12 S = 0) ∨ (r = some (.int 0) ∧ (∀ S w, S < 4096 → rB h S = true → w < nw → lbO T w 12 S ≠ 0) ∧ ∀ Q, Q < 4096 → (rB h' Q = true ↔ rB h Q = true ∨ ∃ S w, S < 4096 ∧ rB h S = true ∧ w < nw ∧ Q = lbO T w 12 S)))) := by
  refine Ct.of (tl := T_Se_isEmptiedByOneMore) (by decide) tk_Se_isEmptiedByOneMore cls_ok hSt (Nat.le_of_ble_eq_true rfl) (fun V G E C => ?_)
  -- at the head, with the sets below L done
  have La : ∀ d L, d + L = A + 1 → ∀ hc, ∀ v3 v4 : Option Value, FrS [] [23] h hc → (∀ S w, S < L → rB h S = true → w < nw → lbO T w 12 S ≠ 0) → (∀ Q, Q < 4096 → (rB hc Q = true ↔ rB h Q = true ∨ ∃ S w, S < L ∧ rB h S = true ∧ w < nw ∧ Q = lbO T w 12 S)) → V 2 [some (.ref 7), some (.int (nI A)), some (.int (nI L)), v3, v4] [] hc := by
    intro d
    induction d with
    | zero =>
      intro L hL hc v3 v4 hf hz hr
      repeat (first | refine G.sx (fun _ => false) rfl rfl rfl ?_ | refine G.gox (fun _ => false) rfl rfl rfl ?_ | refine G.getx (fun _ => false) rfl rfl rfl rfl ?_)
      refine G.br rfl rfl (fun _ => ?_) (fun c1 => absurd (nI_lt (by omega) (by omega)) c1)
      repeat (first | refine G.sx (fun _ => false) rfl rfl rfl ?_ | refine G.gox (fun _ => false) rfl rfl rfl ?_ | refine G.getx (fun _ => false) rfl rfl rfl rfl ?_)
      refine E.ri rfl (Or.inr ⟨rfl, Or.inl rfl⟩) ⟨hf, Or.inr ⟨rfl, fun S w q1 q2 q3 => hz S w (by have := hin S q1 q2; omega) q2 q3, fun Q hQ => ?_⟩⟩
      rw [hr Q hQ]
      constructor
      · rintro (q | ⟨S, w, q1, q2⟩)
        · exact Or.inl q
        · exact Or.inr ⟨S, w, by omega, q2⟩
      · rintro (q | ⟨S, w, q1, q2, q3⟩)
        · exact Or.inl q
        · exact Or.inr ⟨S, w, by have := hin S q1 q2; omega, q2, q3⟩
    | succ d ih =>
      intro L hL hc v3 v4 hf hz hr
      have rL : rB hc L = rB h L := by
        rw [Bool.eq_iff_iff, hr L (by omega)]
        constructor
        · rintro (q | ⟨S, w, q1, q2, q3, q4⟩)
          · exact q
          · have := lbO_le (T := T) (w := w) (p := 12) (r := S); omega
        · exact Or.inl
      repeat (first | refine G.sx (fun _ => false) rfl rfl rfl ?_ | refine G.gox (fun _ => false) rfl rfl rfl ?_ | refine G.getx (fun _ => false) rfl rfl rfl rfl ?_)
      refine G.br rfl rfl (fun c1 => absurd c1 (nI_nlt (by omega) (by omega))) (fun _ => ?_)
      have J : ∀ hd, ∀ v3 v4 : Option Value, FrS [] [23] h hd → (∀ S w, S < L + 1 → rB h S = true → w < nw → lbO T w 12 S ≠ 0) → (∀ Q, Q < 4096 → (rB hd Q = true ↔ rB h Q = true ∨ ∃ S w, S < L + 1 ∧ rB h S = true ∧ w < nw ∧ Q = lbO T w 12 S)) → V 58 [some (.ref 7), some (.int (nI A)), some (.int (nI L)), v3, v4] [] hd := by
        intro hd v3 v4 q1 q2 q3
        have e2 := ih (L + 1) (by omega) hd v3 v4 q1 q2 q3
        rw [← nI_1 L] at e2
        repeat (first | refine G.sx (fun _ => false) rfl rfl rfl ?_ | refine G.gox (fun _ => false) rfl rfl rfl ?_ | refine G.getx (fun _ => false) rfl rfl rfl rfl ?_)
        refine G.go rfl ?_
        exact e2
      by_cases hm : rB h L = true
      · have Lw : ∀ w, w ≤ nw → ∀ hd, ∀ v4 : Option Value, FrS [] [23] h hd → (∀ w', w' < w → lbO T w' 12 L ≠ 0) → (∀ Q, Q < 4096 → (rB hd Q = true ↔ rB h Q = true ∨ (∃ S w', S < L ∧ rB h S = true ∧ w' < nw ∧ Q = lbO T w' 12 S) ∨ ∃ w', w' < w ∧ Q = lbO T w' 12 L)) → V 9 [some (.ref 7), some (.int (nI A)), some (.int (nI L)), some (.int (nI w)), v4] [] hd := by
          refine loopUp nw (fun w hw ihw => ?_) ?_
          · intro hd v4 q1 q2 q3
            have hnd : hd.1 3 0 = nI nw := by rw [q1.1 3 (by decide)]; exact hn
            have rd : rB hd L = true := (q3 L (by omega)).mpr (Or.inl hm)
            repeat (first | refine G.sx (fun _ => false) rfl rfl rfl ?_ | refine G.gox (fun _ => false) rfl rfl rfl ?_ | refine G.getx (fun _ => false) rfl rfl rfl rfl ?_)
            refine G.br rfl rfl (fun c1 => absurd c1 (by rw [hnd]; exact nI_ge hw (by omega))) (fun _ => ?_)
            repeat (first | refine G.sx (fun _ => false) rfl rfl rfl ?_ | refine G.gox (fun _ => false) rfl rfl rfl ?_ | refine G.getx (fun _ => false) rfl rfl rfl rfl ?_)
            refine C.cv [.int (nI L)] [] rfl cw_Se_64 (d1 := 1) (by omega) (by omega) rfl rfl rfl (c_Se_isReached hSt hd L (by omega)) (by decide) (fun r h' hq => ?_)
            obtain ⟨rfl, rfl⟩ := hq
            rw [if_pos rd]
            refine G.br rfl rfl (fun c1 => absurd c1 (by decide)) (fun _ => ?_)
            repeat (first | refine G.sx (fun _ => false) rfl rfl rfl ?_ | refine G.gox (fun _ => false) rfl rfl rfl ?_ | refine G.getx (fun _ => false) rfl rfl rfl rfl ?_)
            refine C.cv [.int (nI L), .int (nI w)] [] rfl cw_Se_95 (d1 := 2) (by omega) (by omega) rfl rfl rfl (c_Ba_leftBehind hSt L w (by omega) (by omega) (hT.frS q1 (by decide))) (by decide) (fun r h'' hq => ?_)
            obtain ⟨rfl, rfl⟩ := hq
            have hle := lbO_le (T := T) (w := w) (p := 12) (r := L)
            generalize hR : lbO T w 12 L = Rr at hle
            repeat (first | refine G.sx (fun _ => false) rfl rfl rfl ?_ | refine G.gox (fun _ => false) rfl rfl rfl ?_ | refine G.getx (fun _ => false) rfl rfl rfl rfl ?_)
            refine G.br rfl rfl (fun c1 => ?_) (fun c1 => ?_)
            · have c1 : Rr ≠ 0 := fun q => c1 (by rw [q]; rfl)
              repeat (first | refine G.sx (fun _ => false) rfl rfl rfl ?_ | refine G.gox (fun _ => false) rfl rfl rfl ?_ | refine G.getx (fun _ => false) rfl rfl rfl rfl ?_)
              refine C.cv [.int (nI Rr)] [] rfl cw_Se_60 (d1 := 1) (by omega) (by omega) rfl rfl rfl (c_Se_reach hSt h'' Rr (by omega)) (by decide) (fun r h3 hq => ?_)
              obtain ⟨rfl, rfl⟩ := hq
              have e2 := ihw (rch h'' Rr) (some (.int (nI Rr))) (q1.upL (by decide) _ _) (fun w' z => ?_) (fun Q hQ => ?_)
              · rw [← nI_1 w] at e2
                repeat (first | refine G.sx (fun _ => false) rfl rfl rfl ?_ | refine G.gox (fun _ => false) rfl rfl rfl ?_ | refine G.getx (fun _ => false) rfl rfl rfl rfl ?_)
                refine G.go rfl ?_
                exact e2
              · by_cases e : w' = w
                · subst e; rw [hR]; exact c1
                · exact q2 w' (by omega)
              · rw [rB_rch, Bool.or_eq_true, decide_eq_true_iff, q3 Q hQ]
                constructor
                · rintro ((z | z | ⟨w', y1, y2⟩) | z)
                  · exact Or.inl z
                  · exact Or.inr (Or.inl z)
                  · exact Or.inr (Or.inr ⟨w', by omega, y2⟩)
                  · exact Or.inr (Or.inr ⟨w, by omega, by rw [hR]; exact z⟩)
                · rintro (z | z | ⟨w', y1, y2⟩)
                  · exact Or.inl (Or.inl z)
                  · exact Or.inl (Or.inr (Or.inl z))
                  · by_cases e : w' = w
                    · subst e; rw [hR] at y2; exact Or.inr y2
                    · exact Or.inl (Or.inr (Or.inr ⟨w', by omega, y2⟩))
            · have c1 : Rr = 0 := (nI_eq (b := 0) (by omega) (by omega)).mp c1
              repeat (first | refine G.sx (fun _ => false) rfl rfl rfl ?_ | refine G.gox (fun _ => false) rfl rfl rfl ?_ | refine G.getx (fun _ => false) rfl rfl rfl rfl ?_)
              exact E.ri rfl (Or.inr ⟨rfl, Or.inr rfl⟩) ⟨q1, Or.inl ⟨rfl, L, w, by omega, hm, hw, by rw [hR]; exact c1⟩⟩
          · intro hd v4 q1 q2 q3
            have hnd : hd.1 3 0 = nI nw := by rw [q1.1 3 (by decide)]; exact hn
            repeat (first | refine G.sx (fun _ => false) rfl rfl rfl ?_ | refine G.gox (fun _ => false) rfl rfl rfl ?_ | refine G.getx (fun _ => false) rfl rfl rfl rfl ?_)
            refine G.br rfl rfl (fun _ => ?_) (fun c1 => absurd (by rw [hnd]; exact nI_le (Nat.le_refl nw) (by omega)) c1)
            refine J hd _ _ q1 (fun S w z1 z2 z3 => ?_) (fun Q hQ => ?_)
            · by_cases e : S = L
              · subst e; exact q2 w z3
              · exact hz S w (by omega) z2 z3
            · rw [q3 Q hQ]
              constructor
              · rintro (z | ⟨S, w', z1, z2⟩ | ⟨w', z1, z2⟩)
                · exact Or.inl z
                · exact Or.inr ⟨S, w', by omega, z2⟩
                · exact Or.inr ⟨L, w', by omega, hm, z1, z2⟩
              · rintro (z | ⟨S, w', z1, z2, z3, z4⟩)
                · exact Or.inl z
                · by_cases e : S = L
                  · subst e; exact Or.inr (Or.inr ⟨w', z3, z4⟩)
                  · exact Or.inr (Or.inl ⟨S, w', by omega, z2, z3, z4⟩)
        repeat (first | refine G.sx (fun q => Nat.beq q 9) rfl rfl rfl ?_ | refine G.gox (fun q => Nat.beq q 9) rfl rfl rfl ?_ | refine G.getx (fun q => Nat.beq q 9) rfl rfl rfl rfl ?_)
        refine Lw 0 (Nat.zero_le _) hc v4 hf (fun w' q => by omega) (fun Q hQ => ?_)
        rw [hr Q hQ]
        constructor
        · rintro (z | z)
          · exact Or.inl z
          · exact Or.inr (Or.inl z)
        · rintro (z | z | ⟨w', z, -⟩)
          · exact Or.inl z
          · exact Or.inr z
          · omega
      · have J0 : V 58 [some (.ref 7), some (.int (nI A)), some (.int (nI L)), some (.int (nI 0)), v4] [] hc := by
          refine J hc _ _ hf (fun S w z1 z2 z3 => ?_) (fun Q hQ => ?_)
          · by_cases e : S = L
            · subst e; exact absurd z2 hm
            · exact hz S w (by omega) z2 z3
          · rw [hr Q hQ]
            constructor
            · rintro (z | ⟨S, w', z1, z2⟩)
              · exact Or.inl z
              · exact Or.inr ⟨S, w', by omega, z2⟩
            · rintro (z | ⟨S, w', z1, z2, z3⟩)
              · exact Or.inl z
              · by_cases e : S = L
                · subst e; exact absurd z2 hm
                · exact Or.inr ⟨S, w', by omega, z2, z3⟩
        repeat (first | refine G.sx (fun _ => false) rfl rfl rfl ?_ | refine G.gox (fun _ => false) rfl rfl rfl ?_ | refine G.getx (fun _ => false) rfl rfl rfl rfl ?_)
        refine G.br rfl rfl (fun _ => J0) (fun _ => ?_)
        repeat (first | refine G.sx (fun _ => false) rfl rfl rfl ?_ | refine G.gox (fun _ => false) rfl rfl rfl ?_ | refine G.getx (fun _ => false) rfl rfl rfl rfl ?_)
        refine C.cv [.int (nI L)] [] rfl cw_Se_64 (d1 := 1) (by omega) (by omega) rfl rfl rfl (c_Se_isReached hSt hc L (by omega)) (by decide) (fun r h' hq => ?_)
        obtain ⟨rfl, rfl⟩ := hq
        rw [rL, if_neg hm]
        exact G.br rfl rfl (fun _ => J0) (fun c1 => absurd rfl c1)
  repeat (first | refine G.sx (fun q => Nat.beq q 2) rfl rfl rfl ?_ | refine G.gox (fun q => Nat.beq q 2) rfl rfl rfl ?_ | refine G.getx (fun q => Nat.beq q 2) rfl rfl rfl rfl ?_)
  refine La A 1 (by omega) h _ _ FrS.rf (fun S w q1 q2 q3 => ?_) (fun Q hQ => ?_)
  · have := hin S (by omega) q2; omega
  · constructor
    · exact Or.inl
    · rintro (q | ⟨S, w, q1, q2, -⟩)
      · exact q
      · have := hin S (by omega) q2; omega
/-- S is what can be left behind k directions, all going that can along each -/
def TnN (T : Nat → Nat → Nat) (nw A : Nat) : Nat → Nat → Prop
  | 0, S => S = A
  | k + 1, Q => ∃ S w, TnN T nw A k S ∧ w < nw ∧ Q = lbO T w 12 S ∧ Q ≠ S
theorem TnN_le {T : Nat → Nat → Nat} {nw A : Nat} : ∀ {k S : Nat}, TnN T nw A k S → S ≤ A
  | 0, S, h => Nat.le_of_eq h
  | k + 1, Q, ⟨S, w, h1, h2, h3, h4⟩ => by
    have := TnN_le h1
    have := lbO_le (T := T) (w := w) (p := 12) (r := S)
    omega
/-- one direction more behind c empties it -/
def Emp (T : Nat → Nat → Nat) (nw A c : Nat) : Prop := ∃ S w, TnN T nw A c S ∧ w < nw ∧ lbO T w 12 S = 0
def TnOk (T : Nat → Nat → Nat) (nw A : Nat) (v : Int32) : Prop := (A = 0 ∧ v = 0) ∨ (A ≠ 0 ∧ ((∃ c, c < 12 ∧ v = nI c ∧ Emp T nw A c ∧ ∀ c', c' < c → ¬ Emp T nw A c') ∨ (v = -1 ∧ ∀ c, c < 12 → ¬ Emp T nw A c)))
theorem c_Se_findTurnings (hSt : StOk St) {h : Hp} {T : Nat → Nat → Nat} {n : Nat} {it : Nat → Nat} {nw : Nat} (hI : ItI h n it) (hn : h.1 3 0 = nI nw) (h10 : nw ≤ 10) (hT : TbI h 0 T) (hA : allB it n < 4096) : Ct l y_Se_findTurnings prog_7_method_9_code 3 (some .int) (rmD 4) D cls cA slC St ad [.ref 7] h (fun r h' => FrS [] [23] h h' ∧ ∃ v, r = some (.int v) ∧ TnOk T nw (allB it n) v) := by
  generalize hA0 : allB it n = A at hA
  refine Ct.of (tl := T_Se_findTurnings) (by decide) tk_Se_findTurnings cls_ok hSt (Nat.le_of_ble_eq_true rfl) (fun V G E C => ?_)
  repeat (first | refine G.sx (fun _ => false) rfl rfl rfl ?_ | refine G.gox (fun _ => false) rfl rfl rfl ?_ | refine G.getx (fun _ => false) rfl rfl rfl rfl ?_)
  refine C.cv [] [] rfl cw_Se_45 (d1 := 1) (by omega) (by omega) rfl rfl rfl (c_It_all hSt hI) (by decide) (fun r h' hq => ?_)
  obtain ⟨rfl, rfl⟩ := hq
  rw [hA0]
  repeat (first | refine G.sx (fun _ => false) rfl rfl rfl ?_ | refine G.gox (fun _ => false) rfl rfl rfl ?_ | refine G.getx (fun _ => false) rfl rfl rfl rfl ?_)
  refine G.br rfl rfl (fun c1 => ?_) (fun c1 => ?_)
  · have c1 : A ≠ 0 := fun q => c1 (by rw [q]; rfl)
    have Lp : ∀ c, c ≤ 12 → ∀ hc, FrS [] [23] h' hc → (∀ c', c' < c → ¬ Emp T nw A c') → (∀ Q, Q < 4096 → (rB hc Q = true ↔ ∃ k, k ≤ c ∧ TnN T nw A k Q)) → V 29 [some (.ref 7), some (.int (nI A)), some (.int (nI c))] [] hc := by
      refine loopUp 12 (fun c hc ih => ?_) ?_
      · intro hh hf hz hr
        have hnc : hh.1 3 0 = nI nw := by rw [hf.1 3 (by decide)]; exact hn
        repeat (first | refine G.sx (fun _ => false) rfl rfl rfl ?_ | refine G.gox (fun _ => false) rfl rfl rfl ?_ | refine G.getx (fun _ => false) rfl rfl rfl rfl ?_)
        refine G.br rfl rfl (fun c2 => absurd c2 (nI_ge (b := 12) hc (by omega))) (fun _ => ?_)
        repeat (first | refine G.sx (fun _ => false) rfl rfl rfl ?_ | refine G.gox (fun _ => false) rfl rfl rfl ?_ | refine G.getx (fun _ => false) rfl rfl rfl rfl ?_)
        refine C.cv [.int (nI A)] [] rfl cw_Se_87 (d1 := 3) (by omega) (by omega) rfl rfl rfl (c_Se_isEmptied hSt hnc h10 (hT.frS hf (by decide)) A hA (fun Q q1 q2 => ?_)) (by decide) (fun r h2 hq => ?_)
        · obtain ⟨k, k1, q3⟩ := (hr Q q1).mp q2
          refine ⟨?_, TnN_le q3⟩
          rcases Nat.eq_zero_or_pos Q with q4 | q4
          · exfalso
            subst q4
            cases k with
            | zero => exact c1 q3.symm
            | succ k =>
              obtain ⟨S, w, z1, z2, z3, z4⟩ := q3
              exact hz k (by omega) ⟨S, w, z1, z2, z3.symm⟩
          · exact q4
        · obtain ⟨g1, ⟨rfl, S, w, z1, z2, z3, z4⟩ | ⟨rfl, z1, z2⟩⟩ := hq
          · refine G.br rfl rfl (fun c2 => absurd c2 (by decide)) (fun _ => ?_)
            repeat (first | refine G.sx (fun _ => false) rfl rfl rfl ?_ | refine G.gox (fun _ => false) rfl rfl rfl ?_ | refine G.getx (fun _ => false) rfl rfl rfl rfl ?_)
            refine E.ri rfl (Or.inl rfl) ⟨hf.tr g1, nI c, rfl, Or.inr ⟨c1, Or.inl ⟨c, hc, rfl, ?_, hz⟩⟩⟩
            obtain ⟨k, k1, k2⟩ := (hr S z1).mp z2
            by_cases e : k = c
            · subst e
              exact ⟨S, w, k2, z3, z4⟩
            · exact absurd ⟨S, w, k2, z3, z4⟩ (hz k (by omega))
          · refine G.br rfl rfl (fun _ => ?_) (fun c2 => absurd rfl c2)
            have e2 := ih h2 (hf.tr g1) (fun c' q => ?_) (fun Q hQ => ?_)
            · rw [← nI_1 c] at e2
              repeat (first | refine G.sx (fun _ => false) rfl rfl rfl ?_ | refine G.gox (fun _ => false) rfl rfl rfl ?_ | refine G.getx (fun _ => false) rfl rfl rfl rfl ?_)
              refine G.go rfl ?_
              exact e2
            · by_cases e : c' = c
              · subst e
                rintro ⟨S, w, y1, y2, y3⟩
                have y4 := TnN_le y1
                exact z1 S w (by omega) ((hr S (by omega)).mpr ⟨c', Nat.le_refl _, y1⟩) y2 y3
              · exact hz c' (by omega)
            · rw [z2 Q hQ, hr Q hQ]
              constructor
              · rintro (⟨k, k1, k2⟩ | ⟨S, w, y1, y2, y3, y4⟩)
                · exact ⟨k, by omega, k2⟩
                · obtain ⟨k, k1, k2⟩ := (hr S y1).mp y2
                  by_cases e : Q = S
                  · exact ⟨k, by omega, by rw [e]; exact k2⟩
                  · exact ⟨k + 1, by omega, S, w, k2, y3, y4, e⟩
              · rintro ⟨k, k1, k2⟩
                by_cases e : k = c + 1
                · subst e
                  obtain ⟨S, w, y1, y2, y3, y4⟩ := k2
                  have y5 := TnN_le y1
                  exact Or.inr ⟨S, w, by omega, (hr S (by omega)).mpr ⟨c, Nat.le_refl _, y1⟩, y2, y3⟩
                · exact Or.inl ⟨k, by omega, k2⟩
      · intro hh hf hz hr
        repeat (first | refine G.sx (fun _ => false) rfl rfl rfl ?_ | refine G.gox (fun _ => false) rfl rfl rfl ?_ | refine G.getx (fun _ => false) rfl rfl rfl rfl ?_)
        refine G.br rfl rfl (fun _ => ?_) (fun c2 => absurd (by decide) c2)
        repeat (first | refine G.sx (fun _ => false) rfl rfl rfl ?_ | refine G.gox (fun _ => false) rfl rfl rfl ?_ | refine G.getx (fun _ => false) rfl rfl rfl rfl ?_)
        exact E.ri rfl (Or.inl rfl) ⟨hf, -1, rfl, Or.inr ⟨c1, Or.inr ⟨rfl, hz⟩⟩⟩
    repeat (first | refine G.sx (fun _ => false) rfl rfl rfl ?_ | refine G.gox (fun _ => false) rfl rfl rfl ?_ | refine G.getx (fun _ => false) rfl rfl rfl rfl ?_)
    refine C.cs [.ref 23, .long 0] [] rfl cw_Se_57 (d1 := 1) (by omega) (by omega) rfl (c_Ja_fillJ hSt h' (a := 23) rfl (by decide) 0) (by decide) (fun r h2 hq => ?_)
    obtain ⟨rfl, rfl⟩ := hq
    repeat (first | refine G.sx (fun _ => false) rfl rfl rfl ?_ | refine G.gox (fun _ => false) rfl rfl rfl ?_ | refine G.getx (fun _ => false) rfl rfl rfl rfl ?_)
    refine C.cv [.int (nI A)] [] rfl cw_Se_60 (d1 := 1) (by omega) (by omega) rfl rfl rfl (c_Se_reach hSt _ A hA) (by decide) (fun r h3 hq => ?_)
    obtain ⟨rfl, rfl⟩ := hq
    repeat (first | refine G.sx (fun q => Nat.beq q 29) rfl rfl rfl ?_ | refine G.gox (fun q => Nat.beq q 29) rfl rfl rfl ?_ | refine G.getx (fun q => Nat.beq q 29) rfl rfl rfl rfl ?_)
    refine Lp 0 (by omega) _ ?_ (fun c' q => by omega) (fun Q hQ => ?_)
    · refine FrS.upL (ki := []) (kl := [23]) ?_ (by decide) _ _
      refine ⟨fun q hq => rfl, fun q hq => ?_⟩
      exact setL_ne _ _ (fun e => hq (by rw [e]; decide))
    · rw [rB_rch, Bool.or_eq_true, decide_eq_true_iff]
      constructor
      · rintro (q | q)
        · exfalso
          unfold rB at q
          rw [setL_at, if_pos (by omega), lbit_bv (Nat.mod_lt _ (by omega))] at q
          simp at q
        · exact ⟨0, Nat.le_refl _, q⟩
      · rintro ⟨k, k1, k2⟩
        obtain rfl : k = 0 := by omega
        exact Or.inr k2
  · have c1 : A = 0 := (nI_eq (b := 0) (by omega) (by omega)).mp c1
    repeat (first | refine G.sx (fun _ => false) rfl rfl rfl ?_ | refine G.gox (fun _ => false) rfl rfl rfl ?_ | refine G.getx (fun _ => false) rfl rfl rfl rfl ?_)
    exact E.ri rfl (Or.inl rfl) ⟨FrS.rf, 0, rfl, Or.inl ⟨c1, rfl⟩⟩
theorem c_Se_leastTurnings (hSt : StOk St) {h : Hp} {T : Nat → Nat → Nat} {n : Nat} {it : Nat → Nat} {nw : Nat} (hI : ItI h n it) (hn : h.1 3 0 = nI nw) (h10 : nw ≤ 10) (hT : TbI h 0 T) (hA : allB it n < 4096) (hk : h.1 7 6 = 0 ∨ h.1 7 6 = 1 ∧ TnOk T nw (allB it n) (h.1 7 7)) : Ct l y_Se_leastTurnings prog_7_method_8_code 1 (some .int) (rmD 5) D cls cA slC St ad [.ref 7] h (fun r h' => r = some (.int (h'.1 7 7)) ∧ TnOk T nw (allB it n) (h'.1 7 7) ∧ FrS [7] [23] h h' ∧ h'.1 7 6 = 1 ∧ h'.1 7 5 = h.1 7 5) := by
  refine Ct.of (tl := T_Se_leastTurnings) (by decide) tk_Se_leastTurnings cls_ok hSt (Nat.le_of_ble_eq_true rfl) (fun V G E C => ?_)
  repeat (first | refine G.sx (fun _ => false) rfl rfl rfl ?_ | refine G.gox (fun _ => false) rfl rfl rfl ?_ | refine G.getx (fun _ => false) rfl rfl rfl rfl ?_)
  rcases hk with hk | ⟨hk, hb⟩
  · refine G.br rfl rfl (fun c1 => absurd hk c1) (fun _ => ?_)
    repeat (first | refine G.sx (fun _ => false) rfl rfl rfl ?_ | refine G.gox (fun _ => false) rfl rfl rfl ?_ | refine G.getx (fun _ => false) rfl rfl rfl rfl ?_)
    refine C.cv [] [.ref 7] rfl cw_Se_84 (d1 := 4) (by omega) (by omega) rfl rfl rfl (c_Se_findTurnings hSt hI hn h10 hT hA) (Nat.le_of_ble_eq_true rfl) (fun r h' hq => ?_)
    obtain ⟨g1, v, rfl, g2⟩ := hq
    refine G.put rfl rfl rfl ?_
    repeat (first | refine G.sx (fun _ => false) rfl rfl rfl ?_ | refine G.gox (fun _ => false) rfl rfl rfl ?_ | refine G.getx (fun _ => false) rfl rfl rfl rfl ?_)
    refine G.putz rfl rfl rfl (Or.inr rfl) ?_
    repeat (first | refine G.sx (fun _ => false) rfl rfl rfl ?_ | refine G.gox (fun _ => false) rfl rfl rfl ?_ | refine G.getx (fun _ => false) rfl rfl rfl rfl ?_)
    have e7 : (upI (upI h' 7 7 v) 7 6 1).1 7 7 = v := by rw [up_ne _ _ _ _ (by decide), up_eq]
    refine E.ri rfl (Or.inl rfl) ⟨rfl, ?_, ?_, up_eq _ _ _ _, ?_⟩
    · rw [e7]; exact g2
    · exact ((g1.more (by decide) (fun _ q => q)).upI (by decide) _ _).upI (by decide) _ _
    · rw [up_ne _ _ _ _ (by decide), up_ne _ _ _ _ (by decide), g1.1 7 (by decide)]
  · refine G.br rfl rfl (fun c1 => ?_) (fun c1 => absurd (hk.symm.trans c1) (by decide))
    repeat (first | refine G.sx (fun _ => false) rfl rfl rfl ?_ | refine G.gox (fun _ => false) rfl rfl rfl ?_ | refine G.getx (fun _ => false) rfl rfl rfl rfl ?_)
    exact E.ri rfl (Or.inl rfl) ⟨rfl, hb, FrS.rf, hk, rfl⟩
end Se3
