/-! THE LAW'S CASES (printed by wip/gen/mk76.py) -/
section LWB
set_option maxRecDepth 20000 in
set_option maxHeartbeats 4000000 in
theorem k_group {p : Program} {l : Launch} {e : Env} {s : State} {m : MethodId} {args : Array Value} {below : List Frame} {meth : Method} {c : Code} {cells slots : Nat} {D : va_G} {cA : Nat → ClassId} {ad ad2 : Nat → Nat} {A : Nat → Prop} {Q : State → Prop} {b o L t : Nat} {xs : Nat → Int32} {h g : Hp} {f : Nat → Int64} {o5 o6 : Option Value} (C0 : Cx p s m args c code "TogetherOrdersLaw" wg 7 T_La_4 D cls cA) (hfl : l.flags = flags0) (hml : c.maxLocals = 7) (hA : ∀ q, s.heap.size ≤ q → A q) (hst : StX ad A s s.heap) (hnc : NC s) (hX : va_X b L xs s s.heap) (hbl : b < s.heap.size) (hbA : ¬ A b) (hin : ∀ j, j < 12 → vp_in (nI (12 * t) + nI j) L) (hce : cells + 1 ≤ 601024) (hsl : slots + 6 ≤ 7293034) (hRl : Rl h g)
    (kk : ∀ h' g' f' o5 o6, Rl h' g' → Vw p l e room_1 s m args below meth c 7 D cls A Q (cells + 1) (slots + 6) (Wd slM cA ad2 g' ++ WH cA ad o f' h') 1669 [some (.ref b), some (.ref (ad 0)), some (.ref (ad2 0)), some (.ref o), some (.int (nI (12 * t))), o5, o6] []) : Vw p l e room_1 s m args below meth c 7 D cls A Q cells slots (Wd slM cA ad2 g ++ WH cA ad o f h) 752 [some (.ref b), some (.ref (ad 0)), some (.ref (ad2 0)), some (.ref o), some (.int (nI (12 * t))), o5, o6] [] := by
  obtain ⟨n, it, nb, own, ns, ng, ga, gb, hR⟩ := hRl
  obtain ⟨hV, hMd, hid, hN, hSE, hGl, hRn⟩ := id hR
  have hrv := hR.rv
  obtain ⟨M, tk, B, od1, od2, od3, od4, od5⟩ := hRn.2
  refine Vw_s C0 rfl rfl ?_
  refine Vw_s C0 rfl rfl ?_
  refine Vw_s C0 rfl rfl ?_
  refine Vw_s C0 rfl rfl ?_
  refine Vw_s C0 rfl rfl ?_
  refine Vw_sld C0 hX hbl hbA rfl (hin 1 (by omega)) ?_
  refine Vw_s C0 rfl rfl ?_
  refine Vw_s C0 rfl rfl ?_
  refine Vw_s C0 rfl rfl ?_
  refine Vw_s C0 rfl rfl ?_
  refine Vw_sld C0 hX hbl hbA rfl (hin 2 (by omega)) ?_
  refine Vw_s C0 rfl rfl ?_
  refine Vw_callH (wr := Wd slM cA ad2 g) C0 hml hA hst hnc ⟨hce, hsl⟩ rfl cw_La_104 ⟨Nat.le_of_ble_eq_true rfl, Nat.le_of_ble_eq_true rfl⟩ (avs := [.ref (ad 0), .int _, .int _, .ref o]) rfl (h_group _ _ (c_TO_group hfl hV.1.1 _ _) (by rintro r h' ⟨-, i, j, -, -, -, -, ⟨-, rfl, -⟩ | ⟨-, rfl, -⟩⟩ <;> exact ⟨_, rfl⟩) (by rintro E h' ⟨⟨-, rfl⟩ | ⟨-, -, rfl⟩, -⟩ <;> decide)) (rs := []) (Nat.zero_le _) (fun rc h' f' hres => ?_)
  refine Vw_s C0 rfl rfl ?_
  refine Vw_s C0 rfl rfl ?_
  refine Vw_s C0 rfl rfl ?_
  refine Vw_s C0 rfl rfl ?_
  refine Vw_s C0 rfl rfl ?_
  refine Vw_s C0 rfl rfl ?_
  refine Vw_sld C0 hX hbl hbA rfl (hin 1 (by omega)) ?_
  refine Vw_s C0 rfl rfl ?_
  refine Vw_s C0 rfl rfl ?_
  refine Vw_s C0 rfl rfl ?_
  refine Vw_s C0 rfl rfl ?_
  refine Vw_sld C0 hX hbl hbA rfl (hin 2 (by omega)) ?_
  refine Vw_swap (a := []) (b := Wd slM cA ad2 g) (c0 := WH cA ad o f' h') ?_
  refine Vw_callV (wr := [] ++ WH cA ad o f' h') C0 hml hA hSU trivial ⟨hce, hsl⟩ rfl cw_La_107 ⟨rfl, rfl, Nat.le_of_ble_eq_true rfl, Nat.le_of_ble_eq_true rfl⟩ (b := 0) (ci := 9) rfl rfl (As := [.int _, .int _]) rfl (c_Mo_group hSU hMd.1 _ _) (rs := []) (Nat.zero_le _) (fun r' g' hg => ?_)
  have hop := op_group hR hg
  obtain ⟨v', rfl, hc0, hR', hf'⟩ := agr_of hop.1 hop.2 (by rintro E h' ⟨⟨-, rfl⟩ | ⟨-, -, rfl⟩, -⟩ <;> decide) hres
  refine Vw_swap (a := []) (b := WH cA ad o f' h') (c0 := Wd slM cA ad2 g') ?_
  refine Vw_s C0 rfl rfl ?_
  refine Vw_s C0 rfl rfl ?_
  refine Vw_swap (a := []) (b := Wd slM cA ad2 g') (c0 := WH cA ad o f' h') ?_
  refine Vw_callV (wr := [] ++ WH cA ad o f' h') C0 hml hA hSU trivial ⟨hce, hsl⟩ rfl cw_La_87 ⟨rfl, rfl, Nat.le_of_ble_eq_true rfl, Nat.le_of_ble_eq_true rfl⟩ (b := 0) (ci := 9) rfl rfl (As := []) rfl (c_Mo_thrown hSU g') (rs := []) (Nat.zero_le _) (fun r2 g2 hg2 => ?_)
  obtain ⟨rfl, rfl⟩ := hg2
  refine Vw_swap (a := []) (b := WH cA ad o f' h') (c0 := Wd slM cA ad2 g2) ?_
  refine Vw_s C0 rfl rfl ?_
  refine Vw_br C0 rfl rfl (fun _ => ?_) (fun c1 => absurd hc0 c1)
  refine Vw_s C0 rfl rfl ?_
  refine Vw_br C0 rfl rfl (fun c2 => ?_) (fun c2 => ?_)
  · refine Vw_go C0 rfl ?_
    exact kk _ _ _ _ _ hR'
  · have hf1 := hf' c2
    refine Vw_s C0 rfl rfl ?_
    refine Vw_s C0 rfl rfl ?_
    refine Vw_lald C0 (q0 := 14) (i := 0) rfl rfl (by omega) (by omega) ?_
    rw [hf1]
    refine Vw_s C0 rfl rfl ?_
    refine Vw_br C0 rfl rfl (fun c3 => ?_) (fun c3 => ?_)
    · rw [if_pos rfl, if_pos c3]
      refine Vw_s C0 rfl rfl ?_
      refine Vw_s C0 rfl rfl ?_
      refine Vw_br C0 rfl rfl (fun _ => ?_) (fun c4 => absurd (cmp_eq.mpr rfl) c4)
      refine Vw_go C0 rfl ?_
      exact kk _ _ _ _ _ hR'
    · rw [if_pos rfl, if_neg c3]
      refine Vw_s C0 rfl rfl ?_
      refine Vw_go C0 rfl ?_
      refine Vw_s C0 rfl rfl ?_
      refine Vw_br C0 rfl rfl (fun _ => ?_) (fun c4 => absurd (cmp_eq.mpr rfl) c4)
      refine Vw_go C0 rfl ?_
      exact kk _ _ _ _ _ hR'
set_option maxRecDepth 20000 in
set_option maxHeartbeats 4000000 in
theorem k_free {p : Program} {l : Launch} {e : Env} {s : State} {m : MethodId} {args : Array Value} {below : List Frame} {meth : Method} {c : Code} {cells slots : Nat} {D : va_G} {cA : Nat → ClassId} {ad ad2 : Nat → Nat} {A : Nat → Prop} {Q : State → Prop} {b o L t : Nat} {xs : Nat → Int32} {h g : Hp} {f : Nat → Int64} {o5 o6 : Option Value} (C0 : Cx p s m args c code "TogetherOrdersLaw" wg 7 T_La_5 D cls cA) (hfl : l.flags = flags0) (hml : c.maxLocals = 7) (hA : ∀ q, s.heap.size ≤ q → A q) (hst : StX ad A s s.heap) (hnc : NC s) (hX : va_X b L xs s s.heap) (hbl : b < s.heap.size) (hbA : ¬ A b) (hin : ∀ j, j < 12 → vp_in (nI (12 * t) + nI j) L) (hce : cells + 1 ≤ 601024) (hsl : slots + 6 ≤ 7293034) (hRl : Rl h g)
    (kk : ∀ h' g' f' o5 o6, Rl h' g' → Vw p l e room_1 s m args below meth c 7 D cls A Q (cells + 1) (slots + 6) (Wd slM cA ad2 g' ++ WH cA ad o f' h') 1669 [some (.ref b), some (.ref (ad 0)), some (.ref (ad2 0)), some (.ref o), some (.int (nI (12 * t))), o5, o6] []) : Vw p l e room_1 s m args below meth c 7 D cls A Q cells slots (Wd slM cA ad2 g ++ WH cA ad o f h) 827 [some (.ref b), some (.ref (ad 0)), some (.ref (ad2 0)), some (.ref o), some (.int (nI (12 * t))), o5, o6] [] := by
  obtain ⟨n, it, nb, own, ns, ng, ga, gb, hR⟩ := hRl
  obtain ⟨hV, hMd, hid, hN, hSE, hGl, hRn⟩ := id hR
  have hrv := hR.rv
  obtain ⟨M, tk, B, od1, od2, od3, od4, od5⟩ := hRn.2
  refine Vw_s C0 rfl rfl ?_
  refine Vw_s C0 rfl rfl ?_
  refine Vw_s C0 rfl rfl ?_
  refine Vw_s C0 rfl rfl ?_
  refine Vw_s C0 rfl rfl ?_
  refine Vw_sld C0 hX hbl hbA rfl (hin 1 (by omega)) ?_
  refine Vw_s C0 rfl rfl ?_
  refine Vw_s C0 rfl rfl ?_
  refine Vw_s C0 rfl rfl ?_
  refine Vw_s C0 rfl rfl ?_
  refine Vw_sld C0 hX hbl hbA rfl (hin 2 (by omega)) ?_
  refine Vw_s C0 rfl rfl ?_
  refine Vw_s C0 rfl rfl ?_
  refine Vw_s C0 rfl rfl ?_
  refine Vw_s C0 rfl rfl ?_
  refine Vw_sld C0 hX hbl hbA rfl (hin 3 (by omega)) ?_
  refine Vw_s C0 rfl rfl ?_
  refine Vw_s C0 rfl rfl ?_
  refine Vw_s C0 rfl rfl ?_
  refine Vw_s C0 rfl rfl ?_
  refine Vw_s C0 rfl rfl ?_
  refine Vw_s C0 rfl rfl ?_
  refine Vw_s C0 rfl rfl ?_
  refine Vw_sld C0 hX hbl hbA rfl (hin 4 (by omega)) ?_
  refine Vw_s C0 rfl rfl ?_
  refine Vw_s C0 rfl rfl ?_
  refine Vw_s C0 rfl rfl ?_
  refine Vw_s C0 rfl rfl ?_
  refine Vw_s C0 rfl rfl ?_
  refine Vw_callH (wr := Wd slM cA ad2 g) C0 hml hA hst hnc ⟨hce, hsl⟩ rfl cw_La_108 ⟨Nat.le_of_ble_eq_true rfl, Nat.le_of_ble_eq_true rfl⟩ (avs := [.ref (ad 0), .int _, .int _, .long _, .ref o]) rfl (h_free _ _ _ (c_TO_free hfl hV.1 _ _ _) (by rintro r h' ⟨-, i, k, -, -, -, -, rfl, -⟩ <;> exact ⟨_, rfl⟩) (by rintro E h' ⟨-, ⟨-, rfl⟩ | ⟨-, -, rfl⟩⟩ <;> decide)) (rs := []) (Nat.zero_le _) (fun rc h' f' hres => ?_)
  refine Vw_s C0 rfl rfl ?_
  refine Vw_s C0 rfl rfl ?_
  refine Vw_s C0 rfl rfl ?_
  refine Vw_s C0 rfl rfl ?_
  refine Vw_s C0 rfl rfl ?_
  refine Vw_s C0 rfl rfl ?_
  refine Vw_sld C0 hX hbl hbA rfl (hin 1 (by omega)) ?_
  refine Vw_s C0 rfl rfl ?_
  refine Vw_s C0 rfl rfl ?_
  refine Vw_s C0 rfl rfl ?_
  refine Vw_s C0 rfl rfl ?_
  refine Vw_sld C0 hX hbl hbA rfl (hin 2 (by omega)) ?_
  refine Vw_s C0 rfl rfl ?_
  refine Vw_s C0 rfl rfl ?_
  refine Vw_s C0 rfl rfl ?_
  refine Vw_s C0 rfl rfl ?_
  refine Vw_sld C0 hX hbl hbA rfl (hin 3 (by omega)) ?_
  refine Vw_s C0 rfl rfl ?_
  refine Vw_s C0 rfl rfl ?_
  refine Vw_s C0 rfl rfl ?_
  refine Vw_s C0 rfl rfl ?_
  refine Vw_s C0 rfl rfl ?_
  refine Vw_s C0 rfl rfl ?_
  refine Vw_s C0 rfl rfl ?_
  refine Vw_sld C0 hX hbl hbA rfl (hin 4 (by omega)) ?_
  refine Vw_s C0 rfl rfl ?_
  refine Vw_s C0 rfl rfl ?_
  refine Vw_s C0 rfl rfl ?_
  refine Vw_s C0 rfl rfl ?_
  refine Vw_swap (a := []) (b := Wd slM cA ad2 g) (c0 := WH cA ad o f' h') ?_
  refine Vw_callV (wr := [] ++ WH cA ad o f' h') C0 hml hA hSU trivial ⟨hce, hsl⟩ rfl cw_La_111 ⟨rfl, rfl, Nat.le_of_ble_eq_true rfl, Nat.le_of_ble_eq_true rfl⟩ (b := 0) (ci := 9) rfl rfl (As := [.int _, .int _, .long _]) rfl (c_Mo_free hSU hMd.1.1 hMd.1.2.1 hMd.2.1 hMd.2.2.1 hMd.2.2.2 _ _ _) (rs := []) (Nat.zero_le _) (fun r' g' hg => ?_)
  have hop := op_free hR hg
  obtain ⟨v', rfl, hc0, hR', hf'⟩ := agr_of hop.1 hop.2 (by rintro E h' ⟨-, ⟨-, rfl⟩ | ⟨-, -, rfl⟩⟩ <;> decide) hres
  refine Vw_swap (a := []) (b := WH cA ad o f' h') (c0 := Wd slM cA ad2 g') ?_
  refine Vw_s C0 rfl rfl ?_
  refine Vw_s C0 rfl rfl ?_
  refine Vw_swap (a := []) (b := Wd slM cA ad2 g') (c0 := WH cA ad o f' h') ?_
  refine Vw_callV (wr := [] ++ WH cA ad o f' h') C0 hml hA hSU trivial ⟨hce, hsl⟩ rfl cw_La_87 ⟨rfl, rfl, Nat.le_of_ble_eq_true rfl, Nat.le_of_ble_eq_true rfl⟩ (b := 0) (ci := 9) rfl rfl (As := []) rfl (c_Mo_thrown hSU g') (rs := []) (Nat.zero_le _) (fun r2 g2 hg2 => ?_)
  obtain ⟨rfl, rfl⟩ := hg2
  refine Vw_swap (a := []) (b := WH cA ad o f' h') (c0 := Wd slM cA ad2 g2) ?_
  refine Vw_s C0 rfl rfl ?_
  refine Vw_br C0 rfl rfl (fun _ => ?_) (fun c1 => absurd hc0 c1)
  refine Vw_s C0 rfl rfl ?_
  refine Vw_br C0 rfl rfl (fun c2 => ?_) (fun c2 => ?_)
  · refine Vw_go C0 rfl ?_
    exact kk _ _ _ _ _ hR'
  · have hf1 := hf' c2
    refine Vw_s C0 rfl rfl ?_
    refine Vw_s C0 rfl rfl ?_
    refine Vw_lald C0 (q0 := 14) (i := 0) rfl rfl (by omega) (by omega) ?_
    rw [hf1]
    refine Vw_s C0 rfl rfl ?_
    refine Vw_br C0 rfl rfl (fun c3 => ?_) (fun c3 => ?_)
    · rw [if_pos rfl, if_pos c3]
      refine Vw_s C0 rfl rfl ?_
      refine Vw_s C0 rfl rfl ?_
      refine Vw_br C0 rfl rfl (fun _ => ?_) (fun c4 => absurd (cmp_eq.mpr rfl) c4)
      refine Vw_go C0 rfl ?_
      exact kk _ _ _ _ _ hR'
    · rw [if_pos rfl, if_neg c3]
      refine Vw_s C0 rfl rfl ?_
      refine Vw_go C0 rfl ?_
      refine Vw_s C0 rfl rfl ?_
      refine Vw_br C0 rfl rfl (fun _ => ?_) (fun c4 => absurd (cmp_eq.mpr rfl) c4)
      refine Vw_go C0 rfl ?_
      exact kk _ _ _ _ _ hR'
set_option maxRecDepth 20000 in
set_option maxHeartbeats 4000000 in
theorem k_run {p : Program} {l : Launch} {e : Env} {s : State} {m : MethodId} {args : Array Value} {below : List Frame} {meth : Method} {c : Code} {cells slots : Nat} {D : va_G} {cA : Nat → ClassId} {ad ad2 : Nat → Nat} {A : Nat → Prop} {Q : State → Prop} {b o L t : Nat} {xs : Nat → Int32} {h g : Hp} {f : Nat → Int64} {o5 o6 : Option Value} (C0 : Cx p s m args c code "TogetherOrdersLaw" wg 7 T_La_6 D cls cA) (hfl : l.flags = flags0) (hml : c.maxLocals = 7) (hA : ∀ q, s.heap.size ≤ q → A q) (hst : StX ad A s s.heap) (hnc : NC s) (hX : va_X b L xs s s.heap) (hbl : b < s.heap.size) (hbA : ¬ A b) (hin : ∀ j, j < 12 → vp_in (nI (12 * t) + nI j) L) (hce : cells + 1 ≤ 601024) (hsl : slots + 6 ≤ 7293034) (hRl : Rl h g)
    (kk : ∀ h' g' f' o5 o6, Rl h' g' → Vw p l e room_1 s m args below meth c 7 D cls A Q (cells + 1) (slots + 6) (Wd slM cA ad2 g' ++ WH cA ad o f' h') 1669 [some (.ref b), some (.ref (ad 0)), some (.ref (ad2 0)), some (.ref o), some (.int (nI (12 * t))), o5, o6] []) : Vw p l e room_1 s m args below meth c 7 D cls A Q cells slots (Wd slM cA ad2 g ++ WH cA ad o f h) 946 [some (.ref b), some (.ref (ad 0)), some (.ref (ad2 0)), some (.ref o), some (.int (nI (12 * t))), o5, o6] [] := by
  obtain ⟨n, it, nb, own, ns, ng, ga, gb, hR⟩ := hRl
  obtain ⟨hV, hMd, hid, hN, hSE, hGl, hRn⟩ := id hR
  have hrv := hR.rv
  refine Vw_wide (k := cells + 1) (n := slots + 6) (by omega) (by omega) ?_
  refine Vw_s C0 rfl rfl ?_
  refine Vw_conv (ws' := (Wd slM cA ad2 g ++ [(o, .inl (cA 1, 1, .inr (.inl f)))]) ++ Wd slC cA ad h) (fun H hP => by rw [List.append_assoc]; exact hP) (fun hD => by rw [List.append_assoc]; exact hD) ?_
  refine Vw_callV C0 hml hA (StX_ok ad) hst ⟨hce, hsl⟩ rfl cw_La_112 ⟨rfl, rfl, Nat.le_of_ble_eq_true rfl, Nat.le_of_ble_eq_true rfl⟩ (b := 0) (ci := 0) rfl rfl (As := []) rfl (c_TO_run hV hrv) (rs := []) (Nat.zero_le _) (fun r h' hp => ?_)
  refine Vw_conv (ws' := Wd slM cA ad2 g ++ WH cA ad o f h') (fun H hP => by rw [List.append_assoc] at hP; exact hP) (fun hD => by rw [List.append_assoc] at hD; exact hD) ?_
  obtain ⟨w, hw⟩ : ∃ w, r = some (.int w) := ⟨_, hp.1⟩
  subst hw
  refine Vw_s C0 rfl rfl ?_
  refine Vw_swap (a := []) (b := Wd slM cA ad2 g) (c0 := WH cA ad o f h') ?_
  refine Vw_callV (wr := [] ++ WH cA ad o f h') C0 hml hA hSU trivial ⟨hce, hsl⟩ rfl cw_La_115 ⟨rfl, rfl, Nat.le_of_ble_eq_true rfl, Nat.le_of_ble_eq_true rfl⟩ (b := 0) (ci := 9) rfl rfl (As := []) rfl (c_Mo_run hSU hMd.1 hMd.2.1 hMd.2.2.1 hMd.2.2.2 (aiM_lt n hMd.1.2.1) rfl rfl) (rs := [.int w]) (Nat.le_of_ble_eq_true rfl) (fun r' g' hg => ?_)
  obtain ⟨v, e1, e2, -, hR'⟩ := op_run hR hg _ _ hp
  cases e1
  subst e2
  refine Vw_swap (a := []) (b := WH cA ad o f h') (c0 := Wd slM cA ad2 g') ?_
  exact Vw_br C0 rfl rfl (fun _ => kk _ _ _ _ _ hR') (fun c3 => absurd rfl c3)
end LWB
