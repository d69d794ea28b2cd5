/-! THE LAW'S CASES (printed by wip/gen/mk76.py) -/
section LWB
set_option maxRecDepth 20000 in
set_option maxHeartbeats 4000000 in
theorem k_step {p : Program} {l : Launch} {e : Env} {s : State} {m : MethodId} {args : Array Value} {below : List Frame} {meth : Method} {c : Code} {cells slots : Nat} {D : va_G} {cA : Nat → ClassId} {ad ad2 : Nat → Nat} {A : Nat → Prop} {Q : State → Prop} {b o L t : Nat} {xs : Nat → Int32} {h g : Hp} {f : Nat → Int64} {o5 o6 : Option Value} (C0 : Cx p s m args c code "TogetherOrdersLaw" wg 7 T_La_7 D cls cA) (hfl : l.flags = flags0) (hml : c.maxLocals = 7) (hA : ∀ q, s.heap.size ≤ q → A q) (hst : StX ad A s s.heap) (hnc : NC s) (hX : va_X b L xs s s.heap) (hbl : b < s.heap.size) (hbA : ¬ A b) (hin : ∀ j, j < 12 → vp_in (nI (12 * t) + nI j) L) (hce : cells + 1 ≤ 601024) (hsl : slots + 6 ≤ 7293034) (hRl : Rl h g)
    (kk : ∀ h' g' f' o5 o6, Rl h' g' → Vw p l e room_1 s m args below meth c 7 D cls A Q (cells + 1) (slots + 6) (Wd slM cA ad2 g' ++ WH cA ad o f' h') 1669 [some (.ref b), some (.ref (ad 0)), some (.ref (ad2 0)), some (.ref o), some (.int (nI (12 * t))), o5, o6] []) : Vw p l e room_1 s m args below meth c 7 D cls A Q cells slots (Wd slM cA ad2 g ++ WH cA ad o f h) 959 [some (.ref b), some (.ref (ad 0)), some (.ref (ad2 0)), some (.ref o), some (.int (nI (12 * t))), o5, o6] [] := by
  obtain ⟨n, it, nb, own, ns, ng, ga, gb, hR⟩ := hRl
  obtain ⟨hV, hMd, hid, hN, hSE, hGl, hRn⟩ := id hR
  have hrv := hR.rv
  obtain ⟨M, tk, B, od1, od2, od3, od4, od5⟩ := hRn.2
  refine Vw_s C0 rfl rfl ?_
  refine Vw_s C0 rfl rfl ?_
  refine Vw_s C0 rfl rfl ?_
  refine Vw_s C0 rfl rfl ?_
  refine Vw_s C0 rfl rfl ?_
  refine Vw_sld C0 hX hbl hbA rfl (hin 1 (by omega)) ?_
  refine Vw_s C0 rfl rfl ?_
  refine Vw_s C0 rfl rfl ?_
  refine Vw_s C0 rfl rfl ?_
  refine Vw_s C0 rfl rfl ?_
  refine Vw_sld C0 hX hbl hbA rfl (hin 2 (by omega)) ?_
  refine Vw_s C0 rfl rfl ?_
  refine Vw_callH (wr := Wd slM cA ad2 g) C0 hml hA hst hnc ⟨hce, hsl⟩ rfl cw_La_116 ⟨Nat.le_of_ble_eq_true rfl, Nat.le_of_ble_eq_true rfl⟩ (avs := [.ref (ad 0), .int _, .int _, .ref o]) rfl (h_step _ _ (c_TO_step hfl hV hrv _ _) (by rintro r h' ⟨-, -, m, j, -, -, -, rfl, -⟩ <;> exact ⟨_, rfl⟩) (by rintro E h' ⟨-, ⟨-, rfl⟩ | ⟨-, ⟨-, rfl⟩ | ⟨-, -, rfl⟩⟩⟩ <;> decide)) (rs := []) (Nat.zero_le _) (fun rc h' f' hres => ?_)
  refine Vw_s C0 rfl rfl ?_
  refine Vw_s C0 rfl rfl ?_
  refine Vw_s C0 rfl rfl ?_
  refine Vw_s C0 rfl rfl ?_
  refine Vw_s C0 rfl rfl ?_
  refine Vw_s C0 rfl rfl ?_
  refine Vw_sld C0 hX hbl hbA rfl (hin 1 (by omega)) ?_
  refine Vw_s C0 rfl rfl ?_
  refine Vw_s C0 rfl rfl ?_
  refine Vw_s C0 rfl rfl ?_
  refine Vw_s C0 rfl rfl ?_
  refine Vw_sld C0 hX hbl hbA rfl (hin 2 (by omega)) ?_
  refine Vw_swap (a := []) (b := Wd slM cA ad2 g) (c0 := WH cA ad o f' h') ?_
  refine Vw_callV (wr := [] ++ WH cA ad o f' h') C0 hml hA hSU trivial ⟨hce, hsl⟩ rfl cw_La_118 ⟨rfl, rfl, Nat.le_of_ble_eq_true rfl, Nat.le_of_ble_eq_true rfl⟩ (b := 0) (ci := 9) rfl rfl (As := [.int _, .int _]) rfl (c_Mo_step hSU hMd.1 od1 od2 od3 _ _) (rs := []) (Nat.zero_le _) (fun r' g' hg => ?_)
  have hop := op_step hR od1 od2 od3 hg
  obtain ⟨v', rfl, hc0, hR', hf'⟩ := agr_of hop.1 hop.2 (by rintro E h' ⟨-, ⟨-, rfl⟩ | ⟨-, ⟨-, rfl⟩ | ⟨-, -, rfl⟩⟩⟩ <;> decide) hres
  refine Vw_swap (a := []) (b := WH cA ad o f' h') (c0 := Wd slM cA ad2 g') ?_
  refine Vw_s C0 rfl rfl ?_
  refine Vw_s C0 rfl rfl ?_
  refine Vw_swap (a := []) (b := Wd slM cA ad2 g') (c0 := WH cA ad o f' h') ?_
  refine Vw_callV (wr := [] ++ WH cA ad o f' h') C0 hml hA hSU trivial ⟨hce, hsl⟩ rfl cw_La_87 ⟨rfl, rfl, Nat.le_of_ble_eq_true rfl, Nat.le_of_ble_eq_true rfl⟩ (b := 0) (ci := 9) rfl rfl (As := []) rfl (c_Mo_thrown hSU g') (rs := []) (Nat.zero_le _) (fun r2 g2 hg2 => ?_)
  obtain ⟨rfl, rfl⟩ := hg2
  refine Vw_swap (a := []) (b := WH cA ad o f' h') (c0 := Wd slM cA ad2 g2) ?_
  refine Vw_s C0 rfl rfl ?_
  refine Vw_br C0 rfl rfl (fun _ => ?_) (fun c1 => absurd hc0 c1)
  refine Vw_s C0 rfl rfl ?_
  refine Vw_br C0 rfl rfl (fun c2 => ?_) (fun c2 => ?_)
  · refine Vw_go C0 rfl ?_
    exact kk _ _ _ _ _ hR'
  · have hf1 := hf' c2
    refine Vw_s C0 rfl rfl ?_
    refine Vw_s C0 rfl rfl ?_
    refine Vw_lald C0 (q0 := 14) (i := 0) rfl rfl (by omega) (by omega) ?_
    rw [hf1]
    refine Vw_s C0 rfl rfl ?_
    refine Vw_s C0 rfl rfl ?_
    refine Vw_s C0 rfl rfl ?_
    refine Vw_br C0 rfl rfl (fun _ => ?_) (fun c3 => absurd (cmp_eq.mpr rfl) c3)
    refine Vw_go C0 rfl ?_
    exact kk _ _ _ _ _ hR'
set_option maxRecDepth 20000 in
set_option maxHeartbeats 4000000 in
theorem k_apart {p : Program} {l : Launch} {e : Env} {s : State} {m : MethodId} {args : Array Value} {below : List Frame} {meth : Method} {c : Code} {cells slots : Nat} {D : va_G} {cA : Nat → ClassId} {ad ad2 : Nat → Nat} {A : Nat → Prop} {Q : State → Prop} {b o L t : Nat} {xs : Nat → Int32} {h g : Hp} {f : Nat → Int64} {o5 o6 : Option Value} (C0 : Cx p s m args c code "TogetherOrdersLaw" wg 7 T_La_8 D cls cA) (hfl : l.flags = flags0) (hml : c.maxLocals = 7) (hA : ∀ q, s.heap.size ≤ q → A q) (hst : StX ad A s s.heap) (hnc : NC s) (hX : va_X b L xs s s.heap) (hbl : b < s.heap.size) (hbA : ¬ A b) (hin : ∀ j, j < 12 → vp_in (nI (12 * t) + nI j) L) (hce : cells + 1 ≤ 601024) (hsl : slots + 6 ≤ 7293034) (hRl : Rl h g)
    (kk : ∀ h' g' f' o5 o6, Rl h' g' → Vw p l e room_1 s m args below meth c 7 D cls A Q (cells + 1) (slots + 6) (Wd slM cA ad2 g' ++ WH cA ad o f' h') 1669 [some (.ref b), some (.ref (ad 0)), some (.ref (ad2 0)), some (.ref o), some (.int (nI (12 * t))), o5, o6] []) : Vw p l e room_1 s m args below meth c 7 D cls A Q cells slots (Wd slM cA ad2 g ++ WH cA ad o f h) 1027 [some (.ref b), some (.ref (ad 0)), some (.ref (ad2 0)), some (.ref o), some (.int (nI (12 * t))), o5, o6] [] := by
  obtain ⟨n, it, nb, own, ns, ng, ga, gb, hR⟩ := hRl
  obtain ⟨hV, hMd, hid, hN, hSE, hGl, hRn⟩ := id hR
  have hrv := hR.rv
  obtain ⟨M, tk, B, od1, od2, od3, od4, od5⟩ := hRn.2
  refine Vw_s C0 rfl rfl ?_
  refine Vw_s C0 rfl rfl ?_
  refine Vw_s C0 rfl rfl ?_
  refine Vw_s C0 rfl rfl ?_
  refine Vw_s C0 rfl rfl ?_
  refine Vw_sld C0 hX hbl hbA rfl (hin 1 (by omega)) ?_
  refine Vw_s C0 rfl rfl ?_
  refine Vw_callH (wr := Wd slM cA ad2 g) C0 hml hA hst hnc ⟨hce, hsl⟩ rfl cw_La_119 ⟨Nat.le_of_ble_eq_true rfl, Nat.le_of_ble_eq_true rfl⟩ (avs := [.ref (ad 0), .int _, .ref o]) rfl (h_apart _ (c_TO_apart hfl hrv _) (by rintro r h' ⟨-, m, j, -, -, -, rfl, -⟩ <;> exact ⟨_, rfl⟩) (by rintro E h' ⟨-, ⟨-, rfl⟩ | ⟨-, -, rfl⟩⟩ <;> decide)) (rs := []) (Nat.zero_le _) (fun rc h' f' hres => ?_)
  refine Vw_s C0 rfl rfl ?_
  refine Vw_s C0 rfl rfl ?_
  refine Vw_s C0 rfl rfl ?_
  refine Vw_s C0 rfl rfl ?_
  refine Vw_s C0 rfl rfl ?_
  refine Vw_s C0 rfl rfl ?_
  refine Vw_sld C0 hX hbl hbA rfl (hin 1 (by omega)) ?_
  refine Vw_swap (a := []) (b := Wd slM cA ad2 g) (c0 := WH cA ad o f' h') ?_
  refine Vw_callV (wr := [] ++ WH cA ad o f' h') C0 hml hA hSU trivial ⟨hce, hsl⟩ rfl cw_La_122 ⟨rfl, rfl, Nat.le_of_ble_eq_true rfl, Nat.le_of_ble_eq_true rfl⟩ (b := 0) (ci := 9) rfl rfl (As := [.int _]) rfl (c_Mo_apart hSU od1 od2 _) (rs := []) (Nat.zero_le _) (fun r' g' hg => ?_)
  have hop := op_apart hR od1 od2 hg
  obtain ⟨v', rfl, hc0, hR', hf'⟩ := agr_of hop.1 hop.2 (by rintro E h' ⟨-, ⟨-, rfl⟩ | ⟨-, -, rfl⟩⟩ <;> decide) hres
  refine Vw_swap (a := []) (b := WH cA ad o f' h') (c0 := Wd slM cA ad2 g') ?_
  refine Vw_s C0 rfl rfl ?_
  refine Vw_s C0 rfl rfl ?_
  refine Vw_swap (a := []) (b := Wd slM cA ad2 g') (c0 := WH cA ad o f' h') ?_
  refine Vw_callV (wr := [] ++ WH cA ad o f' h') C0 hml hA hSU trivial ⟨hce, hsl⟩ rfl cw_La_87 ⟨rfl, rfl, Nat.le_of_ble_eq_true rfl, Nat.le_of_ble_eq_true rfl⟩ (b := 0) (ci := 9) rfl rfl (As := []) rfl (c_Mo_thrown hSU g') (rs := []) (Nat.zero_le _) (fun r2 g2 hg2 => ?_)
  obtain ⟨rfl, rfl⟩ := hg2
  refine Vw_swap (a := []) (b := WH cA ad o f' h') (c0 := Wd slM cA ad2 g2) ?_
  refine Vw_s C0 rfl rfl ?_
  refine Vw_br C0 rfl rfl (fun _ => ?_) (fun c1 => absurd hc0 c1)
  refine Vw_s C0 rfl rfl ?_
  refine Vw_br C0 rfl rfl (fun c2 => ?_) (fun c2 => ?_)
  · refine Vw_go C0 rfl ?_
    exact kk _ _ _ _ _ hR'
  · have hf1 := hf' c2
    refine Vw_s C0 rfl rfl ?_
    refine Vw_s C0 rfl rfl ?_
    refine Vw_lald C0 (q0 := 14) (i := 0) rfl rfl (by omega) (by omega) ?_
    rw [hf1]
    refine Vw_s C0 rfl rfl ?_
    refine Vw_s C0 rfl rfl ?_
    refine Vw_s C0 rfl rfl ?_
    refine Vw_br C0 rfl rfl (fun _ => ?_) (fun c3 => absurd (cmp_eq.mpr rfl) c3)
    refine Vw_go C0 rfl ?_
    exact kk _ _ _ _ _ hR'
set_option maxRecDepth 20000 in
set_option maxHeartbeats 4000000 in
theorem k_locked {p : Program} {l : Launch} {e : Env} {s : State} {m : MethodId} {args : Array Value} {below : List Frame} {meth : Method} {c : Code} {cells slots : Nat} {D : va_G} {cA : Nat → ClassId} {ad ad2 : Nat → Nat} {A : Nat → Prop} {Q : State → Prop} {b o L t : Nat} {xs : Nat → Int32} {h g : Hp} {f : Nat → Int64} {o5 o6 : Option Value} (C0 : Cx p s m args c code "TogetherOrdersLaw" wg 7 T_La_9 D cls cA) (hfl : l.flags = flags0) (hml : c.maxLocals = 7) (hA : ∀ q, s.heap.size ≤ q → A q) (hst : StX ad A s s.heap) (hnc : NC s) (hX : va_X b L xs s s.heap) (hbl : b < s.heap.size) (hbA : ¬ A b) (hin : ∀ j, j < 12 → vp_in (nI (12 * t) + nI j) L) (hce : cells + 1 ≤ 601024) (hsl : slots + 6 ≤ 7293034) (hRl : Rl h g)
    (kk : ∀ h' g' f' o5 o6, Rl h' g' → Vw p l e room_1 s m args below meth c 7 D cls A Q (cells + 1) (slots + 6) (Wd slM cA ad2 g' ++ WH cA ad o f' h') 1669 [some (.ref b), some (.ref (ad 0)), some (.ref (ad2 0)), some (.ref o), some (.int (nI (12 * t))), o5, o6] []) : Vw p l e room_1 s m args below meth c 7 D cls A Q cells slots (Wd slM cA ad2 g ++ WH cA ad o f h) 1083 [some (.ref b), some (.ref (ad 0)), some (.ref (ad2 0)), some (.ref o), some (.int (nI (12 * t))), o5, o6] [] := by
  obtain ⟨n, it, nb, own, ns, ng, ga, gb, hR⟩ := hRl
  obtain ⟨hV, hMd, hid, hN, hSE, hGl, hRn⟩ := id hR
  have hrv := hR.rv
  obtain ⟨M, tk, B, od1, od2, od3, od4, od5⟩ := hRn.2
  refine Vw_s C0 rfl rfl ?_
  refine Vw_s C0 rfl rfl ?_
  refine Vw_s C0 rfl rfl ?_
  refine Vw_s C0 rfl rfl ?_
  refine Vw_s C0 rfl rfl ?_
  refine Vw_sld C0 hX hbl hbA rfl (hin 1 (by omega)) ?_
  refine Vw_s C0 rfl rfl ?_
  refine Vw_callH (wr := Wd slM cA ad2 g) C0 hml hA hst hnc ⟨hce, hsl⟩ rfl cw_La_123 ⟨Nat.le_of_ble_eq_true rfl, Nat.le_of_ble_eq_true rfl⟩ (avs := [.ref (ad 0), .int _, .ref o]) rfl (h_locked _ (c_TO_locked hfl hV hrv _) (by rintro r h' ⟨-, m, -, -, rfl, -⟩ <;> exact ⟨_, rfl⟩) (by rintro E h' ⟨-, ⟨-, rfl⟩ | ⟨-, -, rfl⟩⟩ <;> decide)) (rs := []) (Nat.zero_le _) (fun rc h' f' hres => ?_)
  refine Vw_s C0 rfl rfl ?_
  refine Vw_s C0 rfl rfl ?_
  refine Vw_s C0 rfl rfl ?_
  refine Vw_s C0 rfl rfl ?_
  refine Vw_s C0 rfl rfl ?_
  refine Vw_s C0 rfl rfl ?_
  refine Vw_sld C0 hX hbl hbA rfl (hin 1 (by omega)) ?_
  refine Vw_swap (a := []) (b := Wd slM cA ad2 g) (c0 := WH cA ad o f' h') ?_
  refine Vw_callV (wr := [] ++ WH cA ad o f' h') C0 hml hA hSU trivial ⟨hce, hsl⟩ rfl cw_La_125 ⟨rfl, rfl, Nat.le_of_ble_eq_true rfl, Nat.le_of_ble_eq_true rfl⟩ (b := 0) (ci := 9) rfl rfl (As := [.int _]) rfl (c_Mo_locked hSU hMd.1 od4 od5 _) (rs := []) (Nat.zero_le _) (fun r' g' hg => ?_)
  have hop := op_locked hR od4 od5 hg
  obtain ⟨v', rfl, hc0, hR', hf'⟩ := agr_of hop.1 hop.2 (by rintro E h' ⟨-, ⟨-, rfl⟩ | ⟨-, -, rfl⟩⟩ <;> decide) hres
  refine Vw_swap (a := []) (b := WH cA ad o f' h') (c0 := Wd slM cA ad2 g') ?_
  refine Vw_s C0 rfl rfl ?_
  refine Vw_s C0 rfl rfl ?_
  refine Vw_swap (a := []) (b := Wd slM cA ad2 g') (c0 := WH cA ad o f' h') ?_
  refine Vw_callV (wr := [] ++ WH cA ad o f' h') C0 hml hA hSU trivial ⟨hce, hsl⟩ rfl cw_La_87 ⟨rfl, rfl, Nat.le_of_ble_eq_true rfl, Nat.le_of_ble_eq_true rfl⟩ (b := 0) (ci := 9) rfl rfl (As := []) rfl (c_Mo_thrown hSU g') (rs := []) (Nat.zero_le _) (fun r2 g2 hg2 => ?_)
  obtain ⟨rfl, rfl⟩ := hg2
  refine Vw_swap (a := []) (b := WH cA ad o f' h') (c0 := Wd slM cA ad2 g2) ?_
  refine Vw_s C0 rfl rfl ?_
  refine Vw_br C0 rfl rfl (fun _ => ?_) (fun c1 => absurd hc0 c1)
  refine Vw_s C0 rfl rfl ?_
  refine Vw_br C0 rfl rfl (fun c2 => ?_) (fun c2 => ?_)
  · refine Vw_go C0 rfl ?_
    exact kk _ _ _ _ _ hR'
  · have hf1 := hf' c2
    refine Vw_s C0 rfl rfl ?_
    refine Vw_s C0 rfl rfl ?_
    refine Vw_lald C0 (q0 := 14) (i := 0) rfl rfl (by omega) (by omega) ?_
    rw [hf1]
    refine Vw_s C0 rfl rfl ?_
    refine Vw_s C0 rfl rfl ?_
    refine Vw_s C0 rfl rfl ?_
    refine Vw_br C0 rfl rfl (fun _ => ?_) (fun c3 => absurd (cmp_eq.mpr rfl) c3)
    refine Vw_go C0 rfl ?_
    exact kk _ _ _ _ _ hR'
set_option maxRecDepth 20000 in
set_option maxHeartbeats 4000000 in
theorem k_stage {p : Program} {l : Launch} {e : Env} {s : State} {m : MethodId} {args : Array Value} {below : List Frame} {meth : Method} {c : Code} {cells slots : Nat} {D : va_G} {cA : Nat → ClassId} {ad ad2 : Nat → Nat} {A : Nat → Prop} {Q : State → Prop} {b o L t : Nat} {xs : Nat → Int32} {h g : Hp} {f : Nat → Int64} {o5 o6 : Option Value} (C0 : Cx p s m args c code "TogetherOrdersLaw" wg 7 T_La_10 D cls cA) (hfl : l.flags = flags0) (hml : c.maxLocals = 7) (hA : ∀ q, s.heap.size ≤ q → A q) (hst : StX ad A s s.heap) (hnc : NC s) (hX : va_X b L xs s s.heap) (hbl : b < s.heap.size) (hbA : ¬ A b) (hin : ∀ j, j < 12 → vp_in (nI (12 * t) + nI j) L) (hce : cells + 1 ≤ 601024) (hsl : slots + 6 ≤ 7293034) (hRl : Rl h g)
    (kk : ∀ h' g' f' o5 o6, Rl h' g' → Vw p l e room_1 s m args below meth c 7 D cls A Q (cells + 1) (slots + 6) (Wd slM cA ad2 g' ++ WH cA ad o f' h') 1669 [some (.ref b), some (.ref (ad 0)), some (.ref (ad2 0)), some (.ref o), some (.int (nI (12 * t))), o5, o6] []) : Vw p l e room_1 s m args below meth c 7 D cls A Q cells slots (Wd slM cA ad2 g ++ WH cA ad o f h) 1139 [some (.ref b), some (.ref (ad 0)), some (.ref (ad2 0)), some (.ref o), some (.int (nI (12 * t))), o5, o6] [] := by
  obtain ⟨n, it, nb, own, ns, ng, ga, gb, hR⟩ := hRl
  obtain ⟨hV, hMd, hid, hN, hSE, hGl, hRn⟩ := id hR
  have hrv := hR.rv
  obtain ⟨M, tk, B, od1, od2, od3, od4, od5⟩ := hRn.2
  refine Vw_s C0 rfl rfl ?_
  refine Vw_s C0 rfl rfl ?_
  refine Vw_s C0 rfl rfl ?_
  refine Vw_s C0 rfl rfl ?_
  refine Vw_s C0 rfl rfl ?_
  refine Vw_sld C0 hX hbl hbA rfl (hin 1 (by omega)) ?_
  refine Vw_s C0 rfl rfl ?_
  refine Vw_callH (wr := Wd slM cA ad2 g) C0 hml hA hst hnc ⟨hce, hsl⟩ rfl cw_La_126 ⟨Nat.le_of_ble_eq_true rfl, Nat.le_of_ble_eq_true rfl⟩ (avs := [.ref (ad 0), .int _, .ref o]) rfl (h_stage _ (c_TO_stage hfl hrv _) (by rintro r h' ⟨-, m, -, rfl, -⟩ <;> exact ⟨_, rfl⟩) (by rintro E h' ⟨-, ⟨-, rfl⟩ | ⟨-, -, rfl⟩⟩ <;> decide)) (rs := []) (Nat.zero_le _) (fun rc h' f' hres => ?_)
  refine Vw_s C0 rfl rfl ?_
  refine Vw_s C0 rfl rfl ?_
  refine Vw_s C0 rfl rfl ?_
  refine Vw_s C0 rfl rfl ?_
  refine Vw_s C0 rfl rfl ?_
  refine Vw_s C0 rfl rfl ?_
  refine Vw_sld C0 hX hbl hbA rfl (hin 1 (by omega)) ?_
  refine Vw_swap (a := []) (b := Wd slM cA ad2 g) (c0 := WH cA ad o f' h') ?_
  refine Vw_callV (wr := [] ++ WH cA ad o f' h') C0 hml hA hSU trivial ⟨hce, hsl⟩ rfl cw_La_128 ⟨rfl, rfl, Nat.le_of_ble_eq_true rfl, Nat.le_of_ble_eq_true rfl⟩ (b := 0) (ci := 9) rfl rfl (As := [.int _]) rfl (c_Mo_stage hSU od1 od2 _) (rs := []) (Nat.zero_le _) (fun r' g' hg => ?_)
  have hop := op_stage hR od1 od2 hg
  obtain ⟨v', rfl, hc0, hR', hf'⟩ := agr_of hop.1 hop.2 (by rintro E h' ⟨-, ⟨-, rfl⟩ | ⟨-, -, rfl⟩⟩ <;> decide) hres
  refine Vw_swap (a := []) (b := WH cA ad o f' h') (c0 := Wd slM cA ad2 g') ?_
  refine Vw_s C0 rfl rfl ?_
  refine Vw_s C0 rfl rfl ?_
  refine Vw_swap (a := []) (b := Wd slM cA ad2 g') (c0 := WH cA ad o f' h') ?_
  refine Vw_callV (wr := [] ++ WH cA ad o f' h') C0 hml hA hSU trivial ⟨hce, hsl⟩ rfl cw_La_87 ⟨rfl, rfl, Nat.le_of_ble_eq_true rfl, Nat.le_of_ble_eq_true rfl⟩ (b := 0) (ci := 9) rfl rfl (As := []) rfl (c_Mo_thrown hSU g') (rs := []) (Nat.zero_le _) (fun r2 g2 hg2 => ?_)
  obtain ⟨rfl, rfl⟩ := hg2
  refine Vw_swap (a := []) (b := WH cA ad o f' h') (c0 := Wd slM cA ad2 g2) ?_
  refine Vw_s C0 rfl rfl ?_
  refine Vw_br C0 rfl rfl (fun _ => ?_) (fun c1 => absurd hc0 c1)
  refine Vw_s C0 rfl rfl ?_
  refine Vw_br C0 rfl rfl (fun c2 => ?_) (fun c2 => ?_)
  · refine Vw_go C0 rfl ?_
    exact kk _ _ _ _ _ hR'
  · have hf1 := hf' c2
    refine Vw_s C0 rfl rfl ?_
    refine Vw_s C0 rfl rfl ?_
    refine Vw_lald C0 (q0 := 14) (i := 0) rfl rfl (by omega) (by omega) ?_
    rw [hf1]
    refine Vw_s C0 rfl rfl ?_
    refine Vw_s C0 rfl rfl ?_
    refine Vw_s C0 rfl rfl ?_
    refine Vw_br C0 rfl rfl (fun _ => ?_) (fun c3 => absurd (cmp_eq.mpr rfl) c3)
    refine Vw_go C0 rfl ?_
    exact kk _ _ _ _ _ hR'
end LWB
