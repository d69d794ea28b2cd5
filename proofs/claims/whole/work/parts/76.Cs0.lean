/-! THE LAW'S CASES (printed by wip/gen/mk76.py) -/
section LWB
def StU : (Nat → Prop) → State → Heap → Prop := fun _ _ _ => True
theorem hSU : StOk StU := ⟨⟨fun _ _ _ _ _ _ => trivial, fun _ _ _ _ _ _ => trivial⟩, fun _ _ _ _ _ _ => trivial, fun _ _ _ _ _ _ => trivial⟩
theorem RlD.rv {h g : Hp} {n : Nat} {it : Nat → Nat} {nb : Nat} {own : Nat → Nat} {ns ng : Nat} {ga gb : Nat → Nat} (hR : RlD h g n it nb own ns ng ga gb) : RunV h n it nb own (6 + ns) := by
  rcases hR.2.2.2.2.2.2.1 with ⟨a, b⟩ | ⟨a, b, c, -⟩
  · exact Or.inl a
  · exact Or.inr ⟨a, c⟩
set_option maxRecDepth 20000 in
set_option maxHeartbeats 4000000 in
theorem k_part {p : Program} {l : Launch} {e : Env} {s : State} {m : MethodId} {args : Array Value} {below : List Frame} {meth : Method} {c : Code} {cells slots : Nat} {D : va_G} {cA : Nat → ClassId} {ad ad2 : Nat → Nat} {A : Nat → Prop} {Q : State → Prop} {b o L t : Nat} {xs : Nat → Int32} {h g : Hp} {f : Nat → Int64} {o5 o6 : Option Value} (C0 : Cx p s m args c code "TogetherOrdersLaw" wg 7 T_La_0 D cls cA) (hfl : l.flags = flags0) (hml : c.maxLocals = 7) (hA : ∀ q, s.heap.size ≤ q → A q) (hst : StX ad A s s.heap) (hnc : NC s) (hX : va_X b L xs s s.heap) (hbl : b < s.heap.size) (hbA : ¬ A b) (hin : ∀ j, j < 12 → vp_in (nI (12 * t) + nI j) L) (hce : cells + 1 ≤ 601024) (hsl : slots + 6 ≤ 7293034) (hRl : Rl h g)
    (kk : ∀ h' g' f' o5 o6, Rl h' g' → Vw p l e room_1 s m args below meth c 7 D cls A Q (cells + 1) (slots + 6) (Wd slM cA ad2 g' ++ WH cA ad o f' h') 1669 [some (.ref b), some (.ref (ad 0)), some (.ref (ad2 0)), some (.ref o), some (.int (nI (12 * t))), o5, o6] []) : Vw p l e room_1 s m args below meth c 7 D cls A Q cells slots (Wd slM cA ad2 g ++ WH cA ad o f h) 128 [some (.ref b), some (.ref (ad 0)), some (.ref (ad2 0)), some (.ref o), some (.int (nI (12 * t))), o5, o6] [] := by
  obtain ⟨n, it, nb, own, ns, ng, ga, gb, hR⟩ := hRl
  obtain ⟨hV, hMd, hid, hN, hSE, hGl, hRn⟩ := id hR
  have hrv := hR.rv
  obtain ⟨M, tk, B, od1, od2, od3, od4, od5⟩ := hRn.2
  refine Vw_s C0 rfl rfl ?_
  refine Vw_s C0 rfl rfl ?_
  refine Vw_callH (wr := Wd slM cA ad2 g) C0 hml hA hst hnc ⟨hce, hsl⟩ rfl cw_La_81 ⟨Nat.le_of_ble_eq_true rfl, Nat.le_of_ble_eq_true rfl⟩ (avs := [.ref (ad 0), .ref o]) rfl (h_part (c_TO_part hfl hV.1.1.1 hV.1.1.2.1) (by rintro r h' ⟨-, rfl, -⟩ <;> exact ⟨_, rfl⟩) (by rintro E h' ⟨-, rfl, -⟩ <;> decide)) (rs := []) (Nat.zero_le _) (fun rc h' f' hres => ?_)
  refine Vw_s C0 rfl rfl ?_
  refine Vw_s C0 rfl rfl ?_
  refine Vw_swap (a := []) (b := Wd slM cA ad2 g) (c0 := WH cA ad o f' h') ?_
  refine Vw_callV (wr := [] ++ WH cA ad o f' h') C0 hml hA hSU trivial ⟨hce, hsl⟩ rfl cw_La_86 ⟨rfl, rfl, Nat.le_of_ble_eq_true rfl, Nat.le_of_ble_eq_true rfl⟩ (b := 0) (ci := 9) rfl rfl (As := []) rfl (c_Mo_part hSU hMd.1.1 hMd.1.2.1) (rs := []) (Nat.zero_le _) (fun r' g' hg => ?_)
  have hop := op_part hR hg
  obtain ⟨v', rfl, hc0, hR', hf'⟩ := agr_of hop.1 hop.2 (by rintro E h' ⟨-, rfl, -⟩ <;> decide) hres
  refine Vw_swap (a := []) (b := WH cA ad o f' h') (c0 := Wd slM cA ad2 g') ?_
  refine Vw_s C0 rfl rfl ?_
  refine Vw_s C0 rfl rfl ?_
  refine Vw_swap (a := []) (b := Wd slM cA ad2 g') (c0 := WH cA ad o f' h') ?_
  refine Vw_callV (wr := [] ++ WH cA ad o f' h') C0 hml hA hSU trivial ⟨hce, hsl⟩ rfl cw_La_87 ⟨rfl, rfl, Nat.le_of_ble_eq_true rfl, Nat.le_of_ble_eq_true rfl⟩ (b := 0) (ci := 9) rfl rfl (As := []) rfl (c_Mo_thrown hSU g') (rs := []) (Nat.zero_le _) (fun r2 g2 hg2 => ?_)
  obtain ⟨rfl, rfl⟩ := hg2
  refine Vw_swap (a := []) (b := WH cA ad o f' h') (c0 := Wd slM cA ad2 g2) ?_
  refine Vw_s C0 rfl rfl ?_
  refine Vw_br C0 rfl rfl (fun _ => ?_) (fun c1 => absurd hc0 c1)
  refine Vw_s C0 rfl rfl ?_
  refine Vw_br C0 rfl rfl (fun c2 => ?_) (fun c2 => ?_)
  · refine Vw_go C0 rfl ?_
    exact kk _ _ _ _ _ hR'
  · have hf1 := hf' c2
    refine Vw_s C0 rfl rfl ?_
    refine Vw_s C0 rfl rfl ?_
    refine Vw_lald C0 (q0 := 14) (i := 0) rfl rfl (by omega) (by omega) ?_
    rw [hf1]
    refine Vw_s C0 rfl rfl ?_
    refine Vw_s C0 rfl rfl ?_
    refine Vw_s C0 rfl rfl ?_
    refine Vw_br C0 rfl rfl (fun _ => ?_) (fun c3 => absurd (cmp_eq.mpr rfl) c3)
    refine Vw_go C0 rfl ?_
    exact kk _ _ _ _ _ hR'
end LWB
