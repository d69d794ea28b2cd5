/-! Sets: bits of longs, and the set of reached sets -/
section SeC
variable {l : Launch} {D : va_G} {cA : Nat → ClassId} {ad : Nat → Nat} {St : (Nat → Prop) → State → Heap → Prop}
theorem sm64 : ∀ k, k < 64 → ((nI k).toInt64 &&& 63).toBitVec.smod 64 = BitVec.ofNat 64 k := by decide +kernel
theorem i64_ext {x y : Int64} (h : x.toBitVec = y.toBitVec) : x = y := Int64.toBitVec_inj.mp h
theorem lbit_bv {x : Int64} {q : Nat} (hq : q < 64) : lbit x q = x.toBitVec.getLsbD q := by
  have h1 : (x >>> ((nI q).toInt64 &&& 63)).toBitVec = x.toBitVec.sshiftRight q := by
    rw [Int64.toBitVec_shiftRight, sm64 q hq, BitVec.sshiftRight_eq', BitVec.toNat_ofNat, Nat.mod_eq_of_lt (by omega)]
  have h2 : (x >>> ((nI q).toInt64 &&& 63) &&& 1 = 1) ↔ (x.toBitVec.sshiftRight q).getLsbD 0 = true := by
    rw [← h1]
    generalize x >>> ((nI q).toInt64 &&& 63) = y
    constructor
    · intro e
      have e1 := congrArg (fun z : Int64 => z.toBitVec.getLsbD 0) e
      simpa [Int64.toBitVec_and] using e1
    · intro e
      apply i64_ext
      rw [Int64.toBitVec_and]
      apply BitVec.eq_of_getLsbD_eq
      intro i hi
      by_cases i0 : i = 0
      · subst i0
        simp [e]
      · have : ((1 : Int64).toBitVec).getLsbD i = false := by
          show (BitVec.ofNat 64 1).getLsbD i = false
          rw [BitVec.getLsbD_ofNat, show Nat.testBit 1 i = false by rw [show (1 : Nat) = 2 ^ 0 from rfl, Nat.testBit_two_pow]; simp; omega, Bool.and_false]
        rw [BitVec.getLsbD_and, this, Bool.and_false]
  rw [Bool.eq_iff_iff, show lbit x q = decide (x >>> ((nI q).toInt64 &&& 63) &&& 1 = 1) from rfl, decide_eq_true_iff, h2, BitVec.getLsbD_sshiftRight]
  simp [hq]
theorem one_shl64 {q : Nat} (hq : q < 64) : ((1 : Int64) <<< ((nI q).toInt64 &&& 63)).toBitVec = BitVec.twoPow 64 q := by
  rw [Int64.toBitVec_shiftLeft, sm64 q hq]
  apply BitVec.eq_of_getLsbD_eq
  intro i hi
  rw [BitVec.getLsbD_twoPow]
  simp only [BitVec.shiftLeft_eq', BitVec.toNat_ofNat, Nat.mod_eq_of_lt (show q < 2 ^ 64 by omega), BitVec.getLsbD_shiftLeft]
  show (decide (i < 64) && !decide (i < q) && (BitVec.ofNat 64 1).getLsbD (i - q)) = _
  rw [BitVec.getLsbD_ofNat]
  by_cases e : i = q
  · subst e; simp [hi]
  · by_cases e2 : i < q
    · simp [e2, show ¬ q = i by omega]
    · have : Nat.testBit 1 (i - q) = false := by
        rw [show (1 : Nat) = 2 ^ 0 from rfl, Nat.testBit_two_pow]
        simp; omega
      simp [this, show ¬ q = i by omega]
theorem lbit_or {x : Int64} {q r : Nat} (hq : q < 64) (hr : r < 64) : lbit (x ||| (1 : Int64) <<< ((nI q).toInt64 &&& 63)) r = (lbit x r || decide (r = q)) := by
  rw [lbit_bv hr, lbit_bv hr, Int64.toBitVec_or, BitVec.getLsbD_or, one_shl64 hq, BitVec.getLsbD_twoPow]
  by_cases e : r = q
  · subst e; simp [hr]
  · simp [e, Ne.symm e]
theorem lbit_clr {x : Int64} {q r : Nat} (hq : q < 64) (hr : r < 64) : lbit (x &&& ((1 : Int64) <<< ((nI q).toInt64 &&& 63) ^^^ (-1))) r = (lbit x r && !decide (r = q)) := by
  rw [lbit_bv hr, lbit_bv hr, Int64.toBitVec_and, BitVec.getLsbD_and, Int64.toBitVec_xor, BitVec.getLsbD_xor, one_shl64 hq, BitVec.getLsbD_twoPow]
  have h1 : ((-1 : Int64).toBitVec).getLsbD r = true := by
    have : (-1 : Int64).toBitVec = BitVec.allOnes 64 := by decide
    rw [this, BitVec.getLsbD_allOnes]
    simp [hr]
  rw [h1]
  by_cases e : r = q
  · subst e; simp [hr]
  · simp [e, Ne.symm e]
/-- a set is marked -/
def rB (h : Hp) (S : Nat) : Bool := lbit (h.2 23 (S / 64)) (S % 64)
def rch (h : Hp) (S : Nat) : Hp := upL h 23 (S / 64) (h.2 23 (S / 64) ||| (1 : Int64) <<< ((nI (S % 64)).toInt64 &&& 63))
theorem upL_eq (h : Hp) (k j : Nat) (v : Int64) : (upL h k j v).2 k j = v := by simp [upL, va_up_self, vp_updL]
theorem upL_ne (h : Hp) (k j : Nat) (v : Int64) {q : Nat} (e : q ≠ j) : (upL h k j v).2 k q = h.2 k q := by simp [upL, va_up_self, vp_updL, e]
theorem rB_rch (h : Hp) (S Q : Nat) : rB (rch h S) Q = (rB h Q || decide (Q = S)) := by
  unfold rB rch
  by_cases e : Q / 64 = S / 64
  · rw [e, upL_eq, lbit_or (Nat.mod_lt _ (by omega)) (Nat.mod_lt _ (by omega))]
    congr 1
    by_cases e2 : Q % 64 = S % 64
    · have : Q = S := by omega
      simp [e2, this]
    · have : Q ≠ S := fun z => e2 (by rw [z])
      simp [e2, this]
  · rw [upL_ne _ _ _ _ e]
    have : Q ≠ S := fun z => e (by rw [z])
    simp [this]
theorem wd6 {S : Nat} (hS : S < 4096) : nI S >>> ((6 : Int32) &&& 31) = nI (S / 64) := shr_n (i := 6) (by omega) (by omega)
theorem md6 {S : Nat} (hS : S < 4096) : nI S &&& 63 = nI (S % 64) := pk_andN (by omega) 6 (by decide)
theorem c_Se_isReached (hSt : StOk St) (h : Hp) (S : Nat) (hS : S < 4096) : Ct l y_Se_isReached prog_7_method_3_code 3 (some .boolean) (rmD 1) D cls cA slC St ad [.ref 7, .int (nI S)] h (fun r h' => r = some (.int (if rB h S then 1 else 0)) ∧ h' = h) := by
  refine Ct.of (tl := T_Se_isReached) (by decide) tk_Se_isReached cls_ok hSt (Nat.le_of_ble_eq_true rfl) (fun V G E C => ?_)
  repeat (first | refine G.sx (fun q => Nat.beq q 4) rfl rfl rfl ?_ | refine G.gox (fun q => Nat.beq q 4) rfl rfl rfl ?_ | refine G.getx (fun q => Nat.beq q 4) rfl rfl rfl rfl ?_)
  show V 4 _ [.int (nI S >>> ((6 : Int32) &&& 31))] _
  rw [wd6 hS]
  repeat (first | refine G.sx (fun _ => false) rfl rfl rfl ?_ | refine G.gox (fun _ => false) rfl rfl rfl ?_ | refine G.getx (fun _ => false) rfl rfl rfl rfl ?_)
  refine G.br rfl rfl (fun c1 => absurd c1 (nI_pos (by omega))) (fun _ => ?_)
  repeat (first | refine G.sx (fun _ => false) rfl rfl rfl ?_ | refine G.gox (fun _ => false) rfl rfl rfl ?_ | refine G.getx (fun _ => false) rfl rfl rfl rfl ?_)
  refine G.br rfl rfl (fun c1 => absurd c1 (nI_ge (b := 64) (by omega) (by omega))) (fun _ => ?_)
  repeat (first | refine G.sx (fun _ => false) rfl rfl rfl ?_ | refine G.gox (fun _ => false) rfl rfl rfl ?_ | refine G.getx (fun _ => false) rfl rfl rfl rfl ?_)
  refine G.laln rfl rfl (by omega) (by decide) ?_
  repeat (first | refine G.sx (fun q => Nat.beq q 25) rfl rfl rfl ?_ | refine G.gox (fun q => Nat.beq q 25) rfl rfl rfl ?_ | refine G.getx (fun q => Nat.beq q 25) rfl rfl rfl rfl ?_)
  show V 25 _ [.int (nI S &&& 63), .long (h.2 23 (S / 64))] _
  rw [md6 hS]
  repeat (first | refine G.sx (fun _ => false) rfl rfl rfl ?_ | refine G.gox (fun _ => false) rfl rfl rfl ?_ | refine G.getx (fun _ => false) rfl rfl rfl rfl ?_)
  refine G.br rfl rfl (fun c1 => ?_) (fun c1 => ?_)
  · repeat (first | refine G.sx (fun _ => false) rfl rfl rfl ?_ | refine G.gox (fun _ => false) rfl rfl rfl ?_ | refine G.getx (fun _ => false) rfl rfl rfl rfl ?_)
    refine E.ri rfl (Or.inr ⟨rfl, Or.inl rfl⟩) ⟨?_, rfl⟩
    rw [if_neg]
    unfold rB lbit
    rw [decide_eq_true_iff]
    exact fun q => c1 (cmp_eq.mpr q)
  · repeat (first | refine G.sx (fun _ => false) rfl rfl rfl ?_ | refine G.gox (fun _ => false) rfl rfl rfl ?_ | refine G.getx (fun _ => false) rfl rfl rfl rfl ?_)
    refine E.ri rfl (Or.inr ⟨rfl, Or.inr rfl⟩) ⟨?_, rfl⟩
    rw [if_pos]
    unfold rB lbit
    rw [decide_eq_true_iff]
    exact cmp_eq.mp c1
theorem c_Se_reach (hSt : StOk St) (h : Hp) (S : Nat) (hS : S < 4096) : Ct l y_Se_reach prog_7_method_4_code 3 none (rmD 1) D cls cA slC St ad [.ref 7, .int (nI S)] h (fun r h' => r = none ∧ h' = rch h S) := by
  refine Ct.of (tl := T_Se_reach) (by decide) tk_Se_reach cls_ok hSt (Nat.le_of_ble_eq_true rfl) (fun V G E C => ?_)
  repeat (first | refine G.sx (fun q => Nat.beq q 4) rfl rfl rfl ?_ | refine G.gox (fun q => Nat.beq q 4) rfl rfl rfl ?_ | refine G.getx (fun q => Nat.beq q 4) rfl rfl rfl rfl ?_)
  show V 4 _ [.int (nI S >>> ((6 : Int32) &&& 31))] _
  rw [wd6 hS]
  repeat (first | refine G.sx (fun _ => false) rfl rfl rfl ?_ | refine G.gox (fun _ => false) rfl rfl rfl ?_ | refine G.getx (fun _ => false) rfl rfl rfl rfl ?_)
  refine G.br rfl rfl (fun c1 => absurd c1 (nI_pos (by omega))) (fun _ => ?_)
  repeat (first | refine G.sx (fun _ => false) rfl rfl rfl ?_ | refine G.gox (fun _ => false) rfl rfl rfl ?_ | refine G.getx (fun _ => false) rfl rfl rfl rfl ?_)
  refine G.br rfl rfl (fun c1 => absurd c1 (nI_ge (b := 64) (by omega) (by omega))) (fun _ => ?_)
  repeat (first | refine G.sx (fun _ => false) rfl rfl rfl ?_ | refine G.gox (fun _ => false) rfl rfl rfl ?_ | refine G.getx (fun _ => false) rfl rfl rfl rfl ?_)
  refine G.laln rfl rfl (by omega) (by decide) ?_
  repeat (first | refine G.sx (fun q => Nat.beq q 27) rfl rfl rfl ?_ | refine G.gox (fun q => Nat.beq q 27) rfl rfl rfl ?_ | refine G.getx (fun q => Nat.beq q 27) rfl rfl rfl rfl ?_)
  show V 27 _ [.int (nI S &&& 63), .long 1, .long (h.2 23 (S / 64)), .int (nI (S / 64)), .ref 23] _
  rw [md6 hS]
  repeat (first | refine G.sx (fun _ => false) rfl rfl rfl ?_ | refine G.gox (fun _ => false) rfl rfl rfl ?_ | refine G.getx (fun _ => false) rfl rfl rfl rfl ?_)
  refine G.lasn rfl rfl (by omega) (by decide) ?_
  exact E.rv rfl rfl ⟨rfl, rfl⟩
theorem c_Se_forget (hSt : StOk St) (h : Hp) : Ct l y_Se_forget prog_7_method_2_code 1 none (rmD 1) D cls cA slC St ad [.ref 7] h (fun r h' => r = none ∧ h' = upI (upI h 7 5 0) 7 6 0) := by
  refine Ct.of (tl := T_Se_forget) (by decide) tk_Se_forget cls_ok hSt (Nat.le_of_ble_eq_true rfl) (fun V G E C => ?_)
  repeat (first | refine G.sx (fun _ => false) rfl rfl rfl ?_ | refine G.gox (fun _ => false) rfl rfl rfl ?_ | refine G.getx (fun _ => false) rfl rfl rfl rfl ?_)
  refine G.putz rfl rfl rfl (Or.inl rfl) ?_
  repeat (first | refine G.sx (fun _ => false) rfl rfl rfl ?_ | refine G.gox (fun _ => false) rfl rfl rfl ?_ | refine G.getx (fun _ => false) rfl rfl rfl rfl ?_)
  refine G.putz rfl rfl rfl (Or.inl rfl) ?_
  exact E.rv rfl rfl ⟨rfl, rfl⟩
theorem c_Sm_forget (hSt : StOk St) (h : Hp) : Ct l y_Sm_forget prog_8_method_2_code 1 none (rmD 1) D cls cA slC St ad [.ref 8] h (fun r h' => r = none ∧ h' = upI (upI h 8 4 (-1)) 8 5 (-1)) := by
  refine Ct.of (tl := T_Sm_forget) (by decide) tk_Sm_forget cls_ok hSt (Nat.le_of_ble_eq_true rfl) (fun V G E C => ?_)
  repeat (first | refine G.sx (fun _ => false) rfl rfl rfl ?_ | refine G.gox (fun _ => false) rfl rfl rfl ?_ | refine G.getx (fun _ => false) rfl rfl rfl rfl ?_)
  refine G.put rfl rfl rfl ?_
  repeat (first | refine G.sx (fun _ => false) rfl rfl rfl ?_ | refine G.gox (fun _ => false) rfl rfl rfl ?_ | refine G.getx (fun _ => false) rfl rfl rfl rfl ?_)
  refine G.put rfl rfl rfl ?_
  exact E.rv rfl rfl ⟨rfl, rfl⟩
end SeC
