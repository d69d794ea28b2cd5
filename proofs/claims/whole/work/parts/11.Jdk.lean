/-! The JDK's own methods: contracts, over any world -/
section JdC
variable {l : Launch} {D : va_G} {cA : Nat → ClassId} {ad : Nat → Nat} {St : (Nat → Prop) → State → Heap → Prop} {sl : List Sh}
theorem cmp_ge {x y : Int64} : 0 ≤ lg_cmp x y ↔ y ≤ x := by
  unfold lg_cmp
  by_cases h1 : y < x
  · simp only [h1, if_true]
    exact ⟨fun _ => Int64.le_of_lt h1, fun _ => by decide⟩
  · by_cases h2 : x = y
    · subst h2
      simp [Int64.le_refl]
    · simp only [h1, h2, if_false]
      refine ⟨fun q => absurd q (by decide), fun q => ?_⟩
      exfalso
      simp only [Int64.lt_iff_toInt_lt, Int64.le_iff_toInt_le] at h1 q
      exact h2 (Int64.toInt_inj.mp (by omega))
theorem cmp_gt {x y : Int64} : 0 < lg_cmp x y ↔ y < x := by
  unfold lg_cmp
  by_cases h1 : y < x
  · simp only [h1, if_true]
    exact ⟨fun _ => trivial, fun _ => by decide⟩
  · by_cases h2 : x = y
    · subst h2
      simp
    · simp only [h1, h2, if_false]
      exact ⟨fun q => absurd q (by decide), fun q => absurd q (by simp)⟩
theorem cmp_eq {x y : Int64} : lg_cmp x y = 0 ↔ x = y := by
  unfold lg_cmp
  by_cases h1 : y < x
  · simp only [h1, if_true]
    refine ⟨fun q => absurd q (by decide), fun q => ?_⟩
    subst q
    exact absurd h1 (by simp)
  · by_cases h2 : x = y
    · subst h2
      simp
    · simp only [h1, h2, if_false]
      exact ⟨fun q => absurd q (by decide), fun q => absurd q (by simp)⟩
theorem cmp_lt {x y : Int64} : lg_cmp x y < 0 ↔ x < y := by
  constructor
  · intro q
    by_cases h : y ≤ x
    · exact absurd (cmp_ge.mpr h) (Int32.not_le.mpr q)
    · exact Int64.not_le.mp h
  · intro q
    by_cases h : 0 ≤ lg_cmp x y
    · exact absurd (cmp_ge.mp h) (Int64.not_le.mpr q)
    · exact Int32.not_le.mp h
theorem cmp_le {x y : Int64} : lg_cmp x y ≤ 0 ↔ x ≤ y := by
  constructor
  · intro q
    by_cases h : y < x
    · exact absurd (cmp_gt.mpr h) (Int32.not_lt.mpr q)
    · exact Int64.not_lt.mp h
  · intro q
    by_cases h : 0 < lg_cmp x y
    · exact absurd (cmp_gt.mp h) (Int64.not_lt.mpr q)
    · exact Int32.not_lt.mp h
/-- how many bits below k -/
def pcN (B : Nat) : Nat → Nat
  | 0 => 0
  | k + 1 => if B.testBit k then pcN B k + 1 else pcN B k
def sru (x s : Int32) : Int32 := (x.toUInt32 >>> (s.toUInt32 &&& Int32.toUInt32 31)).toInt32
def bcF (x : Int32) : Int32 :=
  let a := x - (sru x 1 &&& 1431655765)
  let b := (a &&& 858993459) + (sru a 2 &&& 858993459)
  let c := (b + sru b 4) &&& 252645135
  let d := c + sru c 8
  let e := d + sru d 16
  e &&& 63
set_option maxRecDepth 100000 in
theorem bcF_all : (List.range 4096).all (fun B => decide (bcF (nI B) = nI (pcN B 12))) = true := by decide +kernel
theorem bcF_n {B : Nat} (hB : B < 4096) : bcF (nI B) = nI (pcN B 12) := by
  have h := List.all_eq_true.mp bcF_all B (List.mem_range.mpr hB)
  exact of_decide_eq_true h
theorem c_Ji_bitCount (hSt : StOk St) (h : Hp) (B : Nat) (hB : B < 4096) : Ct l y_Ji_bitCount prog_16_method_49_code 1 (some .int) (rmD 1) D cls cA sl St ad [.int (nI B)] h (fun r h' => r = some (.int (nI (pcN B 12))) ∧ h' = h) := by
  refine Ct.of (tl := T_Ji_bitCount) (by decide) tk_Ji_bitCount cls_ok hSt (Nat.le_of_ble_eq_true rfl) (fun V G E C => ?_)
  repeat (first | refine G.sx (fun _ => false) rfl rfl rfl ?_ | refine G.gox (fun _ => false) rfl rfl rfl ?_ | refine G.getx (fun _ => false) rfl rfl rfl rfl ?_)
  exact E.ri rfl (Or.inl rfl) ⟨by rw [← bcF_n hB]; rfl, rfl⟩
theorem c_Ja_fillI (hSt : StOk St) (h : Hp) {a N b : Nat} (ha : sl[a]? = some (.inr (N, 0, b))) (hN : N < 2 ^ 31) (v : Int32) : Ct l y_Ja_fillI prog_21_method_103_code 4 none (rmD 1) D cls cA sl St ad [.ref a, .int v] h (fun r h' => r = none ∧ h' = setI h a (fun j => if j < N then v else h.1 a j)) := by
  refine Ct.of (tl := T_Ja_fillI) (by decide) tk_Ja_fillI cls_ok hSt (Nat.le_of_ble_eq_true rfl) (fun V G E C => ?_)
  have L : ∀ i, i ≤ N → V 5 [some (.ref a), some (.int v), some (.int (nI i)), some (.int (nI N))] [] (setI h a (fun j => if j < i then v else h.1 a j)) := by
    refine loopUp N (fun i hi ih => ?_) ?_
    · repeat (first | refine G.sx (fun _ => false) rfl rfl rfl ?_ | refine G.gox (fun _ => false) rfl rfl rfl ?_ | refine G.getx (fun _ => false) rfl rfl rfl rfl ?_)
      refine G.br rfl rfl (fun c1 => absurd c1 (nI_ge hi (by omega))) (fun c1 => ?_)
      repeat (first | refine G.sx (fun _ => false) rfl rfl rfl ?_ | refine G.gox (fun _ => false) rfl rfl rfl ?_ | refine G.getx (fun _ => false) rfl rfl rfl rfl ?_)
      refine G.iasn rfl ha hi hN ?_
      repeat (first | refine G.sx (fun _ => false) rfl rfl rfl ?_ | refine G.gox (fun _ => false) rfl rfl rfl ?_ | refine G.getx (fun _ => false) rfl rfl rfl rfl ?_)
      refine G.go rfl ?_
      have e1 : upI (setI h a (fun j => if j < i then v else h.1 a j)) a i v = setI h a (fun j => if j < i + 1 then v else h.1 a j) := by
        rw [upI_setI]
        congr 1
        funext j
        unfold upd
        by_cases e : j = i
        · simp [e]
        · by_cases e2 : j < i
          · simp [e, e2, show j < i + 1 by omega]
          · simp [e, e2, show ¬ j < i + 1 by omega]
      rw [e1]
      rw [← nI_1] at ih
      exact ih
    · repeat (first | refine G.sx (fun _ => false) rfl rfl rfl ?_ | refine G.gox (fun _ => false) rfl rfl rfl ?_ | refine G.getx (fun _ => false) rfl rfl rfl rfl ?_)
      refine G.br rfl rfl (fun c1 => ?_) (fun c1 => absurd (nI_le (Nat.le_refl N) (by omega)) c1)
      exact E.rv rfl rfl ⟨rfl, rfl⟩
  have L0 := L 0 (Nat.zero_le _)
  have e0 : setI h a (fun j => if j < 0 then v else h.1 a j) = h := by simp [setI_id]
  rw [e0] at L0
  repeat (first | refine G.sx (fun _ => false) rfl rfl rfl ?_ | refine G.gox (fun _ => false) rfl rfl rfl ?_ | refine G.getx (fun _ => false) rfl rfl rfl rfl ?_)
  refine G.alen rfl ha (by decide) ?_
  repeat (first | refine G.sx (fun q => Nat.beq q 5) rfl rfl rfl ?_ | refine G.gox (fun q => Nat.beq q 5) rfl rfl rfl ?_ | refine G.getx (fun q => Nat.beq q 5) rfl rfl rfl rfl ?_)
  exact L0
theorem c_Ja_fillJ (hSt : StOk St) (h : Hp) {a N b : Nat} (ha : sl[a]? = some (.inr (N, 1, b))) (hN : N < 2 ^ 31) (v : Int64) : Ct l y_Ja_fillJ prog_21_method_101_code 5 none (rmD 1) D cls cA sl St ad [.ref a, .long v] h (fun r h' => r = none ∧ h' = setL h a (fun j => if j < N then v else h.2 a j)) := by
  refine Ct.of (tl := T_Ja_fillJ) (by decide) tk_Ja_fillJ cls_ok hSt (Nat.le_of_ble_eq_true rfl) (fun V G E C => ?_)
  have L : ∀ i, i ≤ N → V 6 [some (.ref a), some (.long v), none, some (.int (nI i)), some (.int (nI N))] [] (setL h a (fun j => if j < i then v else h.2 a j)) := by
    refine loopUp N (fun i hi ih => ?_) ?_
    · repeat (first | refine G.sx (fun _ => false) rfl rfl rfl ?_ | refine G.gox (fun _ => false) rfl rfl rfl ?_ | refine G.getx (fun _ => false) rfl rfl rfl rfl ?_)
      refine G.br rfl rfl (fun c1 => absurd c1 (nI_ge hi (by omega))) (fun c1 => ?_)
      repeat (first | refine G.sx (fun _ => false) rfl rfl rfl ?_ | refine G.gox (fun _ => false) rfl rfl rfl ?_ | refine G.getx (fun _ => false) rfl rfl rfl rfl ?_)
      refine G.lasn rfl ha hi hN ?_
      repeat (first | refine G.sx (fun _ => false) rfl rfl rfl ?_ | refine G.gox (fun _ => false) rfl rfl rfl ?_ | refine G.getx (fun _ => false) rfl rfl rfl rfl ?_)
      refine G.go rfl ?_
      have e1 : upL (setL h a (fun j => if j < i then v else h.2 a j)) a i v = setL h a (fun j => if j < i + 1 then v else h.2 a j) := by
        rw [upL_setL]
        congr 1
        funext j
        unfold vp_updL
        by_cases e : j = i
        · simp [e]
        · by_cases e2 : j < i
          · simp [e, e2, show j < i + 1 by omega]
          · simp [e, e2, show ¬ j < i + 1 by omega]
      rw [e1]
      rw [← nI_1] at ih
      exact ih
    · repeat (first | refine G.sx (fun _ => false) rfl rfl rfl ?_ | refine G.gox (fun _ => false) rfl rfl rfl ?_ | refine G.getx (fun _ => false) rfl rfl rfl rfl ?_)
      refine G.br rfl rfl (fun c1 => ?_) (fun c1 => absurd (nI_le (Nat.le_refl N) (by omega)) c1)
      exact E.rv rfl rfl ⟨rfl, rfl⟩
  have L0 := L 0 (Nat.zero_le _)
  have e0 : setL h a (fun j => if j < 0 then v else h.2 a j) = h := by simp [setL_id]
  rw [e0] at L0
  repeat (first | refine G.sx (fun _ => false) rfl rfl rfl ?_ | refine G.gox (fun _ => false) rfl rfl rfl ?_ | refine G.getx (fun _ => false) rfl rfl rfl rfl ?_)
  refine G.alen rfl ha (by decide) ?_
  repeat (first | refine G.sx (fun q => Nat.beq q 6) rfl rfl rfl ?_ | refine G.gox (fun q => Nat.beq q 6) rfl rfl rfl ?_ | refine G.getx (fun q => Nat.beq q 6) rfl rfl rfl rfl ?_)
  exact L0
end JdC
