/-! THE START'S RELATION of the two heaps -/
section RL0
theorem ev0 : ∀ (w : Fin 6) (x : Fin 3), (hWy 6).2 (2 + x.val) w.val = Ev w.val x.val ∧ gM0.2 3 (3 * w.val + x.val) = Ev w.val x.val := by decide +kernel
theorem ad_z (a : Nat) (L : List Nat) (c1 c2 : Nat) (hL : L.length = 62) : adL (a :: (L ++ [c1, c2])) 63 = c1 ∧ adL (a :: (L ++ [c1, c2])) 64 = c2 := by
  unfold adL
  refine ⟨?_, ?_⟩
  · rw [List.getD_cons_succ, List.getD_eq_getElem?_getD, List.getElem?_append_right (by omega), hL]; rfl
  · rw [List.getD_cons_succ, List.getD_eq_getElem?_getD, List.getElem?_append_right (by omega), hL]; rfl
theorem Rl0 {hb : Hp} (hB : BnI 3 0 hb) : Rl (hC0 hb) gM0 := by
  obtain ⟨b1, b2, b3, b4⟩ := hB
  have w0 : ∀ x, x < 3 → (hC0 hb).2 (32 + x) = (hWy 6).2 (2 + x) := by
    intro x hx
    match x, hx with
    | 0, _ => rfl
    | 1, _ => rfl
    | 2, _ => rfl
    | n + 3, h => omega
  have s0 : ∀ x, x < 3 → (hC0 hb).2 (35 + x) = hb.2 (3 + x) := by
    intro x hx
    match x, hx with
    | 0, _ => rfl
    | 1, _ => rfl
    | 2, _ => rfl
    | n + 3, h => omega
  have z0 : ∀ k j, gM0.1 k j = 0 := fun _ _ => rfl
  refine ⟨0, fun _ => 0, 0, fun _ => 0, 0, 0, fun _ => 0, fun _ => 0, ⟨⟨⟨rfl, by omega, fun i hi => by omega⟩, ⟨rfl, by omega, fun i hi => by omega⟩, fun i hi => by omega, rfl, by omega, by omega⟩, fun q hq => ?_, fun j hj => rfl⟩, ⟨⟨rfl, by omega, fun i hi => by omega⟩, ⟨rfl, by omega, fun i hi => by omega⟩, rfl, by omega⟩, fun p hp => by omega, ⟨fun a x ha => by omega, fun w x hw hx => ?_, fun x hx => ?_⟩, ⟨fun q x hq hl hx => ?_, fun w x hw hx => ?_⟩, ⟨⟨rfl, by omega, fun i hi => by omega⟩, ⟨rfl, by omega, fun i hi => by omega⟩, fun i hi => by omega⟩, Or.inl ⟨rfl, rfl⟩, 0, fun _ => 0, 0, rfl, by omega, fun j hj => by omega, rfl, by omega⟩
  · show hb.1 1 q = nI (scF q)
    rw [b1 q hq]
    by_cases h : lenQ q < 3
    · rw [if_pos (Or.inl h)]
    · rw [if_neg (by omega)]
      unfold scF
      rw [if_neg (by omega)]
      rfl
  · rw [w0 x hx]
    have := ev0 ⟨w, by omega⟩ ⟨x, hx⟩
    rw [this.1]
    exact this.2
  · rw [w0 x hx]
    match x, hx with
    | 0, _ => rfl
    | 1, _ => rfl
    | 2, _ => rfl
    | n + 3, h => omega
  · rw [s0 x hx]
    exact b2 q x hq (Or.inl (by omega)) hx
  · rw [w0 x hx]
    exact (ev0 ⟨w, hw⟩ ⟨x, hx⟩).1
end RL0
