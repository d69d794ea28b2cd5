/-! The two sides agree: two -/
section PuG
theorem anyB_congr {f f' : Nat → Bool} : ∀ {n : Nat}, (∀ i, i < n → f i = f' i) → anyB f n = anyB f' n
  | 0, _ => rfl
  | n + 1, h => by
    unfold anyB
    rw [anyB_congr (fun i hi => h i (by omega)), h n (by omega)]
theorem fstN_any (f : Nat → Bool) (m : Nat) : (fstN f m 0).isSome = anyB f m := by
  cases e : fstN f m 0 with
  | none =>
    have z := fstN_none e
    cases e2 : anyB f m with
    | false => rfl
    | true =>
      obtain ⟨i, i1, i2⟩ := (anyB_iff f m).mp e2
      rw [z i (by omega) (by omega)] at i2
      cases i2
  | some k =>
    obtain ⟨-, k1, k2, -⟩ := fstN_some e
    rw [(anyB_iff f m).mpr ⟨k, by omega, k2⟩]
    rfl
theorem fr_ib {h g : Hp} {n : Nat} {it own : Nat → Nat} {nb nw : Nat} {mv : Nat → Int32} {vec : Nat → Nat → Int64} (n12 : n ≤ 12) (hid : ∀ p, p < n → it (it p) = it p) (hN : NmE h g nb nw) (hV : MvE h g n it mv vec) (hle : ∀ p, p < n → it p ≤ p) (hon : ∀ a, a < nb → own a < n) {k w : Nat} (hk : k < n) (hw : w < nw) : ifM (fun p w => bfM own nb (fun a b => swM g own a b w) p) it n k w (aiM it n) = !ibB (fun s => TF (mtB h s) it own nb nw) mv n k w (umB mv n) := by
  rw [ifM_TF (M := fun w a b => swM g own a b w) n12 hle hon hw (by omega) (aiM_lt n n12), Bool.eq_iff_iff, and_zero, Bool.not_eq_true', ← Bool.not_eq_true, ib_iff n12 hle hon (Or.inl hw)]
  constructor
  · rintro z ⟨a, b, h3, h4, h5, h6, h7⟩
    have pb := hon b h4
    have lb := hle _ pb
    have hT : (TF (fun w a b => swM g own a b w) it own nb nw w k).testBit (it (own b)) = true := (TF_bit _ _ _ _ _ _ _ _).mpr ⟨by omega, Or.inl hw, a, b, h3, h4, h5, rfl, by rw [h5]; exact h6, by
      show swM g own a b w = true
      rw [sw_mt hN hV hle hon h3 h4 hw, h5]
      exact h7⟩
    have := z _ hT
    rw [(aiM_bit it _ n).mpr ⟨by omega, hid _ pb⟩] at this
    cases this
  · intro z j hj
    obtain ⟨-, -, a, b, h3, h4, h5, h6, h7, h8⟩ := (TF_bit _ _ _ _ _ _ _ _).mp hj
    refine absurd ⟨a, b, h3, h4, h5, by rw [← h5]; exact h7, ?_⟩ z
    have h8 : swM g own a b w = true := h8
    rw [sw_mt hN hV hle hon h3 h4 hw, h5] at h8
    exact h8
theorem zm_sf {h g : Hp} {n : Nat} {it own : Nat → Nat} {nb ns : Nat} {mv : Nat → Int32} {vec : Nat → Nat → Int64} (n12 : n ≤ 12) (hid : ∀ p, p < n → it (it p) = it p) (hN : NmE h g nb (6 + ns)) (hV : MvE h g n it mv vec) (hle : ∀ p, p < n → it p ≤ p) (hon : ∀ a, a < nb → own a < n) : sfB (fun s => TF (mtB h s) it own nb (6 + ns)) it (6 + ns) n mv = zmM n it nb own ns g := by
  unfold sfB zmM afM
  refine anyB_congr (fun k hk => ?_)
  have e1 : (aiM it n).testBit k = decide (it k = k) := by
    rw [Bool.eq_iff_iff, aiM_bit, decide_eq_true_eq]
    exact ⟨fun z => z.2, fun z => ⟨hk, z⟩⟩
  rw [e1]
  congr 1
  unfold woG woM
  rw [fstN_any]
  exact anyB_congr (fun w hw => (fr_ib n12 hid hN hV hle hon hk hw).symm)
theorem ic_ib {h g : Hp} {n : Nat} {it own : Nat → Nat} {nb nw : Nat} {mv : Nat → Int32} {vec : Nat → Nat → Int64} (n12 : n ≤ 12) (hN : NmE h g nb nw) (hV : MvE h g n it mv vec) (hle : ∀ p, p < n → it p ≤ p) (hon : ∀ a, a < nb → own a < n) (i : Nat) : icM g own it nb i = !ibB (fun s => TF (mtB h s) it own nb nw) mv n i 10 (umB mv n) := by
  unfold icM
  congr 1
  rw [Bool.eq_iff_iff, anyB_iff, ib_iff n12 hle hon (Or.inr rfl)]
  constructor
  · rintro ⟨a, h3, z⟩
    obtain ⟨b, h4, z⟩ := (anyB_iff _ _).mp z
    unfold icF at z
    rw [Bool.and_eq_true, decide_eq_true_eq, ov_mt hN hV hle hon h3 h4] at z
    exact ⟨a, b, h3, h4, z.1.1, z.1.2, by rw [← z.1.1]; exact z.2⟩
  · rintro ⟨a, b, h3, h4, h5, h6, h7⟩
    refine ⟨a, h3, (anyB_iff _ _).mpr ⟨b, h4, ?_⟩⟩
    unfold icF
    rw [Bool.and_eq_true, decide_eq_true_eq, ov_mt hN hV hle hon h3 h4, h5]
    exact ⟨⟨rfl, h6⟩, h7⟩
/-- the six directions along an axis -/
def Ev (w x : Nat) : Int64 := if w / 2 = x then (if w % 2 = 0 then 1 else -1) else 0
def cI (b : Bool) (w : Nat) : Int32 := if b then mvC w else 0
def cL (b : Bool) (w x : Nat) : Int64 := if b then Ev w x else 0
/-- how far a cell of the cube is off its middle, in an axis -/
def cd (x q : Nat) : Int64 := Int64.ofNat (if x = 0 then q / 25 else if x = 1 then q / 5 % 5 else q % 5) - 2
set_option maxRecDepth 100000 in
theorem tbl2 : ∀ w1 w2 : Fin 6, ∀ p1 p2 r1 r2 : Bool, (62 + ((cI p1 w1.val + cI p2 w2.val) - (cI r1 w1.val + cI r2 w2.val))).toNatClampNeg < 125 ∧ lenQ (62 + ((cI p1 w1.val + cI p2 w2.val) - (cI r1 w1.val + cI r2 w2.val))).toNatClampNeg ≤ 2 ∧ ∀ x : Fin 3, cd x.val (62 + ((cI p1 w1.val + cI p2 w2.val) - (cI r1 w1.val + cI r2 w2.val))).toNatClampNeg = (cL p1 w1.val x.val + cL p2 w2.val x.val) - (cL r1 w1.val x.val + cL r2 w2.val x.val) := by decide +kernel
set_option maxRecDepth 100000 in
theorem tbl3 : ∀ w1 w2 : Fin 6, ∀ p1 p2 : Bool, ∀ x : Fin 3, -4 ≤ (cL p1 w1.val x.val + cL p2 w2.val x.val).toInt ∧ (cL p1 w1.val x.val + cL p2 w2.val x.val).toInt ≤ 4 := by decide +kernel
/-- the table of shifts -/
def SbI (h : Hp) : Prop := ∀ q x, q < 125 → lenQ q ≤ 2 → x < 3 → h.2 (35 + x) (scF q) = cd x q
/-- at most d moves were made -/
def MvD (d n : Nat) (mv : Nat → Int32) (vec : Nat → Nat → Int64) : Prop := ∃ i1 w1 i2 w2, ∃ b1 b2 : Bool, w1 < 6 ∧ w2 < 6 ∧ (d = 0 → b1 = false) ∧ (d ≤ 1 → b2 = false) ∧ ∀ j, j < n → mv j = cI (b1 && decide (j = i1)) w1 + cI (b2 && decide (j = i2)) w2 ∧ ∀ x, x < 3 → vec j x = cL (b1 && decide (j = i1)) w1 x + cL (b2 && decide (j = i2)) w2 x
theorem MvD.e {h g : Hp} {d n : Nat} {it : Nat → Nat} {mv : Nat → Int32} {vec : Nat → Nat → Int64} (hS : SbI h) (hD : MvD d n mv vec) (hg : ∀ p x, p < n → x < 3 → g.2 8 (3 * p + x) = vec (it p) x) : MvE h g n it mv vec := by
  obtain ⟨i1, w1, i2, w2, b1, b2, h1, h2, -, -, h5⟩ := hD
  refine ⟨fun i o x hi ho hx => ?_, hg, fun i x hi hx => ?_⟩
  · obtain ⟨e1, e2⟩ := h5 i hi
    obtain ⟨e3, e4⟩ := h5 o ho
    obtain ⟨t1, t2, t3⟩ := tbl2 ⟨w1, h1⟩ ⟨w2, h2⟩ (b1 && decide (i = i1)) (b2 && decide (i = i2)) (b1 && decide (o = i1)) (b2 && decide (o = i2))
    rw [e2 x hx, e4 x hx, e1, e3]
    unfold sx
    rw [hS _ x t1 t2 hx]
    exact t3 ⟨x, hx⟩
  · rw [(h5 i hi).2 x hx]
    exact tbl3 ⟨w1, h1⟩ ⟨w2, h2⟩ _ _ ⟨x, hx⟩
theorem MvD.up {d n : Nat} {mv : Nat → Int32} {vec : Nat → Nat → Int64} (hd : d ≤ 1) (hD : MvD d n mv vec) {i w : Nat} (hw : w < 6) : MvD (d + 1) n (upd mv i (mv i + mvC w)) (fun j x => if j = i then vec j x + Ev w x else vec j x) := by
  obtain ⟨i1, w1, i2, w2, b1, b2, h1, h2, h3, h4, h5⟩ := hD
  have hb2 := h4 hd
  subst hb2
  rcases (show d = 0 ∨ d = 1 by omega) with rfl | rfl
  · have hb1 := h3 rfl
    subst hb1
    refine ⟨i, w, i2, w2, true, false, hw, h2, fun z => by omega, fun _ => rfl, fun j hj => ?_⟩
    obtain ⟨e1, e2⟩ := h5 j hj
    unfold upd
    by_cases e : j = i
    · subst e
      refine ⟨?_, fun x hx => ?_⟩
      · rw [if_pos rfl, e1]; simp [cI]
      · simp only [if_true]
        rw [e2 x hx]; simp [cL]
    · refine ⟨?_, fun x hx => ?_⟩
      · rw [if_neg e, e1]; simp [cI, e]
      · simp only [e, if_false]
        rw [e2 x hx]; simp [cL]
  · refine ⟨i1, w1, i, w, b1, true, h1, hw, fun z => by omega, fun z => by omega, fun j hj => ?_⟩
    obtain ⟨e1, e2⟩ := h5 j hj
    unfold upd
    by_cases e : j = i
    · subst e
      refine ⟨?_, fun x hx => ?_⟩
      · rw [if_pos rfl, e1]; simp [cI]
      · simp only [if_true]
        rw [e2 x hx]; simp [cL]
    · refine ⟨?_, fun x hx => ?_⟩
      · rw [if_neg e, e1]; simp [cI, e]
      · simp only [e, if_false]
        rw [e2 x hx]; simp [cL]
/-- where both sides stand behind d moves -/
def StE (h g : Hp) (d n : Nat) (it : Nat → Nat) (nb nw : Nat) (mv : Nat → Int32) (vec : Nat → Nat → Int64) : Prop := NmE h g nb nw ∧ MvD d n mv vec ∧ ∀ p x, p < n → x < 3 → g.2 8 (3 * p + x) = vec (it p) x
theorem StE.up {h g : Hp} {d n : Nat} {it : Nat → Nat} {nb nw : Nat} {mv : Nat → Int32} {vec : Nat → Nat → Int64} (hE : ∀ w x, w < 6 → x < 3 → h.2 (32 + x) w = Ev w x) (h6 : 6 ≤ nw) (hd : d ≤ 1) (hS : StE h g d n it nb nw mv vec) {i w : Nat} (hw : w < 6) : StE h (shG g n it i w 1) (d + 1) n it nb nw (upd mv i (mv i + mvC w)) (fun j x => if j = i then vec j x + Ev w x else vec j x) := by
  obtain ⟨⟨n1, n2, n3⟩, hD, hg⟩ := hS
  have e2 : (shG g n it i w 1).2 2 = g.2 2 := setL_ne g _ (by decide)
  have e3 : (shG g n it i w 1).2 3 = g.2 3 := setL_ne g _ (by decide)
  refine ⟨⟨fun a x ha hx => by rw [e2]; exact n1 a x ha hx, fun w x hw hx => by rw [e3]; exact n2 w x hw hx, n3⟩, hD.up hd hw, fun p x hp hx => ?_⟩
  have e8 : (shG g n it i w 1).2 8 = shF (g.2 8) (g.2 3) it i w 1 (3 * n) := setL_at g 8 _
  rw [e8]
  unfold shF
  rw [show (3 * p + x) / 3 = p by omega, show (3 * p + x) % 3 = x by omega, hg p x hp hx]
  by_cases e : it p = i
  · rw [if_pos ⟨by omega, e⟩]
    simp only [e, if_true]
    rw [n2 w x (by omega) hx, hE w x hw hx, Int64.one_mul]
  · rw [if_neg (fun z => e z.2)]
    simp only [e, if_false]
theorem fb_sm {h : Hp} {n : Nat} {it own : Nat → Nat} {nb nw c d : Nat} (hE : ∀ w x, w < 6 → x < 3 → h.2 (32 + x) w = Ev w x) (hB : SbI h) (h6 : 6 ≤ nw) (hd : d ≤ 1) (n12 : n ≤ 12) (hle : ∀ p, p < n → it p ≤ p) (hon : ∀ a, a < nb → own a < n) {chk : Hp → Bool} (hc : ∀ g mv vec, StE h g (d + 1) n it nb nw mv vec → fbB (fun s => TF (mtB h s) it own nb nw) it nw n c mv = chk g) {g : Hp} {mv : Nat → Int32} {vec : Nat → Nat → Int64} (hS : StE h g d n it nb nw mv vec) : fbB (fun s => TF (mtB h s) it own nb nw) it nw n (c + 1) mv = smM chk g n it nb own := by
  unfold fbB smM
  refine anyB_congr (fun i hi => ?_)
  congr 1
  refine anyB_congr (fun w hw => ?_)
  have s1 := hS.up (i := i) hE h6 hd hw
  unfold sqM
  rw [hc _ _ _ s1, ic_ib n12 s1.1 (s1.2.1.e hB s1.2.2) hle hon]
/-- two: both sides answer the same -/
theorem two_eq {h g : Hp} {n : Nat} {it own : Nat → Nat} {nb ns q : Nat} (hE : ∀ w x, w < 6 → x < 3 → h.2 (32 + x) w = Ev w x) (hB : SbI h) (n12 : n ≤ 12) (hid : ∀ p, p < n → it (it p) = it p) (hle : ∀ p, p < n → it p ≤ p) (hon : ∀ a, a < nb → own a < n) (hN : NmE h g nb (6 + ns)) (hm : ∀ j, j < 12 → h.1 25 j = 0) (hg : ∀ p x, p < n → x < 3 → g.2 8 (3 * p + x) = 0) (hq : q ≤ 2) : oI (fstN (fun c => fbB (fun s => TF (mtB h s) it own nb (6 + ns)) it (6 + ns) n c (h.1 25)) (q + 1) 0) + 1 = if n = 0 then 0 else twM n it nb own ns g (nI q) := by
  have hS : StE h g 0 n it nb (6 + ns) (h.1 25) (fun _ _ => 0) := by
    refine ⟨hN, ⟨0, 0, 0, 0, false, false, by omega, by omega, fun _ => rfl, fun _ => rfl, fun j hj => ⟨?_, fun x hx => ?_⟩⟩, hg⟩
    · rw [hm j (by omega)]; rfl
    · rfl
  have z0 : ∀ d g mv vec, StE h g d n it nb (6 + ns) mv vec → fbB (fun s => TF (mtB h s) it own nb (6 + ns)) it (6 + ns) n 0 mv = zmM n it nb own ns g := fun d g mv vec s => zm_sf n12 hid s.1 (s.2.1.e hB s.2.2) hle hon
  have f0 := z0 0 g _ _ hS
  have f1 : fbB (fun s => TF (mtB h s) it own nb (6 + ns)) it (6 + ns) n 1 (h.1 25) = omM n it nb own ns g := fb_sm hE hB (by omega) (by omega) n12 hle hon (z0 1) hS
  have f2 : fbB (fun s => TF (mtB h s) it own nb (6 + ns)) it (6 + ns) n 2 (h.1 25) = tmM n it nb own ns g := fb_sm hE hB (by omega) (by omega) n12 hle hon (fun g mv vec s => fb_sm hE hB (by omega) (by omega) n12 hle hon (z0 2) s) hS
  by_cases e0 : n = 0
  · subst e0
    rw [if_pos rfl]
    have a0 : zmM 0 it nb own ns g = false := rfl
    have a1 : omM 0 it nb own ns g = false := rfl
    have a2 : tmM 0 it nb own ns g = false := rfl
    rw [a0] at f0
    rw [a1] at f1
    rw [a2] at f2
    rcases (show q = 0 ∨ q = 1 ∨ q = 2 by omega) with rfl | rfl | rfl
    · simp only [fstN, f0]; decide
    · simp only [fstN, f0, f1]; decide
    · simp only [fstN, f0, f1, f2]; decide
  · rw [if_neg e0]
    unfold twM
    rcases (show q = 0 ∨ q = 1 ∨ q = 2 by omega) with rfl | rfl | rfl
    · simp only [fstN, f0]
      cases zmM n it nb own ns g <;> cases omM n it nb own ns g <;> cases tmM n it nb own ns g <;> decide
    · simp only [fstN, f0, f1]
      cases zmM n it nb own ns g <;> cases omM n it nb own ns g <;> cases tmM n it nb own ns g <;> decide
    · simp only [fstN, f0, f1, f2]
      cases zmM n it nb own ns g <;> cases omM n it nb own ns g <;> cases tmM n it nb own ns g <;> decide
end PuG
