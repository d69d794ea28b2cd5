/-! THE CLAIM (lw_walk and what follows began as the skeleton of kit/laws; an hypothesis on the flags was added) -/
set_option maxHeartbeats 1000000 in
theorem whole_start {p : Program} {e : Env} {s : State} {m : MethodId} {below : List Frame} {meth : Method} {c : Code} (l : Launch) (hfl : l.flags = flags0) {b L : Nat} {xs : Nat → Int32} (hL : L ≤ 6144) (C0 : lw_At p s m meth c b L xs) : W p l e room_1 s m #[Value.ref b] below meth c s.heap [] 0 0 (lw_Z below #[Value.ref b] s) (entryFrame m ([Value.ref b] : List Value).toArray 7) := by
  obtain ⟨hx, hb, hr, hml, hown, hts, hX, hbl, hlocks, hgv⟩ := C0
  obtain ⟨z1, z2, hz⟩ := st_StX hgv hts
  have hnc := st_NC hgv
  obtain ⟨ha1, ha2⟩ := st_AO hts
  obtain ⟨D, cA, hK⟩ := st_K hts
  have hA : ∀ q, s.heap.size ≤ q → (fun q => s.heap.size ≤ q) q := fun q h => h
  have hbA : ¬ (fun q => s.heap.size ≤ q) b := fun h => Nat.lt_irrefl _ (Nat.lt_of_lt_of_le hbl h)
  have CH : ∀ tl, tl.all (rowOk code "TogetherOrdersLaw" wg 7 cls) = true → Cx p s m #[Value.ref b] c code "TogetherOrdersLaw" wg 7 tl D cls cA := fun tl h => ⟨hx, hb, hown, st_wg hts, h, hK, cls_ok⟩
  have Ch := CH _ tk_La_h
  have hend : ∀ cells slots ws lv, cells ≤ 601024 → slots ≤ 7293034 → Vw p l e room_1 s m #[Value.ref b] below meth c 7 D cls (fun q => s.heap.size ≤ q) (lw_Z below #[Value.ref b] s) cells slots ws 1676 lv [.int 1] := by
    intro cells slots ws lv h1 h2 ls H locs hl hP hD hS
    obtain ⟨hd, -, -⟩ := rowOk_s tk_La_e (show lkT T_La_e 1676 = some (.ireturn, 1, 1677, 0, 0, 0, 0, 0) from rfl)
    refine W.widen h1 h2 (va_forget (fun q hq => hS.2.2 q hq) ?_)
    exact lw_ret hx hb hr hlocks hd
  have hl0 := lv_entry ([Value.ref b] : List Value) (n := 7) (Nat.le_of_ble_eq_true rfl)
  rw [lg_entry_eq]
  have key : Vw p l e room_1 s m #[Value.ref b] below meth c 7 D cls (fun q => s.heap.size ≤ q) (lw_Z below #[Value.ref b] s) 0 0 [] 0 (ent [Value.ref b] 7) [] := by
    refine Vw_new Ch hA (ci := 0) rfl rfl (wg_in 20 (by decide +kernel) (by decide +kernel)) (wg_in 21 (by decide +kernel) (by decide +kernel)) (wg_in 1 (by decide +kernel) (by decide +kernel)) (fs := [.null, .null, .null, .null, .null, .null, .null, .null, .int 0]) (ty := tyK0) okK0 (fun j hj => by match j, hj with | 0, _ => rfl | 1, _ => rfl | 2, _ => rfl | 3, _ => rfl | 4, _ => rfl | 5, _ => rfl | 6, _ => rfl | 7, _ => rfl | 8, _ => rfl | _ + 9, h => omega) (Nat.le_of_ble_eq_true rfl) (Nat.le_of_ble_eq_true rfl) (fun q => ?_)
    refine Vw_s Ch rfl rfl ?_
    refine Vw_callI (wr := []) (wc := [(q, .inr (0, [.null, .null, .null, .null, .null, .null, .null, .null, .int 0]))]) Ch hml hA ha1 ha2 rfl cw_La_77 (As := []) (b := q) rfl (n_TO_init l D cA q z1 z2) (Nat.le_of_ble_eq_true rfl) (Nat.le_of_ble_eq_true rfl) (Nat.le_of_ble_eq_true rfl) (Nat.le_of_ble_eq_true rfl) (st := [.ref q]) (Nat.le_of_ble_eq_true rfl) ?_
    rintro w1 ⟨L1, hb1, hL1, rfl, hB1⟩
    refine Vw_s Ch rfl rfl ?_
    refine Vw_new Ch hA (ci := 9) rfl rfl (wg_in 769 (by decide +kernel) (by decide +kernel)) (wg_in 770 (by decide +kernel) (by decide +kernel)) (wg_in 11 (by decide +kernel) (by decide +kernel)) (fs := [.int 0, .int 0, .int 0, .null, .null, .int 0, .null, .null, .int 0, .null, .null, .null, .null, .null, .int 0, .int 0, .null, .null, .int 0, .null, .null]) (ty := tyK9) okK9 (fun j hj => by match j, hj with | 0, _ => rfl | 1, _ => rfl | 2, _ => rfl | 3, _ => rfl | 4, _ => rfl | 5, _ => rfl | 6, _ => rfl | 7, _ => rfl | 8, _ => rfl | 9, _ => rfl | 10, _ => rfl | 11, _ => rfl | 12, _ => rfl | 13, _ => rfl | 14, _ => rfl | 15, _ => rfl | 16, _ => rfl | 17, _ => rfl | 18, _ => rfl | 19, _ => rfl | 20, _ => rfl | _ + 21, h => omega) (Nat.le_of_ble_eq_true rfl) (Nat.le_of_ble_eq_true rfl) (fun q2 => ?_)
    refine Vw_s Ch rfl rfl ?_
    refine Vw_callI (wr := [] ++ Wd slC cA (adL (q :: (L1 ++ [z1, z2]))) (hC0 hb1)) (wc := [(q2, .inr (9, [.int 0, .int 0, .int 0, .null, .null, .int 0, .null, .null, .int 0, .null, .null, .null, .null, .null, .int 0, .int 0, .null, .null, .int 0, .null, .null]))]) Ch hml hA ha1 ha2 rfl cw_La_80 (As := []) (b := q2) rfl (n_Mo_init l D cA q2) (Nat.le_of_ble_eq_true rfl) (Nat.le_of_ble_eq_true rfl) (Nat.le_of_ble_eq_true rfl) (Nat.le_of_ble_eq_true rfl) (st := [.ref q2]) (Nat.le_of_ble_eq_true rfl) ?_
    rintro w2 ⟨L2, hL2, rfl⟩
    refine Vw_s Ch rfl rfl ?_
    refine Vw_s Ch rfl rfl ?_
    refine Vw_newa Ch hA (t0 := 1) (N := 1) (a0 := (1, .inr (.inl (fun _ => 0)))) rfl rfl rfl (fun C h => by cases h) (wg_in 72 (by decide +kernel) (by decide +kernel)) (fun cA => rfl) (by decide) (by decide) (Nat.le_of_ble_eq_true rfl) (Nat.le_of_ble_eq_true rfl) (fun q3 => ?_)
    refine Vw_s Ch rfl rfl ?_
    refine Vw_s Ch rfl rfl ?_
    refine Vw_s Ch rfl rfl ?_
    have hz0 := hz (adL (q :: (L1 ++ [z1, z2]))) (ad_z q L1 z1 z2 hL1).1 (ad_z q L1 z1 z2 hL1).2
    have lp := lp_all (ad := adL (q :: (L1 ++ [z1, z2]))) (ad2 := adL (q2 :: L2)) (o := q3) (below := below) CH hfl hml hA hz0 hnc hX hbl hbA hL hend 513 0 rfl (hC0 hb1) gM0 (fun _ => 0) none none (Rl0 hB1)
    refine Vw_conv (ws' := Wd slM cA (adL (q2 :: L2)) gM0 ++ WH cA (adL (q :: (L1 ++ [z1, z2]))) q3 (fun _ => 0) (hC0 hb1)) ?_ ?_ lp
    · exact fun H hP => rot_P hP
    · exact fun hD => rot_D hD
  refine key _ s.heap [] ⟨⟨hl0.1, hl0.2.1, fun q hq => by cases hq⟩, fun i v hi => ?_⟩ (fun k q hq => by simp at hq) ⟨fun i j q r hq => by simp at hq, fun k q hq => by simp at hq⟩ va_S.rf
  have h1 := ent_args id ([Value.ref b] : List Value) 7 0 i v hi
  rw [Nat.zero_add, cvs_id] at h1
  exact hl0.2.2 _ h1
set_option maxHeartbeats 4000000 in
theorem lw_walk (l : Launch) (hfl : l.flags = flags0) (b : Addr) (xs : List Int32) : MetFree l x (headSpec (Jvm.Cond.code x code maxLocals ret :: tables_1) room_1) (lw_P b xs) (fun _ _ _ _ _ => True) lw_Q := by
  refine MetFree.of_bodyS (code := code) (maxLocals := maxLocals) (ret := ret) (by decide) ?_ ?_
  · intro args s m h hn
    obtain ⟨meth, c, h1, h2, h3, h4, h5, h6, -, -⟩ := Cond.code_spec hn (atoms_spec (ws := Jvm.Cond.code x code maxLocals ret :: tables_1) h _ List.mem_cons_self)
    exact ⟨meth, c, h1, h2, h3, h4, h5, h6⟩
  · intro p e s m args below meth c s₁ B hml0 hP _
    obtain ⟨rfl, hx, hbd, hgv⟩ := hP
    obtain ⟨scr, harrAt, hlist, hof, hsmall⟩ := hx
    obtain ⟨hcb, hkn, -, -⟩ := State.arrayAt?_spec harrAt
    have hown : s.vm.findClass R_law = some m.cls := findClass_of_methodNamed B.named
    have hts0 : ∀ c ∈ (Jvm.Cond.code x code maxLocals ret :: tables_1), c.before #[Value.ref b] s = true := atoms_spec (ws := Jvm.Cond.code x code maxLocals ret :: tables_1) B.pre
    have hts : ∀ w ∈ lw_tbl, w.before #[Value.ref b] s = true := k2_hts_sels lw_privs (fun w hw => hts0 w (List.mem_cons_of_mem _ hw)) lw_privs_ok
    have hml : c.maxLocals = 7 := B.maxLocals_eq (hts0 _ List.mem_cons_self)
    have X₀ : Stand p l e room_1 s m #[Value.ref b] below meth c s₁ [] 0 0 := Stand.of_body B
    have hh0 : s₁.heap = s.heap := by rw [B.state]; rfl
    have hsz : scr.slots.size = xs.length := by rw [← Array.length_toList, hlist, List.length_map]
    have hval : ∀ j : Nat, j < xs.length → scr.slots[j]? = some (.int (xs.getD j 0)) := fun j hj => by
      rw [← Array.getElem?_toList, hlist]
      simp [hj]
    have hbl : b < s.heap.size := (Array.getElem?_eq_some_iff.mp hcb).1
    have hX : va_X b xs.length (fun j => xs.getD j 0) s s.heap := ⟨scr, hcb, hof, hkn, hsz, hval⟩
    have K : W p l e room_1 s m #[Value.ref b] below meth c s₁.heap [] 0 0 (lw_Z below #[Value.ref b] s) (entryFrame m ([Value.ref b] : List Value).toArray 7) := by
      rw [hh0]
      exact whole_start l hfl hbd ⟨B.exec, B.bytes, B.returns, hml, hown, hts, hX, hbl, B.notSynchronized, hgv⟩
    obtain ⟨t, a1, o, b1, b2, b3⟩ := K s₁ rfl X₀
    exact ⟨t, o, a1, b1, b2, b3⟩
theorem lw_pre_spec {args : Array Value} {s : State} (h : (Jvm.Cond.and given_1 narrow_1).before args s = true) (hr : rest_1_c.before args s = true) : ∃ (b : Addr) (xs : List Int32), lw_P b xs args s := by
  have hs := flat_of_before _ h
  have hq := flat_of_before _ hr
  have hc : (Cond.count 1).before args s = true := hs _ (by decide +kernel)
  have harr : (Cond.arrayOf (.arg 0) .int).before args s = true := hs _ (by decide +kernel)
  have hle : (Cond.le (.length (.arg 0)) (.int 6144)).before args s = true := hs _ (by decide +kernel)
  have hlen : (Cond.isInt (.length (.arg 0))).before args s = true := hq _ (by decide +kernel)
  have hall : (Cond.all (.arg 0) (.isInt (.elem (.arg 0) (.index 0)))).before args s = true := hq _ (by decide +kernel)
  obtain ⟨b, xs, hb, hx⟩ := State.ints_of_pre rfl harr hlen hall
  have hsm : xs.length < 2 ^ 31 := hx.choose_spec.2.2.2
  have hev : (Term.length (.arg 0)).eval args s none [] s = some (.int xs.length.toInt32) := hx.length_eval hb
  have hv := Cond.le_ints hev (show (Term.int 6144).eval args s none [] s = some (.int 6144) from rfl)
  have hd : xs.length.toInt32 ≤ 6144 := by
    simpa [Cond.before, Cond.holds, hv] using hle
  have hN : xs.length ≤ 6144 := (Int32.ofNat_le_ofNat hsm (by decide)).mp (show Int32.ofNat xs.length ≤ Int32.ofNat 6144 from hd)
  exact ⟨b, xs, Cond.one_arg hc (show args[0]? = some (.ref b) from hb), hx, hN, h⟩
theorem lw_comes (l : Launch) (hfl : l.flags = flags0) : Comes l x (Jvm.Cond.code x code maxLocals ret :: tables_1) room_1 (fun tb e args s => Calls_1 tb e args s ∧ rest_1 tb e args s ∧ Pre_1 tb e args s)
    (fun _ _ args s o t => lw_Q args s o t) := by
  intro p e ha hc hk s m args below hf hfit hheap happ hpre
  obtain ⟨b, xs, hP⟩ := lw_pre_spec hpre.2.2 hpre.2.1
  obtain ⟨k, o, h1, h2, h3, hQ⟩ := lw_walk l hfl b xs p e ha hc hk s m args below hf ((Spec.applies_iff_loose hf).mp happ).1 hP trivial
  exact ⟨k, o, h1, h2, h3, hQ⟩
theorem lw_frame {s t : State} {o : Outcome} {args : Array Value} (h : Framed s o t [] 601024 7293034) :
    Framed s o t (fieldLocs frame_1_writes args s ++ arrayLocs frame_1_arrays args s ++ staticLocs frame_1_statics s) 601024 7293034 := h
theorem lw_limb (L : Cond) (hL : ∀ (args : Array Value) (s t : State), L.after args s (.returned (some (.int 1))) t = true) :
    ArmFor flags0 classFile x code maxLocals ret World_1 tables_1 room_1 Calls_1 rest_1 Pre_1
      (fun tb e a s o t => postC L tb e a s o t ∧ Framed s o t (fieldLocs frame_1_writes a s ++ arrayLocs frame_1_arrays a s ++ staticLocs frame_1_statics s) 601024 7293034) := by
  intro l hfl _ _ p e ha hc hk s m args below hf hfit hheap happ hpre
  obtain ⟨k, o, h1, h2, h3, rfl, hF⟩ := lw_comes l hfl p e ha hc hk s m args below hf hfit hheap happ hpre
  exact ⟨k, _, h1, h2, h3, hL args s _, lw_frame hF⟩
theorem i_vc : Claimed_1_1 ∧ Claimed_1_2 := ⟨lw_limb limb_1_1 (fun args s t => by simp [limb_1_1, Cond.after, Cond.holds, Cond.value]), lw_limb limb_1_2 (fun args s t => Cond.after_iff.mpr (by
  first | (rw [show limb_1_2 = Cond.eq .result (.int 1) from rfl, Cond.eq_ints (x := 1) (y := 1) rfl rfl]; simp; done) | (simp [limb_1_2, Cond.value, Term.eval]; done)))⟩

