/-! the law's start: the tables, the statics, the two constructors -/
theorem kArrI {s : State} {args : Array Value} (h : (Cond.arrayClass .int).before args s = true) : ∃ c : ClassId, ArrOfT s c .int ∧ va_RA s c .int := by
  obtain ⟨c, k, comp, h1, h2, h3⟩ := Cond.arrayClass_spec h
  exact ⟨c, fun n z => ⟨fun k h => (by cases h), k, h2, comp, h3⟩, h1⟩
theorem kArrZ {s : State} {args : Array Value} (h : (Cond.arrayClass .boolean).before args s = true) : ∃ c : ClassId, ArrOfT s c .boolean ∧ va_RA s c .boolean := by
  obtain ⟨c, k, comp, h1, h2, h3⟩ := Cond.arrayClass_spec h
  exact ⟨c, fun n z => ⟨fun k h => (by cases h), k, h2, comp, h3⟩, h1⟩
theorem kArrO {s : State} {args : Array Value} {C : String} (h : (Cond.arrayOver (.object C)).before args s = true) : ∃ c : ClassId, ArrOfT s c (.object C) ∧ va_RA s c (.object C) := by
  obtain ⟨comp, c, k, h1, h2, h3, h4, h5⟩ := Cond.arrayOver_spec h
  exact ⟨c, fun n z => ⟨fun k h => (by cases h), k, h3, comp, h4⟩, k, comp, h3, h4, h1, h5⟩
set_option maxRecDepth 100000 in
theorem qx_t58 : Cond.arrayOver (.object RX3) ∈ lw_tbl := List.mem_of_getElem? (i := 58) rfl
set_option maxRecDepth 100000 in
theorem qx_t195 : Cond.arrayOver (.object RX1) ∈ lw_tbl := List.mem_of_getElem? (i := 195) rfl
set_option maxRecDepth 100000 in
theorem qx_t197 : Cond.arrayOver (.object RX6) ∈ lw_tbl := List.mem_of_getElem? (i := 197) rfl
set_option maxRecDepth 100000 in
theorem qx_t60 : Cond.methodLinkNest RX4 17 yX3_init RX9 ∈ lw_tbl := List.mem_of_getElem? (i := 60) rfl
set_option maxRecDepth 100000 in
theorem qx_t143 : Cond.methodLinkNest RX9 25 yX5_init RX9 ∈ lw_tbl := List.mem_of_getElem? (i := 143) rfl
set_option maxRecDepth 100000 in
theorem qx_t199 : Cond.methodLinkNest RX2 35 yX1_init RX9 ∈ lw_tbl := List.mem_of_getElem? (i := 199) rfl
set_option maxRecDepth 100000 in
theorem qx_t262 : Cond.methodLinkNest RX2 36 yX6_init RX9 ∈ lw_tbl := List.mem_of_getElem? (i := 262) rfl
set_option maxRecDepth 100000 in
theorem qx_t330 : Cond.methodLinkNest RX0 9 yX9_within RX9 ∈ lw_tbl := List.mem_of_getElem? (i := 330) rfl
set_option maxRecDepth 100000 in
theorem qx_t413 : Cond.laysStatic RX0 "TAKES" "[I" ∈ lw_tbl := List.mem_of_getElem? (i := 413) rfl
set_option maxRecDepth 100000 in
theorem qx_t415 : Cond.laysStatic RX0 "PUTS" "[I" ∈ lw_tbl := List.mem_of_getElem? (i := 415) rfl
theorem start_K {s : State} {args : Array Value} (hts : ∀ w ∈ lw_tbl, w.before args s = true) : ∃ (D : va_G) (ca : Nat → ClassId), va_K D vwCl (qx_ty ca) s := by
  have hB : ∀ w ∈ qx_BW, w.before args s = true := fun w hw => hts w (List.mem_filter.mp hw).1
  obtain ⟨c0, i0, k0⟩ := u_known hB qx_cpX1.2.1 (hB _ qx_inRX1)
  obtain ⟨c1, i1, k1⟩ := u_known hB qx_cpX2.2.1 (hB _ qx_inRX2)
  obtain ⟨c2, i2, k2⟩ := u_known hB qx_cpX3.2.1 (hB _ qx_inRX3)
  obtain ⟨c3, i3, k3⟩ := u_known hB qx_cpX4.2.1 (hB _ qx_inRX4)
  obtain ⟨c4, i4, k4⟩ := u_known hB qx_cpX5.2.1 (hB _ qx_inRX5)
  obtain ⟨c5, i5, k5⟩ := u_known hB qx_cpX6.2.1 (hB _ qx_inRX6)
  obtain ⟨c6, i6, k6⟩ := u_known hB qx_cpX8.2.1 (hB _ qx_inRX8)
  obtain ⟨c7, i7, k7⟩ := u_known hB qx_cpX9.2.1 (hB _ qx_inRX9)
  obtain ⟨c8, i8, k8⟩ := u_known hB qx_cpX10.2.1 (hB _ qx_inRX10)
  obtain ⟨a0, b0⟩ := kArrI (hB _ qx_aI)
  obtain ⟨a1, b1⟩ := kArrZ (hB _ qx_aZ)
  obtain ⟨a2, b2⟩ := kArrO (hts _ qx_t58)
  obtain ⟨a3, b3⟩ := kArrO (hts _ qx_t195)
  obtain ⟨a4, b4⟩ := kArrO (hts _ qx_t197)
  refine ⟨(fun c => match c with | 0 => c0 | 1 => c1 | 2 => c2 | 3 => c3 | 4 => c4 | 5 => c5 | 6 => c6 | 7 => c7 | _ => c8, fun c => match c with | 0 => i0 | 1 => i1 | 2 => i2 | 3 => i3 | 4 => i4 | 5 => i5 | 6 => i6 | 7 => i7 | _ => i8), fun a => match a with | 0 => a0 | 1 => a1 | 2 => a2 | 3 => a3 | _ => a4, fun c q hq => ?_, fun k q hk => ?_⟩
  · rcases c with _ | _ | _ | _ | _ | _ | _ | _ | _ | c
    · cases qx_cpX1.1.symm.trans hq
      exact k0
    · cases qx_cpX2.1.symm.trans hq
      exact k1
    · cases qx_cpX3.1.symm.trans hq
      exact k2
    · cases qx_cpX4.1.symm.trans hq
      exact k3
    · cases qx_cpX5.1.symm.trans hq
      exact k4
    · cases qx_cpX6.1.symm.trans hq
      exact k5
    · cases qx_cpX8.1.symm.trans hq
      exact k6
    · cases qx_cpX9.1.symm.trans hq
      exact k7
    · cases qx_cpX10.1.symm.trans hq
      exact k8
    · have h := (List.getElem?_eq_some_iff.mp hq).1
      exact absurd h (Nat.not_lt.mpr (Nat.le_add_left 9 c))
  · rcases k with _ | _ | _ | _ | _ | k
    · cases hk; exact b0
    · cases hk; exact b1
    · cases hk; exact b2
    · cases hk; exact b3
    · cases hk; exact b4
    · cases hk
set_option maxRecDepth 100000 in
theorem start_T : ∀ j, j < 26 → Cond.eq (.elem (.static RX0 "TAKES" "[I") (.int (Int32.ofNat j))) (.int (qx_takesI j)) ∈ flatC (Jvm.Cond.and given_1 narrow_1) := by decide +kernel
set_option maxRecDepth 100000 in
theorem start_U : ∀ j, j < 26 → Cond.eq (.elem (.static RX0 "PUTS" "[I") (.int (Int32.ofNat j))) (.int (qx_putsI j)) ∈ flatC (Jvm.Cond.and given_1 narrow_1) := by decide +kernel
set_option maxRecDepth 100000 in
theorem start_S {s : State} {args : Array Value} (hts : ∀ w ∈ lw_tbl, w.before args s = true) (hgv : (Jvm.Cond.and given_1 narrow_1).before args s = true) : ∃ t1 t2, qx_stat (fun q => s.heap.size ≤ q) t1 t2 s s.heap := by
  have hB : ∀ w ∈ qx_BW, w.before args s = true := fun w hw => hts w (List.mem_filter.mp hw).1
  have hs := flat_of_before _ hgv
  have hA : ∀ a : Nat, a < s.heap.size → ¬ s.heap.size ≤ a := fun a h => by omega
  have q1 : (Cond.arrayOf (.static RX0 "TAKES" "[I") .int).before args s = true := hs _ (by decide +kernel)
  have q2 : (Cond.eq (.length (.static RX0 "TAKES" "[I")) (.int (Int32.ofNat 26))).before args s = true := hs _ (by decide +kernel)
  have q3 : (Cond.arrayOf (.static RX0 "PUTS" "[I") .int).before args s = true := hs _ (by decide +kernel)
  have q4 : (Cond.eq (.length (.static RX0 "PUTS" "[I")) (.int (Int32.ofNat 26))).before args s = true := hs _ (by decide +kernel)
  obtain ⟨t1, h1, T1⟩ := va_Tof (f := qx_takes) (N := 26) (A := fun q => s.heap.size ≤ q) (by decide) q1 (va_eqt q2) (fun j hj => va_eqt (hs _ (start_T j hj))) hA
  obtain ⟨t2, h2, T2⟩ := va_Tof (f := qx_puts) (N := 26) (A := fun q => s.heap.size ≤ q) (by decide) q3 (va_eqt q4) (fun j hj => va_eqt (hs _ (start_U j hj))) hA
  exact ⟨t1, t2, va_Zof (hts _ qx_t413) (hB _ qx_iniRX0) h1 hA, va_Zof (hts _ qx_t415) (hB _ qx_iniRX0) h2 hA, T1, T2⟩
theorem start_RX : RX (bgY (iF 5 0 10000 4 8 (fun _ _ _ => 0))) := by
  generalize hx : (iF 5 0 10000 4 8 (fun _ _ _ => 0) : qx_St) = x
  have xz : ∀ f i j, f ≠ 5 → x f i j = 0 := fun f i j h => by rw [← hx, iF_f h]
  have x5 : ∀ q, x 5 0 q = if 8 ≤ q ∧ q < 12 then 10000 else 0 := fun q => by rw [← hx, iF_g]
  generalize hz : bgY x = z
  unfold bgY at hz
  have zx : ∀ f, f ≠ 30 ∧ f ≠ 31 → z f = x f := fun f h => by
    rw [← hz, iF_f h.2]
    simp (disch := omega) only [qp_st_f]
  have z31 : ∀ u, u < 4 → z 31 0 u = 10000 := fun u hu => by rw [← hz, iF_g, if_pos (by omega)]
  have z30 : ∀ j, z 30 0 j = 0 := fun j => by
    rw [← hz, iF_f (by decide)]
    rw [qp_st_r, qp_st_r, qp_st_r, qp_st_r, qp_st_r, qp_st_r, qp_st_r, xz 30 0 j (by decide)]
    simp
  have zz : ∀ f i j, f ≠ 5 → f ≠ 30 ∧ f ≠ 31 → z f i j = 0 := fun f i j h h2 => by rw [zx f h2]; exact xz f i j h
  refine ⟨0, 0, 0, ⟨by omega, zz 1 0 1 (by decide) (by decide), z30 0, fun i hi => absurd hi (by omega), fun i hi => absurd hi (by omega), fun i _ _ => ⟨zz 17 i 3 (by decide) (by decide), zz 17 i 4 (by decide) (by decide)⟩⟩, ⟨fun q hq => absurd hq (by omega), fun q _ _ => zz 4 0 q (by decide) (by decide), fun q hq => absurd hq (by omega), fun c _ h2 => by rw [zx 5 (by decide), x5 c, if_neg (by omega)], fun u hu => by rw [zx 5 (by decide), x5 _, if_pos (by omega), z31 u hu], by rw [zx 5 (by decide), x5 _, if_neg (by omega), z30 3], by omega, zz 3 0 3 (by decide) (by decide), z30 30, fun j hj => absurd hj (by omega)⟩, ⟨zz 7 0 6 (by decide) (by decide), z30 36, by omega, fun k _ h2 _ => absurd h2 (by omega), (zz 7 0 8 (by decide) (by decide)).trans (z30 10).symm, (zz 7 0 9 (by decide) (by decide)).trans (z30 11).symm, (zz 7 0 1 (by decide) (by decide)).trans (z30 44).symm, fun _ => rfl, fun h => absurd (zz 7 0 1 (by decide) (by decide)) h⟩⟩
set_option maxHeartbeats 8000000 in
set_option maxRecDepth 100000 in
theorem whole_start {p : Program} {e : Env} {s : State} {m : MethodId} {below : List Frame} {meth : Method} {c : Code} (l : Launch) {b L : Nat} {xs : Nat → Int32} (hL : L ≤ 3584) (C0 : lw_At p s m meth c b L xs) : W p l e room_1 s m #[Value.ref b] below meth c s.heap [] 0 0 (lw_Z below #[Value.ref b] s) (entryFrame m ([Value.ref b] : List Value).toArray 4) := by
  obtain ⟨hx, hb, hr, hml, hown, hts, hX, hbl, hlk, hgv⟩ := C0
  obtain ⟨D, ca, hK⟩ := start_K hts
  obtain ⟨t1, t2, hst⟩ := start_S hts hgv
  obtain ⟨K, hKe⟩ : ∃ K : qx_Cx, K = (p, l, e, room_1, s, m, #[Value.ref b], below, meth, c) := ⟨_, rfl⟩
  obtain ⟨G, hG⟩ : ∃ G : qx_Gx, G = (D, ca, fun q => s.heap.size ≤ q) := ⟨_, rfl⟩
  have X : qx_Ok K G t1 t2 cL_law RL 4 := by
    subst hKe
    subst hG
    exact ⟨hx, hb, hml, hown, fun w hw => hts w (List.mem_filter.mp hw).1, hK, ⟨va_Nw.of rfl (hts _ qx_t60), va_Nw.of rfl (hts _ qx_t143), va_Nw.of rfl (hts _ qx_t199), va_Nw.of rfl (hts _ qx_t262), va_Nw.of rfl (hts _ qx_t330)⟩, hst, va_AO.of (hts _ qx_t58), va_AO.of (hts _ qx_t195), va_AO.of (hts _ qx_t197)⟩
  have hA : ∀ q, K.2.2.2.2.1.heap.size ≤ q → G.2.2 q := by
    subst hKe
    subst hG
    exact fun q h => h
  have hA2 : ∀ q, G.2.2 q → s.heap.size ≤ q := by
    subst hG
    exact fun q h => h
  have hbA : ¬ G.2.2 b := fun h => by have := hA2 b h; omega
  have hR : K.2.2.2.1 = room_1 := by rw [hKe]
  have hX' : va_X b L xs K.2.2.2.2.1 K.2.2.2.2.1.heap := by rw [hKe]; exact hX
  have hbl' : b < K.2.2.2.2.1.heap.size := by rw [hKe]; exact hbl
  have V : qx_V K G 4 0 0 (lw_Z below #[Value.ref b] s) ([], (fun _ _ => 0), fun _ _ _ => none) (fun _ _ _ => 0) 0 [(0, .ref b)] [] := by
    refine cx_newo (f := 0) (i := 0) (pc := 0) X hA rfl qx_cpX9 rfl dvX9 (fun h => by cases h) (fun j => rfl) qx_kRL_7 qx_inRX9 qx_iniRX9 (by rw [hR]; decide) (by rw [hR]; decide) dL_law_0 (fun a0 => ?_)
    refine qx_dup (pc := 3) X dL_law_3 rfl ?_
    have A0 := wN_G (w := (([], (fun _ _ => 0), fun _ _ _ => none) : qx_Wx)) (f := 0) (i := 0) (a := a0) (fun h => by cases h)
    have C := nX9 K.2.1 G t1 t2 (wN ([], (fun _ _ => 0), fun _ _ _ => none) 0 0 a0) (fun _ _ _ => 0) wN_m (fun f i h q => by
      rcases (A0.1 f i).mp q with q | q
      · cases q
      · unfold N0 at h; omega) (fun _ _ _ => rfl)
    rw [wN_a] at C
    refine cx_callI (pc := 4) X hA [] [.ref a0] C qx_mcX9_init qx_lRL_9 qx_iX9_init rfl rfl ⟨rfl, rfl⟩ (by rw [hR]; decide) rfl (Nat.le_of_ble_eq_true rfl) dL_law_4 (by rw [hR]; decide) (fun w1 σ1 hp => ?_)
    obtain ⟨e1, G1, P1⟩ := hp
    have P1 : PX w1 := P1
    have ad0 : w1.2.1 0 0 = a0 := (G1.2.1 0 0 wN_m).trans wN_a
    refine qx_astore_n (lv' := [(1, .ref a0), (0, .ref b)]) (pc := 7) X dL_law_7 rfl (by decide) rfl ?_
    have n30 : ∀ f, 30 ≤ f → (f, 0) ∉ w1.1 := fun f h q => by
      rcases (G1.1 f 0).mp q with q | q
      · rcases (A0.1 f 0).mp q with q | q
        · cases q
        · omega
      · unfold N0 at q; omega
    have z1 : ∀ f i j, 30 ≤ f → σ1 f i j = 0 := fun f i j h => by rw [e1, iF_f (by omega)]
    refine cx_newo (f := 30) (i := 0) (pc := 8) X hA rfl qx_cpX10 rfl dvX10 (n30 30 (by omega)) (fun j => z1 30 0 j (by omega)) qx_kRL_10 qx_inRX10 qx_iniRX10 (by rw [hR]; decide) (by rw [hR]; decide) dL_law_8 (fun a30 => ?_)
    refine qx_dup (pc := 11) X dL_law_11 rfl ?_
    have A30 := wN_G (a := a30) (n30 30 (by omega))
    have m00 : (0, 0) ∈ w1.1 := (G1.1 0 0).mpr (Or.inl wN_m)
    have C2 := nX10 K.2.1 G t1 t2 (wN w1 30 0 a30) σ1 wN_m (fun f i h => (A30.1 f i).mpr (Or.inl (by
      rcases h with ⟨rfl, rfl⟩ | h
      · exact m00
      · exact (G1.1 f i).mpr (Or.inr h)))) (P1.mono A30 (fun _ _ _ _ h => h)) (fun f h1 h2 q => by
      rcases (A30.1 f 0).mp q with q | q
      · exact n30 f (by omega) q
      · omega) z1
    have e00 : (wN w1 30 0 a30).2.1 0 0 = a0 := (A30.2.1 0 0 m00).trans ad0
    rw [wN_a, e00] at C2
    refine cx_callI (pc := 12) X hA [] [.ref a30] C2 qx_mcX10_init qx_lRL_12 qx_iX10_init rfl rfl ⟨rfl, rfl⟩ (by rw [hR]; decide) rfl (Nat.le_of_ble_eq_true rfl) dL_law_12 (by rw [hR]; decide) (fun w2 σ2 hp => ?_)
    obtain ⟨ad, rfl, e2, h0, h30⟩ := hp
    refine qx_astore_n (lv' := [(2, .ref a30), (1, .ref a0), (0, .ref b)]) (pc := 15) X dL_law_15 rfl (by decide) rfl ?_
    refine qx_iconst (v := 0) (pc := 16) X dL_law_16 (by decide) ?_
    refine qx_istore_n (lv' := [(3, .int 0), (2, .ref a30), (1, .ref a0), (0, .ref b)]) (pc := 17) X dL_law_17 rfl (by decide) rfl ?_
    refine qx_lsub [3, 2, 1, 0] rfl ?_
    have hRX : RX σ2 := by rw [e2, e1]; exact start_RX
    have hV := kL_loop (ad := ad) K hKe X hr hlk hX' hbl' hbA hA2 (cells := 0 + 1 + 179 + 1 + 35) (slots := 0 + 4 + 3571 + 49 + 3316) (by decide) (L + 1) (nI (7 * 0)) σ2 (law_ok hL L 0 σ2 hRX (by omega) (by omega))
    rw [h0, h30] at hV
    exact hV
  have hl := lv_entry ([Value.ref b]) (n := 4) (Nat.le_of_ble_eq_true rfl)
  rw [lg_entry_eq]
  have W0 := V s.heap [] _ (fun k q h => by cases h) ⟨fun i j p q h => (by cases h), fun k q h => (by cases h)⟩ (by rw [hKe]; exact va_S.rf) hl
  rw [hKe] at W0
  exact W0
