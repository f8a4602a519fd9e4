def wX9_within (p0 : Int32) (p1 : Int32) (p2 : Int32) (σ : qx_St) (post : Int32 → qx_St → Prop) : Prop := ((p0 < p1 → post (0 : Int32) σ) ∧ (¬ (p0 < p1) → ((p2 < p0 → post (0 : Int32) σ) ∧ (¬ (p2 < p0) → post (1 : Int32) σ))))
set_option maxHeartbeats 4000000 in
set_option maxRecDepth 100000 in
theorem kX9_within (l : Launch) (G : qx_Gx) (t1 t2 : Nat) (ad : Nat → Nat → Nat) (p0 : Int32) (p1 : Int32) (p2 : Int32) (σ : qx_St) (post : Int32 → qx_St → Prop) (hw : wX9_within p0 p1 p2 σ post) : qx_Mi l G t1 t2 (qx_w0 ad) yX9_within cX9_within 3 (some .boolean) { frames := 0, cells := 0, slots := 0, locals := 0 } [.int p0, .int p1, .int p2] σ post := by
  unfold wX9_within at hw
  refine qx_start qx_mcX9_within (Nat.le_of_ble_eq_true rfl) (fun K hKl hR X hr hlk => ?_)
  subst hKl
  refine (show qx_V K G 3 0 0 (MQ K.2.2.2.2.2.2.2.1 (va_Qi post (qx_B G (qx_w0 ad)) G.2.2) K.2.2.2.2.2.2.1 K.2.2.2.2.1 0 0 G.2.2) (qx_w0 ad) σ 0 [(0, .int p0), (1, .int p1), (2, .int p2)] [] from ?_)
  refine qx_iload_n (pc := 0) X 0 dX9_within_0 rfl rfl ?_
  refine qx_iload_n (pc := 1) X 1 dX9_within_1 rfl rfl ?_
  refine qx_icmp_lt (tgt := 14) (pc := 2) X dX9_within_2 (by decide) (fun c2 => ?_) (fun c2 => ?_)
  · have hw := hw.1 c2
    refine qx_iconst (v := 0) (pc := 14) X dX9_within_14 (by decide) ?_
    exact qx_zret (pc := 15) X hr hlk (Or.inl rfl) hw dX9_within_15
  · have hw := hw.2 c2
    refine qx_iload_n (pc := 5) X 0 dX9_within_5 rfl rfl ?_
    refine qx_iload_n (pc := 6) X 2 dX9_within_6 rfl rfl ?_
    refine qx_icmp_gt (tgt := 14) (pc := 7) X dX9_within_7 (by decide) (fun c1 => ?_) (fun c1 => ?_)
    · have hw := hw.1 c1
      refine qx_iconst (v := 0) (pc := 14) X dX9_within_14 (by decide) ?_
      exact qx_zret (pc := 15) X hr hlk (Or.inl rfl) hw dX9_within_15
    · have hw := hw.2 c1
      refine qx_iconst (v := 1) (pc := 10) X dX9_within_10 (by decide) ?_
      refine qx_goto (tgt := 15) (pc := 11) X dX9_within_11 (by decide) ?_
      exact qx_zret (pc := 15) X hr hlk (Or.inr rfl) hw dX9_within_15
def wX0_fits (p0 : Int32) (p1 : Int32) (p2 : Int32) (σ : qx_St) (post : Int32 → qx_St → Prop) : Prop := ((p0 = (6 : Int32) → wX9_within p1 (0 : Int32) (7 : Int32) σ (fun r3 s2 => (qx_vz r3 ∧ post r3 s2))) ∧ (p0 = (7 : Int32) → wX9_within p1 (0 : Int32) (7 : Int32) σ (fun r5 s4 => (qx_vz r5 ∧ post r5 s4))) ∧ (p0 = (8 : Int32) → wX9_within p0 (0 : Int32) (25 : Int32) σ (fun r7 s6 => (qx_vz r7 ∧ post r7 s6))) ∧ (p0 = (9 : Int32) → wX9_within p0 (0 : Int32) (25 : Int32) σ (fun r9 s8 => (qx_vz r9 ∧ post r9 s8))) ∧ (p0 = (10 : Int32) → wX9_within p0 (0 : Int32) (25 : Int32) σ (fun r11 s10 => (qx_vz r11 ∧ post r11 s10))) ∧ (p0 = (11 : Int32) → wX9_within p0 (0 : Int32) (25 : Int32) σ (fun r13 s12 => (qx_vz r13 ∧ post r13 s12))) ∧ (p0 = (12 : Int32) → wX9_within p0 (0 : Int32) (25 : Int32) σ (fun r15 s14 => (qx_vz r15 ∧ post r15 s14))) ∧ (p0 = (13 : Int32) → wX9_within p0 (0 : Int32) (25 : Int32) σ (fun r17 s16 => (qx_vz r17 ∧ post r17 s16))) ∧ (p0 = (14 : Int32) → wX9_within p1 (1 : Int32) (20 : Int32) σ (fun r19 s18 => (qx_vz r19 ∧ post r19 s18))) ∧ (p0 = (15 : Int32) → wX9_within p1 (1 : Int32) (20 : Int32) σ (fun r21 s20 => (qx_vz r21 ∧ post r21 s20))) ∧ (p0 = (16 : Int32) → wX9_within p0 (0 : Int32) (25 : Int32) σ (fun r23 s22 => (qx_vz r23 ∧ post r23 s22))) ∧ (p0 = (17 : Int32) → wX9_within p0 (0 : Int32) (25 : Int32) σ (fun r25 s24 => (qx_vz r25 ∧ post r25 s24))) ∧ (p0 = (18 : Int32) → wX9_within p0 (0 : Int32) (25 : Int32) σ (fun r27 s26 => (qx_vz r27 ∧ post r27 s26))) ∧ (p0 = (19 : Int32) → wX9_within p1 (0 : Int32) (7 : Int32) σ (fun r29 s28 => ((r29 = 0 → post (0 : Int32) s28) ∧ (¬ (r29 = 0) → wX9_within p2 (0 : Int32) (3 : Int32) s28 (fun r31 s30 => ((r31 = 0 → post (0 : Int32) s30) ∧ (¬ (r31 = 0) → post (1 : Int32) s30))))))) ∧ (p0 = (20 : Int32) → wX9_within p1 (0 : Int32) (7 : Int32) σ (fun r35 s34 => ((r35 = 0 → post (0 : Int32) s34) ∧ (¬ (r35 = 0) → wX9_within p2 (0 : Int32) (3 : Int32) s34 (fun r37 s36 => ((r37 = 0 → post (0 : Int32) s36) ∧ (¬ (r37 = 0) → post (1 : Int32) s36))))))) ∧ (p0 = (21 : Int32) → wX9_within p1 (0 : Int32) (7 : Int32) σ (fun r41 s40 => ((r41 = 0 → post (0 : Int32) s40) ∧ (¬ (r41 = 0) → wX9_within p2 (0 : Int32) (3 : Int32) s40 (fun r43 s42 => ((r43 = 0 → post (0 : Int32) s42) ∧ (¬ (r43 = 0) → post (1 : Int32) s42))))))) ∧ (p0 = (22 : Int32) → wX9_within p0 (0 : Int32) (25 : Int32) σ (fun r47 s46 => (qx_vz r47 ∧ post r47 s46))) ∧ (p0 = (23 : Int32) → wX9_within p1 (0 : Int32) (3 : Int32) σ (fun r49 s48 => (qx_vz r49 ∧ post r49 s48))) ∧ (p0 = (24 : Int32) → wX9_within p0 (0 : Int32) (25 : Int32) σ (fun r51 s50 => (qx_vz r51 ∧ post r51 s50))) ∧ (p0 = (25 : Int32) → wX9_within p1 (10 : Int32) (99 : Int32) σ (fun r53 s52 => (qx_vz r53 ∧ post r53 s52))) ∧ ((∀ i : Nat, i < 20 → ¬ p0 = Int32.ofInt (6 + i)) → wX9_within p0 (0 : Int32) (25 : Int32) σ (fun r55 s54 => (qx_vz r55 ∧ post r55 s54))))
set_option maxHeartbeats 4000000 in
set_option maxRecDepth 100000 in
theorem kX0_fits (l : Launch) (G : qx_Gx) (t1 t2 : Nat) (ad : Nat → Nat → Nat) (p0 : Int32) (p1 : Int32) (p2 : Int32) (σ : qx_St) (post : Int32 → qx_St → Prop) (hw : wX0_fits p0 p1 p2 σ post) : qx_Mi l G t1 t2 (qx_w0 ad) yX0_fits cX0_fits 3 (some .boolean) { frames := 1, cells := 0, slots := 0, locals := 22 } [.int p0, .int p1, .int p2] σ post := by
  unfold wX0_fits at hw
  refine qx_start qx_mcX0_fits (Nat.le_of_ble_eq_true rfl) (fun K hKl hR X hr hlk => ?_)
  subst hKl
  refine (show qx_V K G 3 0 0 (MQ K.2.2.2.2.2.2.2.1 (va_Qi post (qx_B G (qx_w0 ad)) G.2.2) K.2.2.2.2.2.2.1 K.2.2.2.2.1 0 0 G.2.2) (qx_w0 ad) σ 0 [(0, .int p0), (1, .int p1), (2, .int p2)] [] from ?_)
  refine qx_iload_n (pc := 0) X 0 dX0_fits_0 rfl rfl ?_
  refine qx_switch (pc := 1) X (tgt := 153) (fun i => ([96, 96, 153, 153, 153, 153, 153, 153, 104, 104, 153, 153, 153, 112, 112, 112, 153, 137, 153, 144] : List Nat).getD i 0) dX0_fits_1 (by decide) (by decide) (by decide) (by decide) ?_ ?_
  · intro i hi s1
    have hi2 : i < 20 := hi
    rcases (show i = 0 ∨ i = 1 ∨ i = 2 ∨ i = 3 ∨ i = 4 ∨ i = 5 ∨ i = 6 ∨ i = 7 ∨ i = 8 ∨ i = 9 ∨ i = 10 ∨ i = 11 ∨ i = 12 ∨ i = 13 ∨ i = 14 ∨ i = 15 ∨ i = 16 ∨ i = 17 ∨ i = 18 ∨ i = 19 by omega) with rfl | rfl | rfl | rfl | rfl | rfl | rfl | rfl | rfl | rfl | rfl | rfl | rfl | rfl | rfl | rfl | rfl | rfl | rfl | rfl
    · have hw := hw.1 (s1.trans (by decide))
      refine qx_iload_n (pc := 96) X 1 dX0_fits_96 rfl rfl ?_
      refine qx_iconst (v := 0) (pc := 97) X dX0_fits_97 (by decide) ?_
      refine qx_bipush (v := 7) (pc := 98) X dX0_fits_98 (by decide) ?_
      refine qx_callSNi (pc := 100) X [.int p1, .int (0 : Int32), .int (7 : Int32)] [] (kX9_within K.2.1 G t1 t2 ad p1 (0 : Int32) (7 : Int32) σ _ hw) qx_mcX9_within (X.2.2.2.2.2.2.1.2.2.2.2) qx_sX9_within rfl ⟨rfl, rfl⟩ (by rw [hR]; decide) rfl (Nat.le_of_ble_eq_true rfl) dX0_fits_100 ⟨Nat.zero_le _, Nat.zero_le _⟩ (fun r3 s2 hw => ?_)
      exact qx_zret (pc := 103) X hr hlk hw.1 hw.2 dX0_fits_103
    · have hw := hw.2.1 (s1.trans (by decide))
      refine qx_iload_n (pc := 96) X 1 dX0_fits_96 rfl rfl ?_
      refine qx_iconst (v := 0) (pc := 97) X dX0_fits_97 (by decide) ?_
      refine qx_bipush (v := 7) (pc := 98) X dX0_fits_98 (by decide) ?_
      refine qx_callSNi (pc := 100) X [.int p1, .int (0 : Int32), .int (7 : Int32)] [] (kX9_within K.2.1 G t1 t2 ad p1 (0 : Int32) (7 : Int32) σ _ hw) qx_mcX9_within (X.2.2.2.2.2.2.1.2.2.2.2) qx_sX9_within rfl ⟨rfl, rfl⟩ (by rw [hR]; decide) rfl (Nat.le_of_ble_eq_true rfl) dX0_fits_100 ⟨Nat.zero_le _, Nat.zero_le _⟩ (fun r5 s4 hw => ?_)
      exact qx_zret (pc := 103) X hr hlk hw.1 hw.2 dX0_fits_103
    · have hw := hw.2.2.1 (s1.trans (by decide))
      refine qx_iload_n (pc := 153) X 0 dX0_fits_153 rfl rfl ?_
      refine qx_iconst (v := 0) (pc := 154) X dX0_fits_154 (by decide) ?_
      refine qx_bipush (v := 25) (pc := 155) X dX0_fits_155 (by decide) ?_
      refine qx_callSNi (pc := 157) X [.int p0, .int (0 : Int32), .int (25 : Int32)] [] (kX9_within K.2.1 G t1 t2 ad p0 (0 : Int32) (25 : Int32) σ _ hw) qx_mcX9_within (X.2.2.2.2.2.2.1.2.2.2.2) qx_sX9_within rfl ⟨rfl, rfl⟩ (by rw [hR]; decide) rfl (Nat.le_of_ble_eq_true rfl) dX0_fits_157 ⟨Nat.zero_le _, Nat.zero_le _⟩ (fun r7 s6 hw => ?_)
      exact qx_zret (pc := 160) X hr hlk hw.1 hw.2 dX0_fits_160
    · have hw := hw.2.2.2.1 (s1.trans (by decide))
      refine qx_iload_n (pc := 153) X 0 dX0_fits_153 rfl rfl ?_
      refine qx_iconst (v := 0) (pc := 154) X dX0_fits_154 (by decide) ?_
      refine qx_bipush (v := 25) (pc := 155) X dX0_fits_155 (by decide) ?_
      refine qx_callSNi (pc := 157) X [.int p0, .int (0 : Int32), .int (25 : Int32)] [] (kX9_within K.2.1 G t1 t2 ad p0 (0 : Int32) (25 : Int32) σ _ hw) qx_mcX9_within (X.2.2.2.2.2.2.1.2.2.2.2) qx_sX9_within rfl ⟨rfl, rfl⟩ (by rw [hR]; decide) rfl (Nat.le_of_ble_eq_true rfl) dX0_fits_157 ⟨Nat.zero_le _, Nat.zero_le _⟩ (fun r9 s8 hw => ?_)
      exact qx_zret (pc := 160) X hr hlk hw.1 hw.2 dX0_fits_160
    · have hw := hw.2.2.2.2.1 (s1.trans (by decide))
      refine qx_iload_n (pc := 153) X 0 dX0_fits_153 rfl rfl ?_
      refine qx_iconst (v := 0) (pc := 154) X dX0_fits_154 (by decide) ?_
      refine qx_bipush (v := 25) (pc := 155) X dX0_fits_155 (by decide) ?_
      refine qx_callSNi (pc := 157) X [.int p0, .int (0 : Int32), .int (25 : Int32)] [] (kX9_within K.2.1 G t1 t2 ad p0 (0 : Int32) (25 : Int32) σ _ hw) qx_mcX9_within (X.2.2.2.2.2.2.1.2.2.2.2) qx_sX9_within rfl ⟨rfl, rfl⟩ (by rw [hR]; decide) rfl (Nat.le_of_ble_eq_true rfl) dX0_fits_157 ⟨Nat.zero_le _, Nat.zero_le _⟩ (fun r11 s10 hw => ?_)
      exact qx_zret (pc := 160) X hr hlk hw.1 hw.2 dX0_fits_160
    · have hw := hw.2.2.2.2.2.1 (s1.trans (by decide))
      refine qx_iload_n (pc := 153) X 0 dX0_fits_153 rfl rfl ?_
      refine qx_iconst (v := 0) (pc := 154) X dX0_fits_154 (by decide) ?_
      refine qx_bipush (v := 25) (pc := 155) X dX0_fits_155 (by decide) ?_
      refine qx_callSNi (pc := 157) X [.int p0, .int (0 : Int32), .int (25 : Int32)] [] (kX9_within K.2.1 G t1 t2 ad p0 (0 : Int32) (25 : Int32) σ _ hw) qx_mcX9_within (X.2.2.2.2.2.2.1.2.2.2.2) qx_sX9_within rfl ⟨rfl, rfl⟩ (by rw [hR]; decide) rfl (Nat.le_of_ble_eq_true rfl) dX0_fits_157 ⟨Nat.zero_le _, Nat.zero_le _⟩ (fun r13 s12 hw => ?_)
      exact qx_zret (pc := 160) X hr hlk hw.1 hw.2 dX0_fits_160
    · have hw := hw.2.2.2.2.2.2.1 (s1.trans (by decide))
      refine qx_iload_n (pc := 153) X 0 dX0_fits_153 rfl rfl ?_
      refine qx_iconst (v := 0) (pc := 154) X dX0_fits_154 (by decide) ?_
      refine qx_bipush (v := 25) (pc := 155) X dX0_fits_155 (by decide) ?_
      refine qx_callSNi (pc := 157) X [.int p0, .int (0 : Int32), .int (25 : Int32)] [] (kX9_within K.2.1 G t1 t2 ad p0 (0 : Int32) (25 : Int32) σ _ hw) qx_mcX9_within (X.2.2.2.2.2.2.1.2.2.2.2) qx_sX9_within rfl ⟨rfl, rfl⟩ (by rw [hR]; decide) rfl (Nat.le_of_ble_eq_true rfl) dX0_fits_157 ⟨Nat.zero_le _, Nat.zero_le _⟩ (fun r15 s14 hw => ?_)
      exact qx_zret (pc := 160) X hr hlk hw.1 hw.2 dX0_fits_160
    · have hw := hw.2.2.2.2.2.2.2.1 (s1.trans (by decide))
      refine qx_iload_n (pc := 153) X 0 dX0_fits_153 rfl rfl ?_
      refine qx_iconst (v := 0) (pc := 154) X dX0_fits_154 (by decide) ?_
      refine qx_bipush (v := 25) (pc := 155) X dX0_fits_155 (by decide) ?_
      refine qx_callSNi (pc := 157) X [.int p0, .int (0 : Int32), .int (25 : Int32)] [] (kX9_within K.2.1 G t1 t2 ad p0 (0 : Int32) (25 : Int32) σ _ hw) qx_mcX9_within (X.2.2.2.2.2.2.1.2.2.2.2) qx_sX9_within rfl ⟨rfl, rfl⟩ (by rw [hR]; decide) rfl (Nat.le_of_ble_eq_true rfl) dX0_fits_157 ⟨Nat.zero_le _, Nat.zero_le _⟩ (fun r17 s16 hw => ?_)
      exact qx_zret (pc := 160) X hr hlk hw.1 hw.2 dX0_fits_160
    · have hw := hw.2.2.2.2.2.2.2.2.1 (s1.trans (by decide))
      refine qx_iload_n (pc := 104) X 1 dX0_fits_104 rfl rfl ?_
      refine qx_iconst (v := 1) (pc := 105) X dX0_fits_105 (by decide) ?_
      refine qx_bipush (v := 20) (pc := 106) X dX0_fits_106 (by decide) ?_
      refine qx_callSNi (pc := 108) X [.int p1, .int (1 : Int32), .int (20 : Int32)] [] (kX9_within K.2.1 G t1 t2 ad p1 (1 : Int32) (20 : Int32) σ _ hw) qx_mcX9_within (X.2.2.2.2.2.2.1.2.2.2.2) qx_sX9_within rfl ⟨rfl, rfl⟩ (by rw [hR]; decide) rfl (Nat.le_of_ble_eq_true rfl) dX0_fits_108 ⟨Nat.zero_le _, Nat.zero_le _⟩ (fun r19 s18 hw => ?_)
      exact qx_zret (pc := 111) X hr hlk hw.1 hw.2 dX0_fits_111
    · have hw := hw.2.2.2.2.2.2.2.2.2.1 (s1.trans (by decide))
      refine qx_iload_n (pc := 104) X 1 dX0_fits_104 rfl rfl ?_
      refine qx_iconst (v := 1) (pc := 105) X dX0_fits_105 (by decide) ?_
      refine qx_bipush (v := 20) (pc := 106) X dX0_fits_106 (by decide) ?_
      refine qx_callSNi (pc := 108) X [.int p1, .int (1 : Int32), .int (20 : Int32)] [] (kX9_within K.2.1 G t1 t2 ad p1 (1 : Int32) (20 : Int32) σ _ hw) qx_mcX9_within (X.2.2.2.2.2.2.1.2.2.2.2) qx_sX9_within rfl ⟨rfl, rfl⟩ (by rw [hR]; decide) rfl (Nat.le_of_ble_eq_true rfl) dX0_fits_108 ⟨Nat.zero_le _, Nat.zero_le _⟩ (fun r21 s20 hw => ?_)
      exact qx_zret (pc := 111) X hr hlk hw.1 hw.2 dX0_fits_111
    · have hw := hw.2.2.2.2.2.2.2.2.2.2.1 (s1.trans (by decide))
      refine qx_iload_n (pc := 153) X 0 dX0_fits_153 rfl rfl ?_
      refine qx_iconst (v := 0) (pc := 154) X dX0_fits_154 (by decide) ?_
      refine qx_bipush (v := 25) (pc := 155) X dX0_fits_155 (by decide) ?_
      refine qx_callSNi (pc := 157) X [.int p0, .int (0 : Int32), .int (25 : Int32)] [] (kX9_within K.2.1 G t1 t2 ad p0 (0 : Int32) (25 : Int32) σ _ hw) qx_mcX9_within (X.2.2.2.2.2.2.1.2.2.2.2) qx_sX9_within rfl ⟨rfl, rfl⟩ (by rw [hR]; decide) rfl (Nat.le_of_ble_eq_true rfl) dX0_fits_157 ⟨Nat.zero_le _, Nat.zero_le _⟩ (fun r23 s22 hw => ?_)
      exact qx_zret (pc := 160) X hr hlk hw.1 hw.2 dX0_fits_160
    · have hw := hw.2.2.2.2.2.2.2.2.2.2.2.1 (s1.trans (by decide))
      refine qx_iload_n (pc := 153) X 0 dX0_fits_153 rfl rfl ?_
      refine qx_iconst (v := 0) (pc := 154) X dX0_fits_154 (by decide) ?_
      refine qx_bipush (v := 25) (pc := 155) X dX0_fits_155 (by decide) ?_
      refine qx_callSNi (pc := 157) X [.int p0, .int (0 : Int32), .int (25 : Int32)] [] (kX9_within K.2.1 G t1 t2 ad p0 (0 : Int32) (25 : Int32) σ _ hw) qx_mcX9_within (X.2.2.2.2.2.2.1.2.2.2.2) qx_sX9_within rfl ⟨rfl, rfl⟩ (by rw [hR]; decide) rfl (Nat.le_of_ble_eq_true rfl) dX0_fits_157 ⟨Nat.zero_le _, Nat.zero_le _⟩ (fun r25 s24 hw => ?_)
      exact qx_zret (pc := 160) X hr hlk hw.1 hw.2 dX0_fits_160
    · have hw := hw.2.2.2.2.2.2.2.2.2.2.2.2.1 (s1.trans (by decide))
      refine qx_iload_n (pc := 153) X 0 dX0_fits_153 rfl rfl ?_
      refine qx_iconst (v := 0) (pc := 154) X dX0_fits_154 (by decide) ?_
      refine qx_bipush (v := 25) (pc := 155) X dX0_fits_155 (by decide) ?_
      refine qx_callSNi (pc := 157) X [.int p0, .int (0 : Int32), .int (25 : Int32)] [] (kX9_within K.2.1 G t1 t2 ad p0 (0 : Int32) (25 : Int32) σ _ hw) qx_mcX9_within (X.2.2.2.2.2.2.1.2.2.2.2) qx_sX9_within rfl ⟨rfl, rfl⟩ (by rw [hR]; decide) rfl (Nat.le_of_ble_eq_true rfl) dX0_fits_157 ⟨Nat.zero_le _, Nat.zero_le _⟩ (fun r27 s26 hw => ?_)
      exact qx_zret (pc := 160) X hr hlk hw.1 hw.2 dX0_fits_160
    · have hw := hw.2.2.2.2.2.2.2.2.2.2.2.2.2.1 (s1.trans (by decide))
      refine qx_iload_n (pc := 112) X 1 dX0_fits_112 rfl rfl ?_
      refine qx_iconst (v := 0) (pc := 113) X dX0_fits_113 (by decide) ?_
      refine qx_bipush (v := 7) (pc := 114) X dX0_fits_114 (by decide) ?_
      refine qx_callSNi (pc := 116) X [.int p1, .int (0 : Int32), .int (7 : Int32)] [] (kX9_within K.2.1 G t1 t2 ad p1 (0 : Int32) (7 : Int32) σ _ hw) qx_mcX9_within (X.2.2.2.2.2.2.1.2.2.2.2) qx_sX9_within rfl ⟨rfl, rfl⟩ (by rw [hR]; decide) rfl (Nat.le_of_ble_eq_true rfl) dX0_fits_116 ⟨Nat.zero_le _, Nat.zero_le _⟩ (fun r29 s28 hw => ?_)
      refine qx_if_eq (tgt := 135) (pc := 119) X dX0_fits_119 (by decide) (fun c33 => ?_) (fun c33 => ?_)
      · have hw := hw.1 c33
        refine qx_iconst (v := 0) (pc := 135) X dX0_fits_135 (by decide) ?_
        exact qx_zret (pc := 136) X hr hlk (Or.inl rfl) hw dX0_fits_136
      · have hw := hw.2 c33
        refine qx_iload_n (pc := 122) X 2 dX0_fits_122 rfl rfl ?_
        refine qx_iconst (v := 0) (pc := 123) X dX0_fits_123 (by decide) ?_
        refine qx_iconst (v := 3) (pc := 124) X dX0_fits_124 (by decide) ?_
        refine qx_callSNi (pc := 125) X [.int p2, .int (0 : Int32), .int (3 : Int32)] [] (kX9_within K.2.1 G t1 t2 ad p2 (0 : Int32) (3 : Int32) s28 _ hw) qx_mcX9_within (X.2.2.2.2.2.2.1.2.2.2.2) qx_sX9_within rfl ⟨rfl, rfl⟩ (by rw [hR]; decide) rfl (Nat.le_of_ble_eq_true rfl) dX0_fits_125 ⟨Nat.zero_le _, Nat.zero_le _⟩ (fun r31 s30 hw => ?_)
        refine qx_if_eq (tgt := 135) (pc := 128) X dX0_fits_128 (by decide) (fun c32 => ?_) (fun c32 => ?_)
        · have hw := hw.1 c32
          refine qx_iconst (v := 0) (pc := 135) X dX0_fits_135 (by decide) ?_
          exact qx_zret (pc := 136) X hr hlk (Or.inl rfl) hw dX0_fits_136
        · have hw := hw.2 c32
          refine qx_iconst (v := 1) (pc := 131) X dX0_fits_131 (by decide) ?_
          refine qx_goto (tgt := 136) (pc := 132) X dX0_fits_132 (by decide) ?_
          exact qx_zret (pc := 136) X hr hlk (Or.inr rfl) hw dX0_fits_136
    · have hw := hw.2.2.2.2.2.2.2.2.2.2.2.2.2.2.1 (s1.trans (by decide))
      refine qx_iload_n (pc := 112) X 1 dX0_fits_112 rfl rfl ?_
      refine qx_iconst (v := 0) (pc := 113) X dX0_fits_113 (by decide) ?_
      refine qx_bipush (v := 7) (pc := 114) X dX0_fits_114 (by decide) ?_
      refine qx_callSNi (pc := 116) X [.int p1, .int (0 : Int32), .int (7 : Int32)] [] (kX9_within K.2.1 G t1 t2 ad p1 (0 : Int32) (7 : Int32) σ _ hw) qx_mcX9_within (X.2.2.2.2.2.2.1.2.2.2.2) qx_sX9_within rfl ⟨rfl, rfl⟩ (by rw [hR]; decide) rfl (Nat.le_of_ble_eq_true rfl) dX0_fits_116 ⟨Nat.zero_le _, Nat.zero_le _⟩ (fun r35 s34 hw => ?_)
      refine qx_if_eq (tgt := 135) (pc := 119) X dX0_fits_119 (by decide) (fun c39 => ?_) (fun c39 => ?_)
      · have hw := hw.1 c39
        refine qx_iconst (v := 0) (pc := 135) X dX0_fits_135 (by decide) ?_
        exact qx_zret (pc := 136) X hr hlk (Or.inl rfl) hw dX0_fits_136
      · have hw := hw.2 c39
        refine qx_iload_n (pc := 122) X 2 dX0_fits_122 rfl rfl ?_
        refine qx_iconst (v := 0) (pc := 123) X dX0_fits_123 (by decide) ?_
        refine qx_iconst (v := 3) (pc := 124) X dX0_fits_124 (by decide) ?_
        refine qx_callSNi (pc := 125) X [.int p2, .int (0 : Int32), .int (3 : Int32)] [] (kX9_within K.2.1 G t1 t2 ad p2 (0 : Int32) (3 : Int32) s34 _ hw) qx_mcX9_within (X.2.2.2.2.2.2.1.2.2.2.2) qx_sX9_within rfl ⟨rfl, rfl⟩ (by rw [hR]; decide) rfl (Nat.le_of_ble_eq_true rfl) dX0_fits_125 ⟨Nat.zero_le _, Nat.zero_le _⟩ (fun r37 s36 hw => ?_)
        refine qx_if_eq (tgt := 135) (pc := 128) X dX0_fits_128 (by decide) (fun c38 => ?_) (fun c38 => ?_)
        · have hw := hw.1 c38
          refine qx_iconst (v := 0) (pc := 135) X dX0_fits_135 (by decide) ?_
          exact qx_zret (pc := 136) X hr hlk (Or.inl rfl) hw dX0_fits_136
        · have hw := hw.2 c38
          refine qx_iconst (v := 1) (pc := 131) X dX0_fits_131 (by decide) ?_
          refine qx_goto (tgt := 136) (pc := 132) X dX0_fits_132 (by decide) ?_
          exact qx_zret (pc := 136) X hr hlk (Or.inr rfl) hw dX0_fits_136
    · have hw := hw.2.2.2.2.2.2.2.2.2.2.2.2.2.2.2.1 (s1.trans (by decide))
      refine qx_iload_n (pc := 112) X 1 dX0_fits_112 rfl rfl ?_
      refine qx_iconst (v := 0) (pc := 113) X dX0_fits_113 (by decide) ?_
      refine qx_bipush (v := 7) (pc := 114) X dX0_fits_114 (by decide) ?_
      refine qx_callSNi (pc := 116) X [.int p1, .int (0 : Int32), .int (7 : Int32)] [] (kX9_within K.2.1 G t1 t2 ad p1 (0 : Int32) (7 : Int32) σ _ hw) qx_mcX9_within (X.2.2.2.2.2.2.1.2.2.2.2) qx_sX9_within rfl ⟨rfl, rfl⟩ (by rw [hR]; decide) rfl (Nat.le_of_ble_eq_true rfl) dX0_fits_116 ⟨Nat.zero_le _, Nat.zero_le _⟩ (fun r41 s40 hw => ?_)
      refine qx_if_eq (tgt := 135) (pc := 119) X dX0_fits_119 (by decide) (fun c45 => ?_) (fun c45 => ?_)
      · have hw := hw.1 c45
        refine qx_iconst (v := 0) (pc := 135) X dX0_fits_135 (by decide) ?_
        exact qx_zret (pc := 136) X hr hlk (Or.inl rfl) hw dX0_fits_136
      · have hw := hw.2 c45
        refine qx_iload_n (pc := 122) X 2 dX0_fits_122 rfl rfl ?_
        refine qx_iconst (v := 0) (pc := 123) X dX0_fits_123 (by decide) ?_
        refine qx_iconst (v := 3) (pc := 124) X dX0_fits_124 (by decide) ?_
        refine qx_callSNi (pc := 125) X [.int p2, .int (0 : Int32), .int (3 : Int32)] [] (kX9_within K.2.1 G t1 t2 ad p2 (0 : Int32) (3 : Int32) s40 _ hw) qx_mcX9_within (X.2.2.2.2.2.2.1.2.2.2.2) qx_sX9_within rfl ⟨rfl, rfl⟩ (by rw [hR]; decide) rfl (Nat.le_of_ble_eq_true rfl) dX0_fits_125 ⟨Nat.zero_le _, Nat.zero_le _⟩ (fun r43 s42 hw => ?_)
        refine qx_if_eq (tgt := 135) (pc := 128) X dX0_fits_128 (by decide) (fun c44 => ?_) (fun c44 => ?_)
        · have hw := hw.1 c44
          refine qx_iconst (v := 0) (pc := 135) X dX0_fits_135 (by decide) ?_
          exact qx_zret (pc := 136) X hr hlk (Or.inl rfl) hw dX0_fits_136
        · have hw := hw.2 c44
          refine qx_iconst (v := 1) (pc := 131) X dX0_fits_131 (by decide) ?_
          refine qx_goto (tgt := 136) (pc := 132) X dX0_fits_132 (by decide) ?_
          exact qx_zret (pc := 136) X hr hlk (Or.inr rfl) hw dX0_fits_136
    · have hw := hw.2.2.2.2.2.2.2.2.2.2.2.2.2.2.2.2.1 (s1.trans (by decide))
      refine qx_iload_n (pc := 153) X 0 dX0_fits_153 rfl rfl ?_
      refine qx_iconst (v := 0) (pc := 154) X dX0_fits_154 (by decide) ?_
      refine qx_bipush (v := 25) (pc := 155) X dX0_fits_155 (by decide) ?_
      refine qx_callSNi (pc := 157) X [.int p0, .int (0 : Int32), .int (25 : Int32)] [] (kX9_within K.2.1 G t1 t2 ad p0 (0 : Int32) (25 : Int32) σ _ hw) qx_mcX9_within (X.2.2.2.2.2.2.1.2.2.2.2) qx_sX9_within rfl ⟨rfl, rfl⟩ (by rw [hR]; decide) rfl (Nat.le_of_ble_eq_true rfl) dX0_fits_157 ⟨Nat.zero_le _, Nat.zero_le _⟩ (fun r47 s46 hw => ?_)
      exact qx_zret (pc := 160) X hr hlk hw.1 hw.2 dX0_fits_160
    · have hw := hw.2.2.2.2.2.2.2.2.2.2.2.2.2.2.2.2.2.1 (s1.trans (by decide))
      refine qx_iload_n (pc := 137) X 1 dX0_fits_137 rfl rfl ?_
      refine qx_iconst (v := 0) (pc := 138) X dX0_fits_138 (by decide) ?_
      refine qx_iconst (v := 3) (pc := 139) X dX0_fits_139 (by decide) ?_
      refine qx_callSNi (pc := 140) X [.int p1, .int (0 : Int32), .int (3 : Int32)] [] (kX9_within K.2.1 G t1 t2 ad p1 (0 : Int32) (3 : Int32) σ _ hw) qx_mcX9_within (X.2.2.2.2.2.2.1.2.2.2.2) qx_sX9_within rfl ⟨rfl, rfl⟩ (by rw [hR]; decide) rfl (Nat.le_of_ble_eq_true rfl) dX0_fits_140 ⟨Nat.zero_le _, Nat.zero_le _⟩ (fun r49 s48 hw => ?_)
      exact qx_zret (pc := 143) X hr hlk hw.1 hw.2 dX0_fits_143
    · have hw := hw.2.2.2.2.2.2.2.2.2.2.2.2.2.2.2.2.2.2.1 (s1.trans (by decide))
      refine qx_iload_n (pc := 153) X 0 dX0_fits_153 rfl rfl ?_
      refine qx_iconst (v := 0) (pc := 154) X dX0_fits_154 (by decide) ?_
      refine qx_bipush (v := 25) (pc := 155) X dX0_fits_155 (by decide) ?_
      refine qx_callSNi (pc := 157) X [.int p0, .int (0 : Int32), .int (25 : Int32)] [] (kX9_within K.2.1 G t1 t2 ad p0 (0 : Int32) (25 : Int32) σ _ hw) qx_mcX9_within (X.2.2.2.2.2.2.1.2.2.2.2) qx_sX9_within rfl ⟨rfl, rfl⟩ (by rw [hR]; decide) rfl (Nat.le_of_ble_eq_true rfl) dX0_fits_157 ⟨Nat.zero_le _, Nat.zero_le _⟩ (fun r51 s50 hw => ?_)
      exact qx_zret (pc := 160) X hr hlk hw.1 hw.2 dX0_fits_160
    · have hw := hw.2.2.2.2.2.2.2.2.2.2.2.2.2.2.2.2.2.2.2.1 (s1.trans (by decide))
      refine qx_iload_n (pc := 144) X 1 dX0_fits_144 rfl rfl ?_
      refine qx_bipush (v := 10) (pc := 145) X dX0_fits_145 (by decide) ?_
      refine qx_bipush (v := 99) (pc := 147) X dX0_fits_147 (by decide) ?_
      refine qx_callSNi (pc := 149) X [.int p1, .int (10 : Int32), .int (99 : Int32)] [] (kX9_within K.2.1 G t1 t2 ad p1 (10 : Int32) (99 : Int32) σ _ hw) qx_mcX9_within (X.2.2.2.2.2.2.1.2.2.2.2) qx_sX9_within rfl ⟨rfl, rfl⟩ (by rw [hR]; decide) rfl (Nat.le_of_ble_eq_true rfl) dX0_fits_149 ⟨Nat.zero_le _, Nat.zero_le _⟩ (fun r53 s52 hw => ?_)
      exact qx_zret (pc := 152) X hr hlk hw.1 hw.2 dX0_fits_152
  · intro s1
    have hw := hw.2.2.2.2.2.2.2.2.2.2.2.2.2.2.2.2.2.2.2.2 s1
    refine qx_iload_n (pc := 153) X 0 dX0_fits_153 rfl rfl ?_
    refine qx_iconst (v := 0) (pc := 154) X dX0_fits_154 (by decide) ?_
    refine qx_bipush (v := 25) (pc := 155) X dX0_fits_155 (by decide) ?_
    refine qx_callSNi (pc := 157) X [.int p0, .int (0 : Int32), .int (25 : Int32)] [] (kX9_within K.2.1 G t1 t2 ad p0 (0 : Int32) (25 : Int32) σ _ hw) qx_mcX9_within (X.2.2.2.2.2.2.1.2.2.2.2) qx_sX9_within rfl ⟨rfl, rfl⟩ (by rw [hR]; decide) rfl (Nat.le_of_ble_eq_true rfl) dX0_fits_157 ⟨Nat.zero_le _, Nat.zero_le _⟩ (fun r55 s54 hw => ?_)
    exact qx_zret (pc := 160) X hr hlk hw.1 hw.2 dX0_fits_160
def wX0_writes (p0 : Int32) (σ : qx_St) (post : Int32 → qx_St → Prop) : Prop := ((p0 = (7 : Int32) → post (1 : Int32) σ) ∧ (¬ (p0 = (7 : Int32)) → ((p0 = (22 : Int32) → post (1 : Int32) σ) ∧ (¬ (p0 = (22 : Int32)) → ((p0 = (23 : Int32) → post (1 : Int32) σ) ∧ (¬ (p0 = (23 : Int32)) → post (0 : Int32) σ))))))
set_option maxHeartbeats 4000000 in
set_option maxRecDepth 100000 in
theorem kX0_writes (l : Launch) (G : qx_Gx) (t1 t2 : Nat) (ad : Nat → Nat → Nat) (p0 : Int32) (σ : qx_St) (post : Int32 → qx_St → Prop) (hw : wX0_writes p0 σ post) : qx_Mi l G t1 t2 (qx_w0 ad) yX0_writes cX0_writes 1 (some .boolean) { frames := 0, cells := 0, slots := 0, locals := 0 } [.int p0] σ post := by
  unfold wX0_writes at hw
  refine qx_start qx_mcX0_writes (Nat.le_of_ble_eq_true rfl) (fun K hKl hR X hr hlk => ?_)
  subst hKl
  refine (show qx_V K G 1 0 0 (MQ K.2.2.2.2.2.2.2.1 (va_Qi post (qx_B G (qx_w0 ad)) G.2.2) K.2.2.2.2.2.2.1 K.2.2.2.2.1 0 0 G.2.2) (qx_w0 ad) σ 0 [(0, .int p0)] [] from ?_)
  refine qx_iload_n (pc := 0) X 0 dX0_writes_0 rfl rfl ?_
  refine qx_bipush (v := 7) (pc := 1) X dX0_writes_1 (by decide) ?_
  refine qx_icmp_eq (tgt := 18) (pc := 3) X dX0_writes_3 (by decide) (fun c3 => ?_) (fun c3 => ?_)
  · have hw := hw.1 c3
    refine qx_iconst (v := 1) (pc := 18) X dX0_writes_18 (by decide) ?_
    refine qx_goto (tgt := 23) (pc := 19) X dX0_writes_19 (by decide) ?_
    exact qx_zret (pc := 23) X hr hlk (Or.inr rfl) hw dX0_writes_23
  · have hw := hw.2 c3
    refine qx_iload_n (pc := 6) X 0 dX0_writes_6 rfl rfl ?_
    refine qx_bipush (v := 22) (pc := 7) X dX0_writes_7 (by decide) ?_
    refine qx_icmp_eq (tgt := 18) (pc := 9) X dX0_writes_9 (by decide) (fun c2 => ?_) (fun c2 => ?_)
    · have hw := hw.1 c2
      refine qx_iconst (v := 1) (pc := 18) X dX0_writes_18 (by decide) ?_
      refine qx_goto (tgt := 23) (pc := 19) X dX0_writes_19 (by decide) ?_
      exact qx_zret (pc := 23) X hr hlk (Or.inr rfl) hw dX0_writes_23
    · have hw := hw.2 c2
      refine qx_iload_n (pc := 12) X 0 dX0_writes_12 rfl rfl ?_
      refine qx_bipush (v := 23) (pc := 13) X dX0_writes_13 (by decide) ?_
      refine qx_icmp_ne (tgt := 22) (pc := 15) X dX0_writes_15 (by decide) (fun c1 => ?_) (fun c1 => ?_)
      · have hw := hw.2 c1
        refine qx_iconst (v := 0) (pc := 22) X dX0_writes_22 (by decide) ?_
        exact qx_zret (pc := 23) X hr hlk (Or.inl rfl) hw dX0_writes_23
      · have hw := hw.1 c1
        refine qx_iconst (v := 1) (pc := 18) X dX0_writes_18 (by decide) ?_
        refine qx_goto (tgt := 23) (pc := 19) X dX0_writes_19 (by decide) ?_
        exact qx_zret (pc := 23) X hr hlk (Or.inr rfl) hw dX0_writes_23
def wX0_fitsStack (p0 : Int32) (p1 : Int32) (σ : qx_St) (post : Int32 → qx_St → Prop) : Prop := (vp_in p0 26 ∧ ((p1 < (qx_takesI p0.toNatClampNeg) → post (0 : Int32) σ) ∧ (¬ (p1 < (qx_takesI p0.toNatClampNeg)) → (vp_in p0 26 ∧ (vp_in p0 26 ∧ (((8 : Int32) < ((p1 - (qx_takesI p0.toNatClampNeg)) + (qx_putsI p0.toNatClampNeg)) → post (0 : Int32) σ) ∧ (¬ ((8 : Int32) < ((p1 - (qx_takesI p0.toNatClampNeg)) + (qx_putsI p0.toNatClampNeg))) → post (1 : Int32) σ)))))))
set_option maxHeartbeats 4000000 in
set_option maxRecDepth 100000 in
theorem kX0_fitsStack (l : Launch) (G : qx_Gx) (t1 t2 : Nat) (ad : Nat → Nat → Nat) (p0 : Int32) (p1 : Int32) (σ : qx_St) (post : Int32 → qx_St → Prop) (hw : wX0_fitsStack p0 p1 σ post) : qx_Mi l G t1 t2 (qx_w0 ad) yX0_fitsStack cX0_fitsStack 2 (some .boolean) { frames := 0, cells := 0, slots := 0, locals := 0 } [.int p0, .int p1] σ post := by
  unfold wX0_fitsStack at hw
  refine qx_start qx_mcX0_fitsStack (Nat.le_of_ble_eq_true rfl) (fun K hKl hR X hr hlk => ?_)
  subst hKl
  refine (show qx_V K G 2 0 0 (MQ K.2.2.2.2.2.2.2.1 (va_Qi post (qx_B G (qx_w0 ad)) G.2.2) K.2.2.2.2.2.2.1 K.2.2.2.2.1 0 0 G.2.2) (qx_w0 ad) σ 0 [(0, .int p0), (1, .int p1)] [] from ?_)
  refine qx_iload_n (pc := 0) X 1 dX0_fitsStack_0 rfl rfl ?_
  refine qx_gets1 (pc := 1) X qx_sfTAKES dX0_fitsStack_1 ?_
  refine qx_iload_n (pc := 4) X 0 dX0_fitsStack_4 rfl rfl ?_
  refine qx_tab1 (pc := 5) X hw.1 dX0_fitsStack_5 ?_
  have hw := hw.2
  refine qx_icmp_lt (tgt := 31) (pc := 6) X dX0_fitsStack_6 (by decide) (fun c2 => ?_) (fun c2 => ?_)
  · have hw := hw.1 c2
    refine qx_iconst (v := 0) (pc := 31) X dX0_fitsStack_31 (by decide) ?_
    exact qx_zret (pc := 32) X hr hlk (Or.inl rfl) hw dX0_fitsStack_32
  · have hw := hw.2 c2
    refine qx_iload_n (pc := 9) X 1 dX0_fitsStack_9 rfl rfl ?_
    refine qx_gets1 (pc := 10) X qx_sfTAKES dX0_fitsStack_10 ?_
    refine qx_iload_n (pc := 13) X 0 dX0_fitsStack_13 rfl rfl ?_
    refine qx_tab1 (pc := 14) X hw.1 dX0_fitsStack_14 ?_
    have hw := hw.2
    refine qx_isub (pc := 15) X dX0_fitsStack_15 ?_
    refine qx_gets2 (pc := 16) X qx_sfPUTS dX0_fitsStack_16 ?_
    refine qx_iload_n (pc := 19) X 0 dX0_fitsStack_19 rfl rfl ?_
    refine qx_tab2 (pc := 20) X hw.1 dX0_fitsStack_20 ?_
    have hw := hw.2
    refine qx_iadd (pc := 21) X dX0_fitsStack_21 ?_
    refine qx_bipush (v := 8) (pc := 22) X dX0_fitsStack_22 (by decide) ?_
    refine qx_icmp_gt (tgt := 31) (pc := 24) X dX0_fitsStack_24 (by decide) (fun c1 => ?_) (fun c1 => ?_)
    · have hw := hw.1 c1
      refine qx_iconst (v := 0) (pc := 31) X dX0_fitsStack_31 (by decide) ?_
      exact qx_zret (pc := 32) X hr hlk (Or.inl rfl) hw dX0_fitsStack_32
    · have hw := hw.2 c1
      refine qx_iconst (v := 1) (pc := 27) X dX0_fitsStack_27 (by decide) ?_
      refine qx_goto (tgt := 32) (pc := 28) X dX0_fitsStack_28 (by decide) ?_
      exact qx_zret (pc := 32) X hr hlk (Or.inr rfl) hw dX0_fitsStack_32
def wX1_begin (d0 : Nat) (p1 : Int32) (p2 : Int32) (p3 : Int32) (p4 : Int32) (p5 : Int32) (σ : qx_St) (post : qx_St → Prop) : Prop := (∀ s1, s1 = qx_st σ 12 d0 2 p1 → (∀ s3, s3 = qx_st s1 12 d0 3 p2 → (∀ s5, s5 = qx_st s3 12 d0 4 p3 → (∀ s7, s7 = qx_st s5 12 d0 5 p4 → (∀ s9, s9 = qx_st s7 12 d0 8 p5 → (∀ s11, s11 = qx_st s9 12 d0 9 p5 → (∀ s13, s13 = qx_st s11 12 d0 1 (0 : Int32) → (∀ s15, s15 = qx_st s13 12 d0 10 (0 : Int32) → (∀ s17, s17 = qx_st s15 12 d0 11 (0 : Int32) → (∀ s19, s19 = qx_st s17 12 d0 12 (0 : Int32) → (∀ s21, s21 = qx_st s19 12 d0 13 (0 : Int32) → post s21)))))))))))
set_option maxHeartbeats 4000000 in
set_option maxRecDepth 100000 in
theorem kX1_begin (l : Launch) (G : qx_Gx) (t1 t2 : Nat) (ad : Nat → Nat → Nat) (d0 : Nat) (p1 : Int32) (p2 : Int32) (p3 : Int32) (p4 : Int32) (p5 : Int32) (hd0 : d0 < 8) (σ : qx_St) (post : qx_St → Prop) (hw : wX1_begin d0 p1 p2 p3 p4 p5 σ post) : qx_Mv l G t1 t2 (qx_w0 ad) yX1_begin cX1_begin 6 none { frames := 0, cells := 0, slots := 0, locals := 0 } [.ref (ad 12 d0), .int p1, .int p2, .int p3, .int p4, .int p5] σ post := by
  unfold wX1_begin at hw
  refine qx_start qx_mcX1_begin (Nat.le_of_ble_eq_true rfl) (fun K hKl hR X hr hlk => ?_)
  subst hKl
  refine (show qx_V K G 6 0 0 (MQ K.2.2.2.2.2.2.2.1 (va_Qv post (qx_B G (qx_w0 ad)) G.2.2) K.2.2.2.2.2.2.1 K.2.2.2.2.1 0 0 G.2.2) (qx_w0 ad) σ 0 [(0, .ref (ad 12 d0)), (1, .int p1), (2, .int p2), (3, .int p3), (4, .int p4), (5, .int p5)] [] from ?_)
  refine qx_aload_n (pc := 0) X 0 dX1_begin_0 rfl rfl ?_
  refine qx_iload_n (pc := 1) X 1 dX1_begin_1 rfl rfl ?_
  refine qx_puti1 (f := 12) (i := d0) (pc := 2) X qx_pRX1_13 (qx_me12 hd0) dX1_begin_2 (fun s1 e2 => ?_)
  have hw := hw s1 e2
  refine qx_aload_n (pc := 5) X 0 dX1_begin_5 rfl rfl ?_
  refine qx_iload_n (pc := 6) X 2 dX1_begin_6 rfl rfl ?_
  refine qx_puti1 (f := 12) (i := d0) (pc := 7) X qx_pRX1_17 (qx_me12 hd0) dX1_begin_7 (fun s3 e4 => ?_)
  have hw := hw s3 e4
  refine qx_aload_n (pc := 10) X 0 dX1_begin_10 rfl rfl ?_
  refine qx_iload_n (pc := 11) X 3 dX1_begin_11 rfl rfl ?_
  refine qx_puti1 (f := 12) (i := d0) (pc := 12) X qx_pRX1_20 (qx_me12 hd0) dX1_begin_12 (fun s5 e6 => ?_)
  have hw := hw s5 e6
  refine qx_aload_n (pc := 15) X 0 dX1_begin_15 rfl rfl ?_
  refine qx_iload (pc := 16) X 4 dX1_begin_16 rfl ?_
  refine qx_puti1 (f := 12) (i := d0) (pc := 18) X qx_pRX1_23 (qx_me12 hd0) dX1_begin_18 (fun s7 e8 => ?_)
  have hw := hw s7 e8
  refine qx_aload_n (pc := 21) X 0 dX1_begin_21 rfl rfl ?_
  refine qx_iload (pc := 22) X 5 dX1_begin_22 rfl ?_
  refine qx_puti1 (f := 12) (i := d0) (pc := 24) X qx_pRX1_26 (qx_me12 hd0) dX1_begin_24 (fun s9 e10 => ?_)
  have hw := hw s9 e10
  refine qx_aload_n (pc := 27) X 0 dX1_begin_27 rfl rfl ?_
  refine qx_iload (pc := 28) X 5 dX1_begin_28 rfl ?_
  refine qx_puti1 (f := 12) (i := d0) (pc := 30) X qx_pRX1_29 (qx_me12 hd0) dX1_begin_30 (fun s11 e12 => ?_)
  have hw := hw s11 e12
  refine qx_aload_n (pc := 33) X 0 dX1_begin_33 rfl rfl ?_
  refine qx_iconst (v := 0) (pc := 34) X dX1_begin_34 (by decide) ?_
  refine qx_puti1 (f := 12) (i := d0) (pc := 35) X qx_pRX1_32 (qx_me12 hd0) dX1_begin_35 (fun s13 e14 => ?_)
  have hw := hw s13 e14
  refine qx_aload_n (pc := 38) X 0 dX1_begin_38 rfl rfl ?_
  refine qx_iconst (v := 0) (pc := 39) X dX1_begin_39 (by decide) ?_
  refine qx_puti1 (f := 12) (i := d0) (pc := 40) X qx_pRX1_35 (qx_me12 hd0) dX1_begin_40 (fun s15 e16 => ?_)
  have hw := hw s15 e16
  refine qx_aload_n (pc := 43) X 0 dX1_begin_43 rfl rfl ?_
  refine qx_iconst (v := 0) (pc := 44) X dX1_begin_44 (by decide) ?_
  refine qx_putz1 (f := 12) (i := d0) (pc := 45) X qx_pRX1_38 (qx_me12 hd0) (Or.inl rfl) dX1_begin_45 (fun s17 e18 => ?_)
  have hw := hw s17 e18
  refine qx_aload_n (pc := 48) X 0 dX1_begin_48 rfl rfl ?_
  refine qx_iconst (v := 0) (pc := 49) X dX1_begin_49 (by decide) ?_
  refine qx_puti1 (f := 12) (i := d0) (pc := 50) X qx_pRX1_44 (qx_me12 hd0) dX1_begin_50 (fun s19 e20 => ?_)
  have hw := hw s19 e20
  refine qx_aload_n (pc := 53) X 0 dX1_begin_53 rfl rfl ?_
  refine qx_iconst (v := 0) (pc := 54) X dX1_begin_54 (by decide) ?_
  refine qx_puti1 (f := 12) (i := d0) (pc := 55) X qx_pRX1_47 (qx_me12 hd0) dX1_begin_55 (fun s21 e22 => ?_)
  have hw := hw s21 e22
  exact qx_vret (pc := 58) X hr hlk hw dX1_begin_58
def wX1_used (d0 : Nat) (σ : qx_St) (post : Int32 → qx_St → Prop) : Prop := post ((σ 12 d0 8) - (σ 12 d0 9)) σ
set_option maxHeartbeats 4000000 in
set_option maxRecDepth 100000 in
theorem kX1_used (l : Launch) (G : qx_Gx) (t1 t2 : Nat) (ad : Nat → Nat → Nat) (d0 : Nat) (hd0 : d0 < 8) (σ : qx_St) (post : Int32 → qx_St → Prop) (hw : wX1_used d0 σ post) : qx_Mi l G t1 t2 (qx_w0 ad) yX1_used cX1_used 1 (some .int) { frames := 0, cells := 0, slots := 0, locals := 0 } [.ref (ad 12 d0)] σ post := by
  unfold wX1_used at hw
  refine qx_start qx_mcX1_used (Nat.le_of_ble_eq_true rfl) (fun K hKl hR X hr hlk => ?_)
  subst hKl
  refine (show qx_V K G 1 0 0 (MQ K.2.2.2.2.2.2.2.1 (va_Qi post (qx_B G (qx_w0 ad)) G.2.2) K.2.2.2.2.2.2.1 K.2.2.2.2.1 0 0 G.2.2) (qx_w0 ad) σ 0 [(0, .ref (ad 12 d0))] [] from ?_)
  refine qx_aload_n (pc := 0) X 0 dX1_used_0 rfl rfl ?_
  refine qx_geti (f := 12) (i := d0) (pc := 1) X qx_gRX1_26 (qx_me12 hd0) dX1_used_1 ?_
  refine qx_aload_n (pc := 4) X 0 dX1_used_4 rfl rfl ?_
  refine qx_geti (f := 12) (i := d0) (pc := 5) X qx_gRX1_29 (qx_me12 hd0) dX1_used_5 ?_
  refine qx_isub (pc := 8) X dX1_used_8 ?_
  exact qx_iret (pc := 9) X hr hlk hw dX1_used_9
def wX1_hasThrown (d0 : Nat) (σ : qx_St) (post : Int32 → qx_St → Prop) : Prop := (((σ 12 d0 12) = 0 → post (0 : Int32) σ) ∧ (¬ ((σ 12 d0 12) = 0) → post (1 : Int32) σ))
set_option maxHeartbeats 4000000 in
set_option maxRecDepth 100000 in
theorem kX1_hasThrown (l : Launch) (G : qx_Gx) (t1 t2 : Nat) (ad : Nat → Nat → Nat) (d0 : Nat) (hd0 : d0 < 8) (σ : qx_St) (post : Int32 → qx_St → Prop) (hw : wX1_hasThrown d0 σ post) : qx_Mi l G t1 t2 (qx_w0 ad) yX1_hasThrown cX1_hasThrown 1 (some .boolean) { frames := 0, cells := 0, slots := 0, locals := 0 } [.ref (ad 12 d0)] σ post := by
  unfold wX1_hasThrown at hw
  refine qx_start qx_mcX1_hasThrown (Nat.le_of_ble_eq_true rfl) (fun K hKl hR X hr hlk => ?_)
  subst hKl
  refine (show qx_V K G 1 0 0 (MQ K.2.2.2.2.2.2.2.1 (va_Qi post (qx_B G (qx_w0 ad)) G.2.2) K.2.2.2.2.2.2.1 K.2.2.2.2.1 0 0 G.2.2) (qx_w0 ad) σ 0 [(0, .ref (ad 12 d0))] [] from ?_)
  refine qx_aload_n (pc := 0) X 0 dX1_hasThrown_0 rfl rfl ?_
  refine qx_geti (f := 12) (i := d0) (pc := 1) X qx_gRX1_44 (qx_me12 hd0) dX1_hasThrown_1 ?_
  refine qx_if_eq (tgt := 11) (pc := 4) X dX1_hasThrown_4 (by decide) (fun c1 => ?_) (fun c1 => ?_)
  · have hw := hw.1 c1
    refine qx_iconst (v := 0) (pc := 11) X dX1_hasThrown_11 (by decide) ?_
    exact qx_zret (pc := 12) X hr hlk (Or.inl rfl) hw dX1_hasThrown_12
  · have hw := hw.2 c1
    refine qx_iconst (v := 1) (pc := 7) X dX1_hasThrown_7 (by decide) ?_
    refine qx_goto (tgt := 12) (pc := 8) X dX1_hasThrown_8 (by decide) ?_
    exact qx_zret (pc := 12) X hr hlk (Or.inr rfl) hw dX1_hasThrown_12
def wX1_put (d0 : Nat) (p1 : Int32) (σ : qx_St) (post : qx_St → Prop) : Prop := (vp_in (σ 12 d0 1) 8 ∧ (∀ s1, s1 = qx_st σ 13 d0 (σ 12 d0 1).toNatClampNeg p1 → (∀ s3, s3 = qx_st s1 12 d0 1 ((s1 12 d0 1) + (1 : Int32)) → post s3)))
set_option maxHeartbeats 4000000 in
set_option maxRecDepth 100000 in
theorem kX1_put (l : Launch) (G : qx_Gx) (t1 t2 : Nat) (ad : Nat → Nat → Nat) (d0 : Nat) (p1 : Int32) (hd0 : d0 < 8) (σ : qx_St) (post : qx_St → Prop) (hw : wX1_put d0 p1 σ post) : qx_Mv l G t1 t2 (qx_w0 ad) yX1_put cX1_put 2 none { frames := 0, cells := 0, slots := 0, locals := 0 } [.ref (ad 12 d0), .int p1] σ post := by
  unfold wX1_put at hw
  refine qx_start qx_mcX1_put (Nat.le_of_ble_eq_true rfl) (fun K hKl hR X hr hlk => ?_)
  subst hKl
  refine (show qx_V K G 2 0 0 (MQ K.2.2.2.2.2.2.2.1 (va_Qv post (qx_B G (qx_w0 ad)) G.2.2) K.2.2.2.2.2.2.1 K.2.2.2.2.1 0 0 G.2.2) (qx_w0 ad) σ 0 [(0, .ref (ad 12 d0)), (1, .int p1)] [] from ?_)
  refine qx_aload_n (pc := 0) X 0 dX1_put_0 rfl rfl ?_
  refine qx_getr (f := 12) (i := d0) (a := ad 13 d0) (pc := 1) X qx_gRX1_9 (qx_me12 hd0) rfl dX1_put_1 ?_
  refine qx_aload_n (pc := 4) X 0 dX1_put_4 rfl rfl ?_
  refine qx_geti (f := 12) (i := d0) (pc := 5) X qx_gRX1_32 (qx_me12 hd0) dX1_put_5 ?_
  refine qx_iload_n (pc := 8) X 1 dX1_put_8 rfl rfl ?_
  refine qx_iast1 (f := 13) (i := d0) (pc := 9) X rfl (qx_me13 hd0) hw.1 dX1_put_9 (fun s1 e2 => ?_)
  have hw := hw.2
  have hw := hw s1 e2
  refine qx_aload_n (pc := 10) X 0 dX1_put_10 rfl rfl ?_
  refine qx_dup (pc := 11) X dX1_put_11 rfl ?_
  refine qx_geti (f := 12) (i := d0) (pc := 12) X qx_gRX1_32 (qx_me12 hd0) dX1_put_12 ?_
  refine qx_iconst (v := 1) (pc := 15) X dX1_put_15 (by decide) ?_
  refine qx_iadd (pc := 16) X dX1_put_16 ?_
  refine qx_puti1 (f := 12) (i := d0) (pc := 17) X qx_pRX1_32 (qx_me12 hd0) dX1_put_17 (fun s3 e4 => ?_)
  have hw := hw s3 e4
  exact qx_vret (pc := 20) X hr hlk hw dX1_put_20
def wX1_take (d0 : Nat) (σ : qx_St) (post : Int32 → qx_St → Prop) : Prop := (∀ s1, s1 = qx_st σ 12 d0 1 ((σ 12 d0 1) - (1 : Int32)) → (vp_in (s1 12 d0 1) 8 ∧ post (s1 13 d0 (s1 12 d0 1).toNatClampNeg) s1))
set_option maxHeartbeats 4000000 in
set_option maxRecDepth 100000 in
theorem kX1_take (l : Launch) (G : qx_Gx) (t1 t2 : Nat) (ad : Nat → Nat → Nat) (d0 : Nat) (hd0 : d0 < 8) (σ : qx_St) (post : Int32 → qx_St → Prop) (hw : wX1_take d0 σ post) : qx_Mi l G t1 t2 (qx_w0 ad) yX1_take cX1_take 1 (some .int) { frames := 0, cells := 0, slots := 0, locals := 0 } [.ref (ad 12 d0)] σ post := by
  unfold wX1_take at hw
  refine qx_start qx_mcX1_take (Nat.le_of_ble_eq_true rfl) (fun K hKl hR X hr hlk => ?_)
  subst hKl
  refine (show qx_V K G 1 0 0 (MQ K.2.2.2.2.2.2.2.1 (va_Qi post (qx_B G (qx_w0 ad)) G.2.2) K.2.2.2.2.2.2.1 K.2.2.2.2.1 0 0 G.2.2) (qx_w0 ad) σ 0 [(0, .ref (ad 12 d0))] [] from ?_)
  refine qx_aload_n (pc := 0) X 0 dX1_take_0 rfl rfl ?_
  refine qx_dup (pc := 1) X dX1_take_1 rfl ?_
  refine qx_geti (f := 12) (i := d0) (pc := 2) X qx_gRX1_32 (qx_me12 hd0) dX1_take_2 ?_
  refine qx_iconst (v := 1) (pc := 5) X dX1_take_5 (by decide) ?_
  refine qx_isub (pc := 6) X dX1_take_6 ?_
  refine qx_puti1 (f := 12) (i := d0) (pc := 7) X qx_pRX1_32 (qx_me12 hd0) dX1_take_7 (fun s1 e2 => ?_)
  have hw := hw s1 e2
  refine qx_aload_n (pc := 10) X 0 dX1_take_10 rfl rfl ?_
  refine qx_getr (f := 12) (i := d0) (a := ad 13 d0) (pc := 11) X qx_gRX1_9 (qx_me12 hd0) rfl dX1_take_11 ?_
  refine qx_aload_n (pc := 14) X 0 dX1_take_14 rfl rfl ?_
  refine qx_geti (f := 12) (i := d0) (pc := 15) X qx_gRX1_32 (qx_me12 hd0) dX1_take_15 ?_
  refine qx_iald (f := 13) (i := d0) (pc := 18) X rfl (qx_me13 hd0) hw.1 dX1_take_18 ?_
  have hw := hw.2
  exact qx_iret (pc := 19) X hr hlk hw dX1_take_19
def wX1_endGiving (d0 : Nat) (p1 : Int32) (σ : qx_St) (post : qx_St → Prop) : Prop := (∀ s1, s1 = qx_st σ 12 d0 11 (1 : Int32) → (∀ s3, s3 = qx_st s1 12 d0 13 p1 → post s3))
set_option maxHeartbeats 4000000 in
set_option maxRecDepth 100000 in
theorem kX1_endGiving (l : Launch) (G : qx_Gx) (t1 t2 : Nat) (ad : Nat → Nat → Nat) (d0 : Nat) (p1 : Int32) (hd0 : d0 < 8) (σ : qx_St) (post : qx_St → Prop) (hw : wX1_endGiving d0 p1 σ post) : qx_Mv l G t1 t2 (qx_w0 ad) yX1_endGiving cX1_endGiving 2 none { frames := 0, cells := 0, slots := 0, locals := 0 } [.ref (ad 12 d0), .int p1] σ post := by
  unfold wX1_endGiving at hw
  refine qx_start qx_mcX1_endGiving (Nat.le_of_ble_eq_true rfl) (fun K hKl hR X hr hlk => ?_)
  subst hKl
  refine (show qx_V K G 2 0 0 (MQ K.2.2.2.2.2.2.2.1 (va_Qv post (qx_B G (qx_w0 ad)) G.2.2) K.2.2.2.2.2.2.1 K.2.2.2.2.1 0 0 G.2.2) (qx_w0 ad) σ 0 [(0, .ref (ad 12 d0)), (1, .int p1)] [] from ?_)
  refine qx_aload_n (pc := 0) X 0 dX1_endGiving_0 rfl rfl ?_
  refine qx_iconst (v := 1) (pc := 1) X dX1_endGiving_1 (by decide) ?_
  refine qx_putz1 (f := 12) (i := d0) (pc := 2) X qx_pRX1_38 (qx_me12 hd0) (Or.inr rfl) dX1_endGiving_2 (fun s1 e2 => ?_)
  have hw := hw s1 e2
  refine qx_aload_n (pc := 5) X 0 dX1_endGiving_5 rfl rfl ?_
  refine qx_iload_n (pc := 6) X 1 dX1_endGiving_6 rfl rfl ?_
  refine qx_puti1 (f := 12) (i := d0) (pc := 7) X qx_pRX1_47 (qx_me12 hd0) dX1_endGiving_7 (fun s3 e4 => ?_)
  have hw := hw s3 e4
  exact qx_vret (pc := 10) X hr hlk hw dX1_endGiving_10
def wX1_endThrowing (d0 : Nat) (p1 : Int32) (σ : qx_St) (post : qx_St → Prop) : Prop := (∀ s1, s1 = qx_st σ 12 d0 11 (1 : Int32) → (∀ s3, s3 = qx_st s1 12 d0 12 p1 → post s3))
set_option maxHeartbeats 4000000 in
set_option maxRecDepth 100000 in
theorem kX1_endThrowing (l : Launch) (G : qx_Gx) (t1 t2 : Nat) (ad : Nat → Nat → Nat) (d0 : Nat) (p1 : Int32) (hd0 : d0 < 8) (σ : qx_St) (post : qx_St → Prop) (hw : wX1_endThrowing d0 p1 σ post) : qx_Mv l G t1 t2 (qx_w0 ad) yX1_endThrowing cX1_endThrowing 2 none { frames := 0, cells := 0, slots := 0, locals := 0 } [.ref (ad 12 d0), .int p1] σ post := by
  unfold wX1_endThrowing at hw
  refine qx_start qx_mcX1_endThrowing (Nat.le_of_ble_eq_true rfl) (fun K hKl hR X hr hlk => ?_)
  subst hKl
  refine (show qx_V K G 2 0 0 (MQ K.2.2.2.2.2.2.2.1 (va_Qv post (qx_B G (qx_w0 ad)) G.2.2) K.2.2.2.2.2.2.1 K.2.2.2.2.1 0 0 G.2.2) (qx_w0 ad) σ 0 [(0, .ref (ad 12 d0)), (1, .int p1)] [] from ?_)
  refine qx_aload_n (pc := 0) X 0 dX1_endThrowing_0 rfl rfl ?_
  refine qx_iconst (v := 1) (pc := 1) X dX1_endThrowing_1 (by decide) ?_
  refine qx_putz1 (f := 12) (i := d0) (pc := 2) X qx_pRX1_38 (qx_me12 hd0) (Or.inr rfl) dX1_endThrowing_2 (fun s1 e2 => ?_)
  have hw := hw s1 e2
  refine qx_aload_n (pc := 5) X 0 dX1_endThrowing_5 rfl rfl ?_
  refine qx_iload_n (pc := 6) X 1 dX1_endThrowing_6 rfl rfl ?_
  refine qx_puti1 (f := 12) (i := d0) (pc := 7) X qx_pRX1_44 (qx_me12 hd0) dX1_endThrowing_7 (fun s3 e4 => ?_)
  have hw := hw s3 e4
  exact qx_vret (pc := 10) X hr hlk hw dX1_endThrowing_10
def wX8_startCall (σ : qx_St) (post : qx_St → Prop) : Prop := (∀ s1, s1 = qx_st σ 3 0 3 (0 : Int32) → (∀ s3, s3 = qx_st s1 3 0 4 (0 : Int32) → post s3))
set_option maxHeartbeats 4000000 in
set_option maxRecDepth 100000 in
theorem kX8_startCall (l : Launch) (G : qx_Gx) (t1 t2 : Nat) (ad : Nat → Nat → Nat) (σ : qx_St) (post : qx_St → Prop) (hw : wX8_startCall  σ post) : qx_Mv l G t1 t2 (qx_w0 ad) yX8_startCall cX8_startCall 1 none { frames := 0, cells := 0, slots := 0, locals := 0 } [.ref (ad 3 0)] σ post := by
  unfold wX8_startCall at hw
  refine qx_start qx_mcX8_startCall (Nat.le_of_ble_eq_true rfl) (fun K hKl hR X hr hlk => ?_)
  subst hKl
  refine (show qx_V K G 1 0 0 (MQ K.2.2.2.2.2.2.2.1 (va_Qv post (qx_B G (qx_w0 ad)) G.2.2) K.2.2.2.2.2.2.1 K.2.2.2.2.1 0 0 G.2.2) (qx_w0 ad) σ 0 [(0, .ref (ad 3 0))] [] from ?_)
  refine qx_aload_n (pc := 0) X 0 dX8_startCall_0 rfl rfl ?_
  refine qx_iconst (v := 0) (pc := 1) X dX8_startCall_1 (by decide) ?_
  refine qx_puti1 (f := 3) (i := 0) (pc := 2) X qx_pRX8_36 qx_me3 dX8_startCall_2 (fun s1 e2 => ?_)
  have hw := hw s1 e2
  refine qx_aload_n (pc := 5) X 0 dX8_startCall_5 rfl rfl ?_
  refine qx_iconst (v := 0) (pc := 6) X dX8_startCall_6 (by decide) ?_
  refine qx_puti1 (f := 3) (i := 0) (pc := 7) X qx_pRX8_40 qx_me3 dX8_startCall_7 (fun s3 e4 => ?_)
  have hw := hw s3 e4
  exact qx_vret (pc := 10) X hr hlk hw dX8_startCall_10
def wX5_startCall (σ : qx_St) (post : qx_St → Prop) : Prop := (∀ s1, s1 = qx_st σ 7 0 6 (0 : Int32) → (∀ s3, s3 = qx_st s1 7 0 7 (0 : Int32) → post s3))
set_option maxHeartbeats 4000000 in
set_option maxRecDepth 100000 in
theorem kX5_startCall (l : Launch) (G : qx_Gx) (t1 t2 : Nat) (ad : Nat → Nat → Nat) (σ : qx_St) (post : qx_St → Prop) (hw : wX5_startCall  σ post) : qx_Mv l G t1 t2 (qx_w0 ad) yX5_startCall cX5_startCall 1 none { frames := 0, cells := 0, slots := 0, locals := 0 } [.ref (ad 7 0)] σ post := by
  unfold wX5_startCall at hw
  refine qx_start qx_mcX5_startCall (Nat.le_of_ble_eq_true rfl) (fun K hKl hR X hr hlk => ?_)
  subst hKl
  refine (show qx_V K G 1 0 0 (MQ K.2.2.2.2.2.2.2.1 (va_Qv post (qx_B G (qx_w0 ad)) G.2.2) K.2.2.2.2.2.2.1 K.2.2.2.2.1 0 0 G.2.2) (qx_w0 ad) σ 0 [(0, .ref (ad 7 0))] [] from ?_)
  refine qx_aload_n (pc := 0) X 0 dX5_startCall_0 rfl rfl ?_
  refine qx_iconst (v := 0) (pc := 1) X dX5_startCall_1 (by decide) ?_
  refine qx_puti1 (f := 7) (i := 0) (pc := 2) X qx_pRX5_27 qx_me7 dX5_startCall_2 (fun s1 e2 => ?_)
  have hw := hw s1 e2
  refine qx_aload_n (pc := 5) X 0 dX5_startCall_5 rfl rfl ?_
  refine qx_iconst (v := 0) (pc := 6) X dX5_startCall_6 (by decide) ?_
  refine qx_puti1 (f := 7) (i := 0) (pc := 7) X qx_pRX5_30 qx_me7 dX5_startCall_7 (fun s3 e4 => ?_)
  have hw := hw s3 e4
  exact qx_vret (pc := 10) X hr hlk hw dX5_startCall_10
def wX4_memberOf (p1 : Int32) (p2 : Int32) (σ : qx_St) (post : Nat → qx_St → Prop) : Prop := (vp_in ((p1 * (4 : Int32)) + p2) 32 ∧ post (((p1 * (4 : Int32)) + p2).toNatClampNeg) σ)
set_option maxHeartbeats 4000000 in
set_option maxRecDepth 100000 in
theorem kX4_memberOf (l : Launch) (G : qx_Gx) (t1 t2 : Nat) (ad : Nat → Nat → Nat) (p1 : Int32) (p2 : Int32) (σ : qx_St) (post : Nat → qx_St → Prop) (hw : wX4_memberOf p1 p2 σ post) : qx_Mr l G t1 t2 (qx_w0 ad) yX4_memberOf cX4_memberOf 3 (some (.object "ContractFrames$Member")) { frames := 0, cells := 0, slots := 0, locals := 0 } [.ref (ad 1 0), .int p1, .int p2] σ 17 post := by
  unfold wX4_memberOf at hw
  refine qx_start qx_mcX4_memberOf (Nat.le_of_ble_eq_true rfl) (fun K hKl hR X hr hlk => ?_)
  subst hKl
  refine (show qx_V K G 3 0 0 (MQ K.2.2.2.2.2.2.2.1 (va_Qr (fun u : Nat × qx_St => post u.1 u.2) (fun u a t => a = (qx_w0 ad).2.1 17 u.1 ∧ qx_B G (qx_w0 ad) u.2 t) G.2.2) K.2.2.2.2.2.2.1 K.2.2.2.2.1 0 0 G.2.2) (qx_w0 ad) σ 0 [(0, .ref (ad 1 0)), (1, .int p1), (2, .int p2)] [] from ?_)
  refine qx_aload_n (pc := 0) X 0 dX4_memberOf_0 rfl rfl ?_
  refine qx_getr (f := 1) (i := 0) (a := ad 2 0) (pc := 1) X qx_gRX4_11 qx_me1 rfl dX4_memberOf_1 ?_
  refine qx_iload_n (pc := 4) X 1 dX4_memberOf_4 rfl rfl ?_
  refine qx_iconst (v := 4) (pc := 5) X dX4_memberOf_5 (by decide) ?_
  refine qx_imul (pc := 6) X dX4_memberOf_6 ?_
  refine qx_iload_n (pc := 7) X 2 dX4_memberOf_7 rfl rfl ?_
  refine qx_iadd (pc := 8) X dX4_memberOf_8 ?_
  have hi1 := qx_lt hw.1
  refine qx_aald (f := 2) (i := 0) (a := ad 17 ((p1 * (4 : Int32)) + p2).toNatClampNeg) (pc := 9) X rfl rfl qx_me2 hw.1 (qx_r0q (ad := ad) (f := 2) (i := 0) (k := 2) (n := 32) (tg := 17) rfl hi1) dX4_memberOf_9 ?_
  have hw := hw.2
  exact qx_aret (f := 17) (i := ((p1 * (4 : Int32)) + p2).toNatClampNeg) (pc := 10) X hr hlk hw dX4_memberOf_10
def wX5_enter (p1 : Int32) (σ : qx_St) (post : Int32 → qx_St → Prop) : Prop := (∀ s1, s1 = qx_st σ 7 0 7 (if (σ 7 0 7) < p1 then p1 else (σ 7 0 7)) → (∀ s3, s3 = qx_st s1 7 0 6 ((s1 7 0 6) + (1 : Int32)) → post ((s3 7 0 6) - (1 : Int32)) s3))
set_option maxHeartbeats 4000000 in
set_option maxRecDepth 100000 in
theorem kX5_enter (l : Launch) (G : qx_Gx) (t1 t2 : Nat) (ad : Nat → Nat → Nat) (p1 : Int32) (σ : qx_St) (post : Int32 → qx_St → Prop) (hw : wX5_enter p1 σ post) : qx_Mi l G t1 t2 (qx_w0 ad) yX5_enter cX5_enter 2 (some .int) { frames := 1, cells := 0, slots := 0, locals := 24 } [.ref (ad 7 0), .int p1] σ post := by
  unfold wX5_enter at hw
  refine qx_start qx_mcX5_enter (Nat.le_of_ble_eq_true rfl) (fun K hKl hR X hr hlk => ?_)
  subst hKl
  refine (show qx_V K G 2 0 0 (MQ K.2.2.2.2.2.2.2.1 (va_Qi post (qx_B G (qx_w0 ad)) G.2.2) K.2.2.2.2.2.2.1 K.2.2.2.2.1 0 0 G.2.2) (qx_w0 ad) σ 0 [(0, .ref (ad 7 0)), (1, .int p1)] [] from ?_)
  refine qx_aload_n (pc := 0) X 0 dX5_enter_0 rfl rfl ?_
  refine qx_aload_n (pc := 1) X 0 dX5_enter_1 rfl rfl ?_
  refine qx_geti (f := 7) (i := 0) (pc := 2) X qx_gRX5_30 qx_me7 dX5_enter_2 ?_
  refine qx_iload_n (pc := 5) X 1 dX5_enter_5 rfl rfl ?_
  refine qx_mmax (pc := 6) X qx_lRX5_39 (by rw [hR]; decide) (by rw [hR]; exact Nat.le_of_ble_eq_true rfl) (Nat.zero_le _) (Nat.zero_le _) dX5_enter_6 ?_
  refine qx_puti1 (f := 7) (i := 0) (pc := 9) X qx_pRX5_30 qx_me7 dX5_enter_9 (fun s1 e2 => ?_)
  have hw := hw s1 e2
  refine qx_aload_n (pc := 12) X 0 dX5_enter_12 rfl rfl ?_
  refine qx_dup (pc := 13) X dX5_enter_13 rfl ?_
  refine qx_geti (f := 7) (i := 0) (pc := 14) X qx_gRX5_27 qx_me7 dX5_enter_14 ?_
  refine qx_iconst (v := 1) (pc := 17) X dX5_enter_17 (by decide) ?_
  refine qx_iadd (pc := 18) X dX5_enter_18 ?_
  refine qx_puti1 (f := 7) (i := 0) (pc := 19) X qx_pRX5_27 qx_me7 dX5_enter_19 (fun s3 e4 => ?_)
  have hw := hw s3 e4
  refine qx_aload_n (pc := 22) X 0 dX5_enter_22 rfl rfl ?_
  refine qx_geti (f := 7) (i := 0) (pc := 23) X qx_gRX5_27 qx_me7 dX5_enter_23 ?_
  refine qx_iconst (v := 1) (pc := 26) X dX5_enter_26 (by decide) ?_
  refine qx_isub (pc := 27) X dX5_enter_27 ?_
  exact qx_iret (pc := 28) X hr hlk hw dX5_enter_28
def wX6_keep (d0 : Nat) (σ : qx_St) (post : qx_St → Prop) : Prop := (∀ s1, s1 = qx_sa σ 15 d0 (va_cpy (σ 4 0) (σ 15 d0) ((0 : Int32)).toNatClampNeg ((0 : Int32)).toNatClampNeg ((64 : Int32)).toNatClampNeg) → (∀ s3, s3 = qx_sa s1 16 d0 (va_cpy (s1 5 0) (s1 16 d0) ((0 : Int32)).toNatClampNeg ((0 : Int32)).toNatClampNeg ((13 : Int32)).toNatClampNeg) → (∀ s5, s5 = qx_st s3 14 d0 2 (s3 3 0 3) → (∀ s7, s7 = qx_st s5 14 d0 3 (s5 3 0 4) → post s7))))
set_option maxHeartbeats 4000000 in
set_option maxRecDepth 100000 in
theorem kX6_keep (l : Launch) (G : qx_Gx) (t1 t2 : Nat) (ad : Nat → Nat → Nat) (d0 : Nat) (hd0 : d0 < 8) (σ : qx_St) (post : qx_St → Prop) (hw : wX6_keep d0 σ post) : qx_Mv l G t1 t2 (qx_w0 ad) yX6_keep cX6_keep 2 none { frames := 1, cells := 0, slots := 0, locals := 32 } [.ref (ad 14 d0), .ref (ad 3 0)] σ post := by
  unfold wX6_keep at hw
  refine qx_start qx_mcX6_keep (Nat.le_of_ble_eq_true rfl) (fun K hKl hR X hr hlk => ?_)
  subst hKl
  refine (show qx_V K G 2 0 0 (MQ K.2.2.2.2.2.2.2.1 (va_Qv post (qx_B G (qx_w0 ad)) G.2.2) K.2.2.2.2.2.2.1 K.2.2.2.2.1 0 0 G.2.2) (qx_w0 ad) σ 0 [(0, .ref (ad 14 d0)), (1, .ref (ad 3 0))] [] from ?_)
  refine qx_aload_n (pc := 0) X 1 dX6_keep_0 rfl rfl ?_
  refine qx_getr (f := 3) (i := 0) (a := ad 4 0) (pc := 1) X qx_gRX6_20 qx_me3 rfl dX6_keep_1 ?_
  refine qx_iconst (v := 0) (pc := 4) X dX6_keep_4 (by decide) ?_
  refine qx_aload_n (pc := 5) X 0 dX6_keep_5 rfl rfl ?_
  refine qx_getr (f := 14) (i := d0) (a := ad 15 d0) (pc := 6) X qx_gRX6_9 (qx_me14 hd0) rfl dX6_keep_6 ?_
  refine qx_iconst (v := 0) (pc := 9) X dX6_keep_9 (by decide) ?_
  refine qx_aload_n (pc := 10) X 0 dX6_keep_10 rfl rfl ?_
  refine qx_getr (f := 14) (i := d0) (a := ad 15 d0) (pc := 11) X qx_gRX6_9 (qx_me14 hd0) rfl dX6_keep_11 ?_
  refine qx_aleni (f := 15) (i := d0) (v := 64) (pc := 14) X rfl (qx_me15 hd0) rfl dX6_keep_14 ?_
  refine qx_copy1 (f := 4) (i := 0) (f' := 15) (i' := d0) (pc := 15) X qx_lRX6_21 rfl qx_me4 rfl (qx_me15 hd0) (by decide) (by decide) (by decide) (by decide) (by decide) (by rw [hR]; decide) (by rw [hR]; exact Nat.le_of_ble_eq_true rfl) dX6_keep_15 (fun s1 e2 => ?_)
  have hw := hw s1 e2
  refine qx_aload_n (pc := 18) X 1 dX6_keep_18 rfl rfl ?_
  refine qx_getr (f := 3) (i := 0) (a := ad 5 0) (pc := 19) X qx_gRX6_27 qx_me3 rfl dX6_keep_19 ?_
  refine qx_iconst (v := 0) (pc := 22) X dX6_keep_22 (by decide) ?_
  refine qx_aload_n (pc := 23) X 0 dX6_keep_23 rfl rfl ?_
  refine qx_getr (f := 14) (i := d0) (a := ad 16 d0) (pc := 24) X qx_gRX6_17 (qx_me14 hd0) rfl dX6_keep_24 ?_
  refine qx_iconst (v := 0) (pc := 27) X dX6_keep_27 (by decide) ?_
  refine qx_aload_n (pc := 28) X 0 dX6_keep_28 rfl rfl ?_
  refine qx_getr (f := 14) (i := d0) (a := ad 16 d0) (pc := 29) X qx_gRX6_17 (qx_me14 hd0) rfl dX6_keep_29 ?_
  refine qx_aleni (f := 16) (i := d0) (v := 13) (pc := 32) X rfl (qx_me16 hd0) rfl dX6_keep_32 ?_
  refine qx_copy1 (f := 5) (i := 0) (f' := 16) (i' := d0) (pc := 33) X qx_lRX6_21 rfl qx_me5 rfl (qx_me16 hd0) (by decide) (by decide) (by decide) (by decide) (by decide) (by rw [hR]; decide) (by rw [hR]; exact Nat.le_of_ble_eq_true rfl) dX6_keep_33 (fun s3 e4 => ?_)
  have hw := hw s3 e4
  refine qx_aload_n (pc := 36) X 0 dX6_keep_36 rfl rfl ?_
  refine qx_aload_n (pc := 37) X 1 dX6_keep_37 rfl rfl ?_
  refine qx_geti (f := 3) (i := 0) (pc := 38) X qx_gRX6_28 qx_me3 dX6_keep_38 ?_
  refine qx_puti1 (f := 14) (i := d0) (pc := 41) X qx_pRX6_32 (qx_me14 hd0) dX6_keep_41 (fun s5 e6 => ?_)
  have hw := hw s5 e6
  refine qx_aload_n (pc := 44) X 0 dX6_keep_44 rfl rfl ?_
  refine qx_aload_n (pc := 45) X 1 dX6_keep_45 rfl rfl ?_
  refine qx_geti (f := 3) (i := 0) (pc := 46) X qx_gRX6_33 qx_me3 dX6_keep_46 ?_
  refine qx_puti1 (f := 14) (i := d0) (pc := 49) X qx_pRX6_36 (qx_me14 hd0) dX6_keep_49 (fun s7 e8 => ?_)
  have hw := hw s7 e8
  exact qx_vret (pc := 52) X hr hlk hw dX6_keep_52
def wX8_move (p1 : Int32) (p2 : Int32) (p3 : Int32) (σ : qx_St) (post : qx_St → Prop) : Prop := (vp_in p1 13 ∧ (vp_in p1 13 ∧ (∀ s1, s1 = qx_st σ 5 0 p1.toNatClampNeg ((σ 5 0 p1.toNatClampNeg) - p3) → (vp_in p2 13 ∧ (vp_in p2 13 ∧ (∀ s3, s3 = qx_st s1 5 0 p2.toNatClampNeg ((s1 5 0 p2.toNatClampNeg) + p3) → post s3))))))
set_option maxHeartbeats 4000000 in
set_option maxRecDepth 100000 in
theorem kX8_move (l : Launch) (G : qx_Gx) (t1 t2 : Nat) (ad : Nat → Nat → Nat) (p1 : Int32) (p2 : Int32) (p3 : Int32) (σ : qx_St) (post : qx_St → Prop) (hw : wX8_move p1 p2 p3 σ post) : qx_Mv l G t1 t2 (qx_w0 ad) yX8_move cX8_move 4 none { frames := 0, cells := 0, slots := 0, locals := 0 } [.ref (ad 3 0), .int p1, .int p2, .int p3] σ post := by
  unfold wX8_move at hw
  refine qx_start qx_mcX8_move (Nat.le_of_ble_eq_true rfl) (fun K hKl hR X hr hlk => ?_)
  subst hKl
  refine (show qx_V K G 4 0 0 (MQ K.2.2.2.2.2.2.2.1 (va_Qv post (qx_B G (qx_w0 ad)) G.2.2) K.2.2.2.2.2.2.1 K.2.2.2.2.1 0 0 G.2.2) (qx_w0 ad) σ 0 [(0, .ref (ad 3 0)), (1, .int p1), (2, .int p2), (3, .int p3)] [] from ?_)
  refine qx_aload_n (pc := 0) X 0 dX8_move_0 rfl rfl ?_
  refine qx_getr (f := 3) (i := 0) (a := ad 5 0) (pc := 1) X qx_gRX8_15 qx_me3 rfl dX8_move_1 ?_
  refine qx_iload_n (pc := 4) X 1 dX8_move_4 rfl rfl ?_
  refine qx_dup2 (pc := 5) X dX8_move_5 rfl rfl ?_
  refine qx_iald (f := 5) (i := 0) (pc := 6) X rfl qx_me5 hw.1 dX8_move_6 ?_
  have hw := hw.2
  refine qx_iload_n (pc := 7) X 3 dX8_move_7 rfl rfl ?_
  refine qx_isub (pc := 8) X dX8_move_8 ?_
  refine qx_iast1 (f := 5) (i := 0) (pc := 9) X rfl qx_me5 hw.1 dX8_move_9 (fun s1 e2 => ?_)
  have hw := hw.2
  have hw := hw s1 e2
  refine qx_aload_n (pc := 10) X 0 dX8_move_10 rfl rfl ?_
  refine qx_getr (f := 3) (i := 0) (a := ad 5 0) (pc := 11) X qx_gRX8_15 qx_me3 rfl dX8_move_11 ?_
  refine qx_iload_n (pc := 14) X 2 dX8_move_14 rfl rfl ?_
  refine qx_dup2 (pc := 15) X dX8_move_15 rfl rfl ?_
  refine qx_iald (f := 5) (i := 0) (pc := 16) X rfl qx_me5 hw.1 dX8_move_16 ?_
  have hw := hw.2
  refine qx_iload_n (pc := 17) X 3 dX8_move_17 rfl rfl ?_
  refine qx_iadd (pc := 18) X dX8_move_18 ?_
  refine qx_iast1 (f := 5) (i := 0) (pc := 19) X rfl qx_me5 hw.1 dX8_move_19 (fun s3 e4 => ?_)
  have hw := hw.2
  have hw := hw s3 e4
  exact qx_vret (pc := 20) X hr hlk hw dX8_move_20
def wX2_numberFor (d1 : Nat) (p2 : Int32) (p3 : Int32) (σ : qx_St) (post : Int32 → qx_St → Prop) : Prop := ((p2 = (1 : Int32) → post (σ 12 d1 4) σ) ∧ (p2 = (2 : Int32) → post (σ 12 d1 5) σ) ∧ (p2 = (3 : Int32) → post (σ 12 d1 6) σ) ∧ (p2 = (4 : Int32) → (vp_in (σ 12 d1 2) 13 ∧ post (σ 5 0 (σ 12 d1 2).toNatClampNeg) σ)) ∧ (p2 = (5 : Int32) → post (σ 12 d1 2) σ) ∧ (p2 = (6 : Int32) → (vp_in (((σ 12 d1 2) * (8 : Int32)) + p3) 64 ∧ post (σ 4 0 (((σ 12 d1 2) * (8 : Int32)) + p3).toNatClampNeg) σ)) ∧ ((∀ i : Nat, i < 6 → ¬ p2 = Int32.ofInt (1 + i)) → post p3 σ))
set_option maxHeartbeats 4000000 in
set_option maxRecDepth 100000 in
theorem kX2_numberFor (l : Launch) (G : qx_Gx) (t1 t2 : Nat) (ad : Nat → Nat → Nat) (d1 : Nat) (p2 : Int32) (p3 : Int32) (hd1 : d1 < 8) (σ : qx_St) (post : Int32 → qx_St → Prop) (hw : wX2_numberFor d1 p2 p3 σ post) : qx_Mi l G t1 t2 (qx_w0 ad) yX2_numberFor cX2_numberFor 4 (some .int) { frames := 0, cells := 0, slots := 0, locals := 0 } [.ref (ad 9 0), .ref (ad 12 d1), .int p2, .int p3] σ post := by
  unfold wX2_numberFor at hw
  refine qx_start qx_mcX2_numberFor (Nat.le_of_ble_eq_true rfl) (fun K hKl hR X hr hlk => ?_)
  subst hKl
  refine (show qx_V K G 4 0 0 (MQ K.2.2.2.2.2.2.2.1 (va_Qi post (qx_B G (qx_w0 ad)) G.2.2) K.2.2.2.2.2.2.1 K.2.2.2.2.1 0 0 G.2.2) (qx_w0 ad) σ 0 [(0, .ref (ad 9 0)), (1, .ref (ad 12 d1)), (2, .int p2), (3, .int p3)] [] from ?_)
  refine qx_iload_n (pc := 0) X 2 dX2_numberFor_0 rfl rfl ?_
  refine qx_switch (pc := 1) X (tgt := 91) (fun i => ([40, 45, 50, 55, 68, 73] : List Nat).getD i 0) dX2_numberFor_1 (by decide) (by decide) (by decide) (by decide) ?_ ?_
  · intro i hi s1
    have hi2 : i < 6 := hi
    rcases (show i = 0 ∨ i = 1 ∨ i = 2 ∨ i = 3 ∨ i = 4 ∨ i = 5 by omega) with rfl | rfl | rfl | rfl | rfl | rfl
    · have hw := hw.1 (s1.trans (by decide))
      refine qx_aload_n (pc := 40) X 1 dX2_numberFor_40 rfl rfl ?_
      refine qx_geti (f := 12) (i := d1) (pc := 41) X qx_gRX2_188 (qx_me12 hd1) dX2_numberFor_41 ?_
      exact qx_iret (pc := 44) X hr hlk hw dX2_numberFor_44
    · have hw := hw.2.1 (s1.trans (by decide))
      refine qx_aload_n (pc := 45) X 1 dX2_numberFor_45 rfl rfl ?_
      refine qx_geti (f := 12) (i := d1) (pc := 46) X qx_gRX2_102 (qx_me12 hd1) dX2_numberFor_46 ?_
      exact qx_iret (pc := 49) X hr hlk hw dX2_numberFor_49
    · have hw := hw.2.2.1 (s1.trans (by decide))
      refine qx_aload_n (pc := 50) X 1 dX2_numberFor_50 rfl rfl ?_
      refine qx_geti (f := 12) (i := d1) (pc := 51) X qx_gRX2_49 (qx_me12 hd1) dX2_numberFor_51 ?_
      exact qx_iret (pc := 54) X hr hlk hw dX2_numberFor_54
    · have hw := hw.2.2.2.1 (s1.trans (by decide))
      refine qx_aload_n (pc := 55) X 0 dX2_numberFor_55 rfl rfl ?_
      refine qx_getr (f := 9) (i := 0) (a := ad 3 0) (pc := 56) X qx_gRX2_27 qx_me9 rfl dX2_numberFor_56 ?_
      refine qx_getr (f := 3) (i := 0) (a := ad 5 0) (pc := 59) X qx_gRX2_191 qx_me3 rfl dX2_numberFor_59 ?_
      refine qx_aload_n (pc := 62) X 1 dX2_numberFor_62 rfl rfl ?_
      refine qx_geti (f := 12) (i := d1) (pc := 63) X qx_gRX2_82 (qx_me12 hd1) dX2_numberFor_63 ?_
      refine qx_iald (f := 5) (i := 0) (pc := 66) X rfl qx_me5 hw.1 dX2_numberFor_66 ?_
      have hw := hw.2
      exact qx_iret (pc := 67) X hr hlk hw dX2_numberFor_67
    · have hw := hw.2.2.2.2.1 (s1.trans (by decide))
      refine qx_aload_n (pc := 68) X 1 dX2_numberFor_68 rfl rfl ?_
      refine qx_geti (f := 12) (i := d1) (pc := 69) X qx_gRX2_82 (qx_me12 hd1) dX2_numberFor_69 ?_
      exact qx_iret (pc := 72) X hr hlk hw dX2_numberFor_72
    · have hw := hw.2.2.2.2.2.1 (s1.trans (by decide))
      refine qx_aload_n (pc := 73) X 0 dX2_numberFor_73 rfl rfl ?_
      refine qx_getr (f := 9) (i := 0) (a := ad 3 0) (pc := 74) X qx_gRX2_27 qx_me9 rfl dX2_numberFor_74 ?_
      refine qx_getr (f := 3) (i := 0) (a := ad 4 0) (pc := 77) X qx_gRX2_194 qx_me3 rfl dX2_numberFor_77 ?_
      refine qx_aload_n (pc := 80) X 1 dX2_numberFor_80 rfl rfl ?_
      refine qx_geti (f := 12) (i := d1) (pc := 81) X qx_gRX2_82 (qx_me12 hd1) dX2_numberFor_81 ?_
      refine qx_bipush (v := 8) (pc := 84) X dX2_numberFor_84 (by decide) ?_
      refine qx_imul (pc := 86) X dX2_numberFor_86 ?_
      refine qx_iload_n (pc := 87) X 3 dX2_numberFor_87 rfl rfl ?_
      refine qx_iadd (pc := 88) X dX2_numberFor_88 ?_
      refine qx_iald (f := 4) (i := 0) (pc := 89) X rfl qx_me4 hw.1 dX2_numberFor_89 ?_
      have hw := hw.2
      exact qx_iret (pc := 90) X hr hlk hw dX2_numberFor_90
  · intro s1
    have hw := hw.2.2.2.2.2.2 s1
    refine qx_iload_n (pc := 91) X 3 dX2_numberFor_91 rfl rfl ?_
    exact qx_iret (pc := 92) X hr hlk hw dX2_numberFor_92
def wX2_divide (d0 : Nat) (p1 : Int32) (p2 : Int32) (σ : qx_St) (post : qx_St → Prop) : Prop := ((p2 = 0 → wX1_endThrowing d0 (3 : Int32) σ (fun s3 => post s3)) ∧ (¬ (p2 = 0) → (¬ p2 = 0 ∧ wX1_put d0 (p1 / p2) σ (fun s1 => post s1))))
set_option maxHeartbeats 4000000 in
set_option maxRecDepth 100000 in
theorem kX2_divide (l : Launch) (G : qx_Gx) (t1 t2 : Nat) (ad : Nat → Nat → Nat) (d0 : Nat) (p1 : Int32) (p2 : Int32) (hd0 : d0 < 8) (σ : qx_St) (post : qx_St → Prop) (hw : wX2_divide d0 p1 p2 σ post) : qx_Mv l G t1 t2 (qx_w0 ad) yX2_divide cX2_divide 3 none { frames := 1, cells := 0, slots := 0, locals := 21 } [.ref (ad 12 d0), .int p1, .int p2] σ post := by
  unfold wX2_divide at hw
  refine qx_start qx_mcX2_divide (Nat.le_of_ble_eq_true rfl) (fun K hKl hR X hr hlk => ?_)
  subst hKl
  refine (show qx_V K G 3 0 0 (MQ K.2.2.2.2.2.2.2.1 (va_Qv post (qx_B G (qx_w0 ad)) G.2.2) K.2.2.2.2.2.2.1 K.2.2.2.2.1 0 0 G.2.2) (qx_w0 ad) σ 0 [(0, .ref (ad 12 d0)), (1, .int p1), (2, .int p2)] [] from ?_)
  refine qx_iload_n (pc := 0) X 2 dX2_divide_0 rfl rfl ?_
  refine qx_if_ne (tgt := 12) (pc := 1) X dX2_divide_1 (by decide) (fun c5 => ?_) (fun c5 => ?_)
  · have hw := hw.2 c5
    refine qx_aload_n (pc := 12) X 0 dX2_divide_12 rfl rfl ?_
    refine qx_iload_n (pc := 13) X 1 dX2_divide_13 rfl rfl ?_
    refine qx_iload_n (pc := 14) X 2 dX2_divide_14 rfl rfl ?_
    refine qx_idiv (pc := 15) X dX2_divide_15 hw.1 ?_
    have hw := hw.2
    refine qx_callVv (f := 12) (i := d0) (pc := 16) X [.int (p1 / p2)] [] (kX1_put K.2.1 G t1 t2 ad d0 (p1 / p2) hd0 σ _ hw) qx_mcX1_put qx_lRX2_167 qx_iX1_put qx_selX1_put (qx_me12 hd0) qx_rc12 rfl ⟨rfl, rfl⟩ (by rw [hR]; decide) rfl (Nat.le_of_ble_eq_true rfl) dX2_divide_16 ⟨Nat.zero_le _, Nat.zero_le _⟩ (fun s1 hw => ?_)
    exact qx_vret (pc := 19) X hr hlk hw dX2_divide_19
  · have hw := hw.1 c5
    refine qx_aload_n (pc := 4) X 0 dX2_divide_4 rfl rfl ?_
    refine qx_iconst (v := 3) (pc := 5) X dX2_divide_5 (by decide) ?_
    refine qx_callVv (f := 12) (i := d0) (pc := 6) X [.int (3 : Int32)] [] (kX1_endThrowing K.2.1 G t1 t2 ad d0 (3 : Int32) hd0 σ _ hw) qx_mcX1_endThrowing qx_lRX2_125 qx_iX1_endThrowing qx_selX1_endThrowing (qx_me12 hd0) qx_rc12 rfl ⟨rfl, rfl⟩ (by rw [hR]; decide) rfl (Nat.le_of_ble_eq_true rfl) dX2_divide_6 ⟨Nat.zero_le _, Nat.zero_le _⟩ (fun s3 hw => ?_)
    refine qx_goto (tgt := 19) (pc := 9) X dX2_divide_9 (by decide) ?_
    exact qx_vret (pc := 19) X hr hlk hw dX2_divide_19
def wX2_combined (p0 : Int32) (p1 : Int32) (p2 : Int32) (σ : qx_St) (post : Int32 → qx_St → Prop) : Prop := ((p0 = (8 : Int32) → post (p1 + p2) σ) ∧ (p0 = (9 : Int32) → post (p1 - p2) σ) ∧ (p0 = (10 : Int32) → post (p1 * p2) σ) ∧ (p0 = (11 : Int32) → ((p1 = p2 → post (1 : Int32) σ) ∧ (¬ (p1 = p2) → post (0 : Int32) σ))) ∧ (p0 = (12 : Int32) → ((p2 ≤ p1 → post (0 : Int32) σ) ∧ (¬ (p2 ≤ p1) → post (1 : Int32) σ))) ∧ ((∀ i : Nat, i < 5 → ¬ p0 = Int32.ofInt (8 + i)) → ((p1 = p2 → post (1 : Int32) σ) ∧ (¬ (p1 = p2) → post (0 : Int32) σ))))
set_option maxHeartbeats 4000000 in
set_option maxRecDepth 100000 in
theorem kX2_combined (l : Launch) (G : qx_Gx) (t1 t2 : Nat) (ad : Nat → Nat → Nat) (p0 : Int32) (p1 : Int32) (p2 : Int32) (σ : qx_St) (post : Int32 → qx_St → Prop) (hw : wX2_combined p0 p1 p2 σ post) : qx_Mi l G t1 t2 (qx_w0 ad) yX2_combined cX2_combined 3 (some .int) { frames := 0, cells := 0, slots := 0, locals := 0 } [.int p0, .int p1, .int p2] σ post := by
  unfold wX2_combined at hw
  refine qx_start qx_mcX2_combined (Nat.le_of_ble_eq_true rfl) (fun K hKl hR X hr hlk => ?_)
  subst hKl
  refine (show qx_V K G 3 0 0 (MQ K.2.2.2.2.2.2.2.1 (va_Qi post (qx_B G (qx_w0 ad)) G.2.2) K.2.2.2.2.2.2.1 K.2.2.2.2.1 0 0 G.2.2) (qx_w0 ad) σ 0 [(0, .int p0), (1, .int p1), (2, .int p2)] [] from ?_)
  refine qx_iload_n (pc := 0) X 0 dX2_combined_0 rfl rfl ?_
  refine qx_switch (pc := 1) X (tgt := 59) (fun i => ([36, 40, 44, 59, 48] : List Nat).getD i 0) dX2_combined_1 (by decide) (by decide) (by decide) (by decide) ?_ ?_
  · intro i hi s1
    have hi2 : i < 5 := hi
    rcases (show i = 0 ∨ i = 1 ∨ i = 2 ∨ i = 3 ∨ i = 4 by omega) with rfl | rfl | rfl | rfl | rfl
    · have hw := hw.1 (s1.trans (by decide))
      refine qx_iload_n (pc := 36) X 1 dX2_combined_36 rfl rfl ?_
      refine qx_iload_n (pc := 37) X 2 dX2_combined_37 rfl rfl ?_
      refine qx_iadd (pc := 38) X dX2_combined_38 ?_
      exact qx_iret (pc := 39) X hr hlk hw dX2_combined_39
    · have hw := hw.2.1 (s1.trans (by decide))
      refine qx_iload_n (pc := 40) X 1 dX2_combined_40 rfl rfl ?_
      refine qx_iload_n (pc := 41) X 2 dX2_combined_41 rfl rfl ?_
      refine qx_isub (pc := 42) X dX2_combined_42 ?_
      exact qx_iret (pc := 43) X hr hlk hw dX2_combined_43
    · have hw := hw.2.2.1 (s1.trans (by decide))
      refine qx_iload_n (pc := 44) X 1 dX2_combined_44 rfl rfl ?_
      refine qx_iload_n (pc := 45) X 2 dX2_combined_45 rfl rfl ?_
      refine qx_imul (pc := 46) X dX2_combined_46 ?_
      exact qx_iret (pc := 47) X hr hlk hw dX2_combined_47
    · have hw := hw.2.2.2.1 (s1.trans (by decide))
      refine qx_iload_n (pc := 59) X 1 dX2_combined_59 rfl rfl ?_
      refine qx_iload_n (pc := 60) X 2 dX2_combined_60 rfl rfl ?_
      refine qx_icmp_ne (tgt := 68) (pc := 61) X dX2_combined_61 (by decide) (fun c2 => ?_) (fun c2 => ?_)
      · have hw := hw.2 c2
        refine qx_iconst (v := 0) (pc := 68) X dX2_combined_68 (by decide) ?_
        exact qx_iret (pc := 69) X hr hlk hw dX2_combined_69
      · have hw := hw.1 c2
        refine qx_iconst (v := 1) (pc := 64) X dX2_combined_64 (by decide) ?_
        refine qx_goto (tgt := 69) (pc := 65) X dX2_combined_65 (by decide) ?_
        exact qx_iret (pc := 69) X hr hlk hw dX2_combined_69
    · have hw := hw.2.2.2.2.1 (s1.trans (by decide))
      refine qx_iload_n (pc := 48) X 1 dX2_combined_48 rfl rfl ?_
      refine qx_iload_n (pc := 49) X 2 dX2_combined_49 rfl rfl ?_
      refine qx_icmp_ge (tgt := 57) (pc := 50) X dX2_combined_50 (by decide) (fun c3 => ?_) (fun c3 => ?_)
      · have hw := hw.1 c3
        refine qx_iconst (v := 0) (pc := 57) X dX2_combined_57 (by decide) ?_
        exact qx_iret (pc := 58) X hr hlk hw dX2_combined_58
      · have hw := hw.2 c3
        refine qx_iconst (v := 1) (pc := 53) X dX2_combined_53 (by decide) ?_
        refine qx_goto (tgt := 58) (pc := 54) X dX2_combined_54 (by decide) ?_
        exact qx_iret (pc := 58) X hr hlk hw dX2_combined_58
  · intro s1
    have hw := hw.2.2.2.2.2 s1
    refine qx_iload_n (pc := 59) X 1 dX2_combined_59 rfl rfl ?_
    refine qx_iload_n (pc := 60) X 2 dX2_combined_60 rfl rfl ?_
    refine qx_icmp_ne (tgt := 68) (pc := 61) X dX2_combined_61 (by decide) (fun c4 => ?_) (fun c4 => ?_)
    · have hw := hw.2 c4
      refine qx_iconst (v := 0) (pc := 68) X dX2_combined_68 (by decide) ?_
      exact qx_iret (pc := 69) X hr hlk hw dX2_combined_69
    · have hw := hw.1 c4
      refine qx_iconst (v := 1) (pc := 64) X dX2_combined_64 (by decide) ?_
      refine qx_goto (tgt := 69) (pc := 65) X dX2_combined_65 (by decide) ?_
      exact qx_iret (pc := 69) X hr hlk hw dX2_combined_69
def wX2_combine (d0 : Nat) (p1 : Int32) (σ : qx_St) (post : qx_St → Prop) : Prop := wX1_take d0 σ (fun r2 s1 => wX1_take d0 s1 (fun r4 s3 => ((p1 = (11 : Int32) → wX2_divide d0 r4 r2 s3 (fun s9 => post s9)) ∧ (¬ (p1 = (11 : Int32)) → wX2_combined p1 r4 r2 s3 (fun r6 s5 => wX1_put d0 r6 s5 (fun s7 => post s7))))))
set_option maxHeartbeats 4000000 in
set_option maxRecDepth 100000 in
theorem kX2_combine (l : Launch) (G : qx_Gx) (t1 t2 : Nat) (ad : Nat → Nat → Nat) (d0 : Nat) (p1 : Int32) (hd0 : d0 < 8) (σ : qx_St) (post : qx_St → Prop) (hw : wX2_combine d0 p1 σ post) : qx_Mv l G t1 t2 (qx_w0 ad) yX2_combine cX2_combine 4 none { frames := 2, cells := 0, slots := 0, locals := 43 } [.ref (ad 12 d0), .int p1] σ post := by
  unfold wX2_combine at hw
  refine qx_start qx_mcX2_combine (Nat.le_of_ble_eq_true rfl) (fun K hKl hR X hr hlk => ?_)
  subst hKl
  refine (show qx_V K G 4 0 0 (MQ K.2.2.2.2.2.2.2.1 (va_Qv post (qx_B G (qx_w0 ad)) G.2.2) K.2.2.2.2.2.2.1 K.2.2.2.2.1 0 0 G.2.2) (qx_w0 ad) σ 0 [(0, .ref (ad 12 d0)), (1, .int p1)] [] from ?_)
  refine qx_aload_n (pc := 0) X 0 dX2_combine_0 rfl rfl ?_
  refine qx_callVi (f := 12) (i := d0) (pc := 1) X [] [] (kX1_take K.2.1 G t1 t2 ad d0 hd0 σ _ hw) qx_mcX1_take qx_lRX2_197 qx_iX1_take qx_selX1_take (qx_me12 hd0) qx_rc12 rfl ⟨rfl, rfl⟩ (by rw [hR]; decide) rfl (Nat.le_of_ble_eq_true rfl) dX2_combine_1 ⟨Nat.zero_le _, Nat.zero_le _⟩ (fun r2 s1 hw => ?_)
  refine qx_istore_n (lv' := [(2, .int r2), (0, .ref (ad 12 d0)), (1, .int p1)]) (pc := 4) X dX2_combine_4 rfl (by decide) rfl ?_
  refine qx_aload_n (pc := 5) X 1 dX2_combine_5 rfl rfl ?_
  refine qx_callVi (f := 12) (i := d0) (pc := 6) X [] [] (kX1_take K.2.1 G t1 t2 ad d0 hd0 s1 _ hw) qx_mcX1_take qx_lRX2_197 qx_iX1_take qx_selX1_take (qx_me12 hd0) qx_rc12 rfl ⟨rfl, rfl⟩ (by rw [hR]; decide) rfl (Nat.le_of_ble_eq_true rfl) dX2_combine_6 ⟨Nat.zero_le _, Nat.zero_le _⟩ (fun r4 s3 hw => ?_)
  refine qx_istore_n (lv' := [(3, .int r4), (2, .int r2), (0, .ref (ad 12 d0)), (1, .int p1)]) (pc := 9) X dX2_combine_9 rfl (by decide) rfl ?_
  refine qx_iload_n (pc := 10) X 3 dX2_combine_10 rfl rfl ?_
  refine qx_bipush (v := 11) (pc := 11) X dX2_combine_11 (by decide) ?_
  refine qx_icmp_ne (tgt := 25) (pc := 13) X dX2_combine_13 (by decide) (fun c11 => ?_) (fun c11 => ?_)
  · have hw := hw.2 c11
    refine qx_aload_n (pc := 25) X 2 dX2_combine_25 rfl rfl ?_
    refine qx_iload_n (pc := 26) X 3 dX2_combine_26 rfl rfl ?_
    refine qx_iload_n (pc := 27) X 0 dX2_combine_27 rfl rfl ?_
    refine qx_iload_n (pc := 28) X 1 dX2_combine_28 rfl rfl ?_
    refine qx_callSi (pc := 29) X [.int p1, .int r4, .int r2] [.ref (ad 12 d0)] (kX2_combined K.2.1 G t1 t2 ad p1 r4 r2 s3 _ hw) qx_mcX2_combined qx_lRX2_203 qx_sX2_combined rfl ⟨rfl, rfl⟩ (by rw [hR]; decide) rfl (Nat.le_of_ble_eq_true rfl) dX2_combine_29 ⟨Nat.zero_le _, Nat.zero_le _⟩ (fun r6 s5 hw => ?_)
    refine qx_callVv (f := 12) (i := d0) (pc := 32) X [.int r6] [] (kX1_put K.2.1 G t1 t2 ad d0 r6 hd0 s5 _ hw) qx_mcX1_put qx_lRX2_167 qx_iX1_put qx_selX1_put (qx_me12 hd0) qx_rc12 rfl ⟨rfl, rfl⟩ (by rw [hR]; decide) rfl (Nat.le_of_ble_eq_true rfl) dX2_combine_32 ⟨Nat.zero_le _, Nat.zero_le _⟩ (fun s7 hw => ?_)
    exact qx_vret (pc := 35) X hr hlk hw dX2_combine_35
  · have hw := hw.1 c11
    refine qx_aload_n (pc := 16) X 2 dX2_combine_16 rfl rfl ?_
    refine qx_iload_n (pc := 17) X 0 dX2_combine_17 rfl rfl ?_
    refine qx_iload_n (pc := 18) X 1 dX2_combine_18 rfl rfl ?_
    refine qx_callSv (pc := 19) X [.ref (ad 12 d0), .int r4, .int r2] [] (kX2_divide K.2.1 G t1 t2 ad d0 r4 r2 hd0 s3 _ hw) qx_mcX2_divide qx_lRX2_200 qx_sX2_divide rfl ⟨rfl, rfl⟩ (by rw [hR]; decide) rfl (Nat.le_of_ble_eq_true rfl) dX2_combine_19 ⟨Nat.zero_le _, Nat.zero_le _⟩ (fun s9 hw => ?_)
    refine qx_goto (tgt := 35) (pc := 22) X dX2_combine_22 (by decide) ?_
    exact qx_vret (pc := 35) X hr hlk hw dX2_combine_35
def wX2_arrange_j57 (d0 : Nat) (p1 : Int32) (p2 : Int32) (post : qx_St → Prop) (a1 : Int32) (a2 : Int32) (a3 : Int32) (σ : qx_St) : Prop := ((a1 = (16 : Int32) → wX1_put d0 a3 σ (fun s10 => wX1_put d0 a3 s10 (fun s12 => post s12))) ∧ (¬ (a1 = (16 : Int32)) → ((a1 = (18 : Int32) → wX1_take d0 σ (fun r4 s3 => wX1_put d0 a3 s3 (fun s5 => wX1_put d0 r4 s5 (fun s7 => post s7)))) ∧ (¬ (a1 = (18 : Int32)) → post σ))))
def wX2_arrange_j28 (d0 : Nat) (p1 : Int32) (p2 : Int32) (post : qx_St → Prop) (a1 : Int32) (a2 : Int32) (a3 : Int32) (σ : qx_St) : Prop := ((a1 = (15 : Int32) → ((a3 = 0 → wX2_arrange_j57 d0 p1 p2 post a1 a2 a3 σ) ∧ (¬ (a3 = 0) → (∀ s15, s15 = qx_st σ 12 d0 10 (if (0 : Int32) < (((σ 12 d0 10) - (1 : Int32)) - a2) then (((σ 12 d0 10) - (1 : Int32)) - a2) else (0 : Int32)) → post s15)))) ∧ (¬ (a1 = (15 : Int32)) → wX2_arrange_j57 d0 p1 p2 post a1 a2 a3 σ))
def wX2_arrange (d0 : Nat) (p1 : Int32) (p2 : Int32) (σ : qx_St) (post : qx_St → Prop) : Prop := wX1_take d0 σ (fun r2 s1 => ((p1 = (14 : Int32) → ((r2 = 0 → (∀ s19, s19 = qx_st s1 12 d0 10 ((s1 12 d0 10) + p2) → post s19)) ∧ (¬ (r2 = 0) → wX2_arrange_j28 d0 p1 p2 post p1 p2 r2 s1))) ∧ (¬ (p1 = (14 : Int32)) → wX2_arrange_j28 d0 p1 p2 post p1 p2 r2 s1)))
set_option maxHeartbeats 4000000 in
set_option maxRecDepth 100000 in
theorem kX2_arrange (l : Launch) (G : qx_Gx) (t1 t2 : Nat) (ad : Nat → Nat → Nat) (d0 : Nat) (p1 : Int32) (p2 : Int32) (hd0 : d0 < 8) (σ : qx_St) (post : qx_St → Prop) (hw : wX2_arrange d0 p1 p2 σ post) : qx_Mv l G t1 t2 (qx_w0 ad) yX2_arrange cX2_arrange 5 none { frames := 1, cells := 0, slots := 0, locals := 24 } [.ref (ad 12 d0), .int p1, .int p2] σ post := by
  unfold wX2_arrange at hw
  refine qx_start qx_mcX2_arrange (Nat.le_of_ble_eq_true rfl) (fun K hKl hR X hr hlk => ?_)
  subst hKl
  have J57 : ∀ (a1 : Int32) (a2 : Int32) (a3 : Int32) (σ : qx_St), wX2_arrange_j57 d0 p1 p2 post a1 a2 a3 σ → qx_V K G 5 0 0 (MQ K.2.2.2.2.2.2.2.1 (va_Qv post (qx_B G (qx_w0 ad)) G.2.2) K.2.2.2.2.2.2.1 K.2.2.2.2.1 0 0 G.2.2) (qx_w0 ad) σ 57 [(0, .ref (ad 12 d0)), (1, .int a1), (2, .int a2), (3, .int a3)] [] := by
    intro a1 a2 a3 σ hw
    unfold wX2_arrange_j57 at hw
    refine qx_iload_n (pc := 57) X 1 dX2_arrange_57 rfl rfl ?_
    refine qx_bipush (v := 16) (pc := 58) X dX2_arrange_58 (by decide) ?_
    refine qx_icmp_ne (tgt := 76) (pc := 60) X dX2_arrange_60 (by decide) (fun c14 => ?_) (fun c14 => ?_)
    · have hw := hw.2 c14
      refine qx_iload_n (pc := 76) X 1 dX2_arrange_76 rfl rfl ?_
      refine qx_bipush (v := 18) (pc := 77) X dX2_arrange_77 (by decide) ?_
      refine qx_icmp_ne (tgt := 99) (pc := 79) X dX2_arrange_79 (by decide) (fun c9 => ?_) (fun c9 => ?_)
      · have hw := hw.2 c9
        exact qx_vret (pc := 99) X hr hlk hw dX2_arrange_99
      · have hw := hw.1 c9
        refine qx_aload_n (pc := 82) X 0 dX2_arrange_82 rfl rfl ?_
        refine qx_callVi (f := 12) (i := d0) (pc := 83) X [] [] (kX1_take K.2.1 G t1 t2 ad d0 hd0 σ _ hw) qx_mcX1_take qx_lRX2_197 qx_iX1_take qx_selX1_take (qx_me12 hd0) qx_rc12 rfl ⟨rfl, rfl⟩ (by rw [hR]; decide) rfl (Nat.le_of_ble_eq_true rfl) dX2_arrange_83 ⟨Nat.zero_le _, Nat.zero_le _⟩ (fun r4 s3 hw => ?_)
        refine qx_istore (lv' := [(4, .int r4), (0, .ref (ad 12 d0)), (1, .int a1), (2, .int a2), (3, .int a3)]) (pc := 86) X dX2_arrange_86 (by decide) rfl ?_
        refine qx_aload_n (pc := 88) X 1 dX2_arrange_88 rfl rfl ?_
        refine qx_iload_n (pc := 89) X 4 dX2_arrange_89 rfl rfl ?_
        refine qx_callVv (f := 12) (i := d0) (pc := 90) X [.int a3] [] (kX1_put K.2.1 G t1 t2 ad d0 a3 hd0 s3 _ hw) qx_mcX1_put qx_lRX2_167 qx_iX1_put qx_selX1_put (qx_me12 hd0) qx_rc12 rfl ⟨rfl, rfl⟩ (by rw [hR]; decide) rfl (Nat.le_of_ble_eq_true rfl) dX2_arrange_90 ⟨Nat.zero_le _, Nat.zero_le _⟩ (fun s5 hw => ?_)
        refine qx_aload_n (pc := 93) X 1 dX2_arrange_93 rfl rfl ?_
        refine qx_iload (pc := 94) X 0 dX2_arrange_94 rfl ?_
        refine qx_callVv (f := 12) (i := d0) (pc := 96) X [.int r4] [] (kX1_put K.2.1 G t1 t2 ad d0 r4 hd0 s5 _ hw) qx_mcX1_put qx_lRX2_167 qx_iX1_put qx_selX1_put (qx_me12 hd0) qx_rc12 rfl ⟨rfl, rfl⟩ (by rw [hR]; decide) rfl (Nat.le_of_ble_eq_true rfl) dX2_arrange_96 ⟨Nat.zero_le _, Nat.zero_le _⟩ (fun s7 hw => ?_)
        exact qx_vret (pc := 99) X hr hlk hw dX2_arrange_99
    · have hw := hw.1 c14
      refine qx_aload_n (pc := 63) X 0 dX2_arrange_63 rfl rfl ?_
      refine qx_iload_n (pc := 64) X 3 dX2_arrange_64 rfl rfl ?_
      refine qx_callVv (f := 12) (i := d0) (pc := 65) X [.int a3] [] (kX1_put K.2.1 G t1 t2 ad d0 a3 hd0 σ _ hw) qx_mcX1_put qx_lRX2_167 qx_iX1_put qx_selX1_put (qx_me12 hd0) qx_rc12 rfl ⟨rfl, rfl⟩ (by rw [hR]; decide) rfl (Nat.le_of_ble_eq_true rfl) dX2_arrange_65 ⟨Nat.zero_le _, Nat.zero_le _⟩ (fun s10 hw => ?_)
      refine qx_aload_n (pc := 68) X 0 dX2_arrange_68 rfl rfl ?_
      refine qx_iload_n (pc := 69) X 3 dX2_arrange_69 rfl rfl ?_
      refine qx_callVv (f := 12) (i := d0) (pc := 70) X [.int a3] [] (kX1_put K.2.1 G t1 t2 ad d0 a3 hd0 s10 _ hw) qx_mcX1_put qx_lRX2_167 qx_iX1_put qx_selX1_put (qx_me12 hd0) qx_rc12 rfl ⟨rfl, rfl⟩ (by rw [hR]; decide) rfl (Nat.le_of_ble_eq_true rfl) dX2_arrange_70 ⟨Nat.zero_le _, Nat.zero_le _⟩ (fun s12 hw => ?_)
      refine qx_goto (tgt := 99) (pc := 73) X dX2_arrange_73 (by decide) ?_
      exact qx_vret (pc := 99) X hr hlk hw dX2_arrange_99
  have J28 : ∀ (a1 : Int32) (a2 : Int32) (a3 : Int32) (σ : qx_St), wX2_arrange_j28 d0 p1 p2 post a1 a2 a3 σ → qx_V K G 5 0 0 (MQ K.2.2.2.2.2.2.2.1 (va_Qv post (qx_B G (qx_w0 ad)) G.2.2) K.2.2.2.2.2.2.1 K.2.2.2.2.1 0 0 G.2.2) (qx_w0 ad) σ 28 [(0, .ref (ad 12 d0)), (1, .int a1), (2, .int a2), (3, .int a3)] [] := by
    intro a1 a2 a3 σ hw
    unfold wX2_arrange_j28 at hw
    refine qx_iload_n (pc := 28) X 1 dX2_arrange_28 rfl rfl ?_
    refine qx_bipush (v := 15) (pc := 29) X dX2_arrange_29 (by decide) ?_
    refine qx_icmp_ne (tgt := 57) (pc := 31) X dX2_arrange_31 (by decide) (fun c18 => ?_) (fun c18 => ?_)
    · have hw := hw.2 c18
      exact J57 a1 a2 a3 σ hw
    · have hw := hw.1 c18
      refine qx_iload_n (pc := 34) X 3 dX2_arrange_34 rfl rfl ?_
      refine qx_if_eq (tgt := 57) (pc := 35) X dX2_arrange_35 (by decide) (fun c17 => ?_) (fun c17 => ?_)
      · have hw := hw.1 c17
        exact J57 a1 a2 a3 σ hw
      · have hw := hw.2 c17
        refine qx_aload_n (pc := 38) X 0 dX2_arrange_38 rfl rfl ?_
        refine qx_iconst (v := 0) (pc := 39) X dX2_arrange_39 (by decide) ?_
        refine qx_aload_n (pc := 40) X 0 dX2_arrange_40 rfl rfl ?_
        refine qx_geti (f := 12) (i := d0) (pc := 41) X qx_gRX2_108 (qx_me12 hd0) dX2_arrange_41 ?_
        refine qx_iconst (v := 1) (pc := 44) X dX2_arrange_44 (by decide) ?_
        refine qx_isub (pc := 45) X dX2_arrange_45 ?_
        refine qx_iload_n (pc := 46) X 2 dX2_arrange_46 rfl rfl ?_
        refine qx_isub (pc := 47) X dX2_arrange_47 ?_
        refine qx_mmax (pc := 48) X qx_lRX2_207 (by rw [hR]; decide) (by rw [hR]; exact Nat.le_of_ble_eq_true rfl) (Nat.zero_le _) (Nat.zero_le _) dX2_arrange_48 ?_
        refine qx_puti1 (f := 12) (i := d0) (pc := 51) X qx_pRX2_108 (qx_me12 hd0) dX2_arrange_51 (fun s15 e16 => ?_)
        have hw := hw s15 e16
        refine qx_goto (tgt := 99) (pc := 54) X dX2_arrange_54 (by decide) ?_
        exact qx_vret (pc := 99) X hr hlk hw dX2_arrange_99
  refine (show qx_V K G 5 0 0 (MQ K.2.2.2.2.2.2.2.1 (va_Qv post (qx_B G (qx_w0 ad)) G.2.2) K.2.2.2.2.2.2.1 K.2.2.2.2.1 0 0 G.2.2) (qx_w0 ad) σ 0 [(0, .ref (ad 12 d0)), (1, .int p1), (2, .int p2)] [] from ?_)
  refine qx_aload_n (pc := 0) X 0 dX2_arrange_0 rfl rfl ?_
  refine qx_callVi (f := 12) (i := d0) (pc := 1) X [] [] (kX1_take K.2.1 G t1 t2 ad d0 hd0 σ _ hw) qx_mcX1_take qx_lRX2_197 qx_iX1_take qx_selX1_take (qx_me12 hd0) qx_rc12 rfl ⟨rfl, rfl⟩ (by rw [hR]; decide) rfl (Nat.le_of_ble_eq_true rfl) dX2_arrange_1 ⟨Nat.zero_le _, Nat.zero_le _⟩ (fun r2 s1 hw => ?_)
  refine qx_istore_n (lv' := [(3, .int r2), (0, .ref (ad 12 d0)), (1, .int p1), (2, .int p2)]) (pc := 4) X dX2_arrange_4 rfl (by decide) rfl ?_
  refine qx_iload_n (pc := 5) X 2 dX2_arrange_5 rfl rfl ?_
  refine qx_bipush (v := 14) (pc := 6) X dX2_arrange_6 (by decide) ?_
  refine qx_icmp_ne (tgt := 28) (pc := 8) X dX2_arrange_8 (by decide) (fun c22 => ?_) (fun c22 => ?_)
  · have hw := hw.2 c22
    refine qx_lsub [1, 2, 3, 0] rfl ?_
    exact J28 p1 p2 r2 s1 hw
  · have hw := hw.1 c22
    refine qx_iload_n (pc := 11) X 0 dX2_arrange_11 rfl rfl ?_
    refine qx_if_ne (tgt := 28) (pc := 12) X dX2_arrange_12 (by decide) (fun c21 => ?_) (fun c21 => ?_)
    · have hw := hw.2 c21
      refine qx_lsub [1, 2, 3, 0] rfl ?_
      exact J28 p1 p2 r2 s1 hw
    · have hw := hw.1 c21
      refine qx_aload_n (pc := 15) X 1 dX2_arrange_15 rfl rfl ?_
      refine qx_dup (pc := 16) X dX2_arrange_16 rfl ?_
      refine qx_geti (f := 12) (i := d0) (pc := 17) X qx_gRX2_108 (qx_me12 hd0) dX2_arrange_17 ?_
      refine qx_iload_n (pc := 20) X 3 dX2_arrange_20 rfl rfl ?_
      refine qx_iadd (pc := 21) X dX2_arrange_21 ?_
      refine qx_puti1 (f := 12) (i := d0) (pc := 22) X qx_pRX2_108 (qx_me12 hd0) dX2_arrange_22 (fun s19 e20 => ?_)
      have hw := hw s19 e20
      refine qx_goto (tgt := 99) (pc := 25) X dX2_arrange_25 (by decide) ?_
      exact qx_vret (pc := 99) X hr hlk hw dX2_arrange_99
def wX4_has (p1 : Int32) (σ : qx_St) (post : Int32 → qx_St → Prop) : Prop := ((p1 < 0 → post (0 : Int32) σ) ∧ (¬ (p1 < 0) → (((σ 1 0 1) ≤ p1 → post (0 : Int32) σ) ∧ (¬ ((σ 1 0 1) ≤ p1) → post (1 : Int32) σ))))
set_option maxHeartbeats 4000000 in
set_option maxRecDepth 100000 in
theorem kX4_has (l : Launch) (G : qx_Gx) (t1 t2 : Nat) (ad : Nat → Nat → Nat) (p1 : Int32) (σ : qx_St) (post : Int32 → qx_St → Prop) (hw : wX4_has p1 σ post) : qx_Mi l G t1 t2 (qx_w0 ad) yX4_has cX4_has 2 (some .boolean) { frames := 0, cells := 0, slots := 0, locals := 0 } [.ref (ad 1 0), .int p1] σ post := by
  unfold wX4_has at hw
  refine qx_start qx_mcX4_has (Nat.le_of_ble_eq_true rfl) (fun K hKl hR X hr hlk => ?_)
  subst hKl
  refine (show qx_V K G 2 0 0 (MQ K.2.2.2.2.2.2.2.1 (va_Qi post (qx_B G (qx_w0 ad)) G.2.2) K.2.2.2.2.2.2.1 K.2.2.2.2.1 0 0 G.2.2) (qx_w0 ad) σ 0 [(0, .ref (ad 1 0)), (1, .int p1)] [] from ?_)
  refine qx_iload_n (pc := 0) X 1 dX4_has_0 rfl rfl ?_
  refine qx_if_lt (tgt := 16) (pc := 1) X dX4_has_1 (by decide) (fun c2 => ?_) (fun c2 => ?_)
  · have hw := hw.1 c2
    refine qx_iconst (v := 0) (pc := 16) X dX4_has_16 (by decide) ?_
    exact qx_zret (pc := 17) X hr hlk (Or.inl rfl) hw dX4_has_17
  · have hw := hw.2 c2
    refine qx_iload_n (pc := 4) X 1 dX4_has_4 rfl rfl ?_
    refine qx_aload_n (pc := 5) X 0 dX4_has_5 rfl rfl ?_
    refine qx_geti (f := 1) (i := 0) (pc := 6) X qx_gRX4_18 qx_me1 dX4_has_6 ?_
    refine qx_icmp_ge (tgt := 16) (pc := 9) X dX4_has_9 (by decide) (fun c1 => ?_) (fun c1 => ?_)
    · have hw := hw.1 c1
      refine qx_iconst (v := 0) (pc := 16) X dX4_has_16 (by decide) ?_
      exact qx_zret (pc := 17) X hr hlk (Or.inl rfl) hw dX4_has_17
    · have hw := hw.2 c1
      refine qx_iconst (v := 1) (pc := 12) X dX4_has_12 (by decide) ?_
      refine qx_goto (tgt := 17) (pc := 13) X dX4_has_13 (by decide) ?_
      exact qx_zret (pc := 17) X hr hlk (Or.inr rfl) hw dX4_has_17
def wX2_isGuardedInside_l2 (p1 : Int32) (p2 : Int32) (post : Int32 → qx_St → Prop) : Nat → Int32 → Int32 → Int32 → qx_St → Prop
  | 0, _, _, _, _ => False
  | n + 1, a1, a2, a3, σ => ((a2 ≤ a3 → post (0 : Int32) σ) ∧ (¬ (a2 ≤ a3) → (((8 : Int32) ≤ a3 → post (0 : Int32) σ) ∧ (¬ ((8 : Int32) ≤ a3) → (vp_in a3 8 ∧ (((σ 12 a3.toNatClampNeg 2) = a1 → wX4_memberOf a1 (σ 12 a3.toNatClampNeg 3) σ (fun r3 s2 => r3 < 32 ∧ (((s2 17 r3 4) = 0 → wX2_isGuardedInside_l2 p1 p2 post n a1 a2 (a3 + 1) s2) ∧ (¬ ((s2 17 r3 4) = 0) → post (1 : Int32) s2)))) ∧ (¬ ((σ 12 a3.toNatClampNeg 2) = a1) → wX2_isGuardedInside_l2 p1 p2 post n a1 a2 (a3 + 1) σ)))))))
def wX2_isGuardedInside (p1 : Int32) (p2 : Int32) (σ : qx_St) (post : Int32 → qx_St → Prop) : Prop := ∃ n, wX2_isGuardedInside_l2 p1 p2 post n p1 p2 (0 : Int32) σ
set_option maxHeartbeats 4000000 in
set_option maxRecDepth 100000 in
theorem kX2_isGuardedInside (l : Launch) (G : qx_Gx) (t1 t2 : Nat) (ad : Nat → Nat → Nat) (p1 : Int32) (p2 : Int32) (σ : qx_St) (post : Int32 → qx_St → Prop) (hw : wX2_isGuardedInside p1 p2 σ post) : qx_Mi l G t1 t2 (qx_w0 ad) yX2_isGuardedInside cX2_isGuardedInside 5 (some .boolean) { frames := 1, cells := 0, slots := 0, locals := 22 } [.ref (ad 9 0), .int p1, .int p2] σ post := by
  unfold wX2_isGuardedInside at hw
  refine qx_start qx_mcX2_isGuardedInside (Nat.le_of_ble_eq_true rfl) (fun K hKl hR X hr hlk => ?_)
  subst hKl
  have L2 : ∀ (n : Nat) (a1 : Int32) (a2 : Int32) (a3 : Int32) (σ : qx_St), wX2_isGuardedInside_l2 p1 p2 post n a1 a2 a3 σ → qx_V K G 5 0 0 (MQ K.2.2.2.2.2.2.2.1 (va_Qi post (qx_B G (qx_w0 ad)) G.2.2) K.2.2.2.2.2.2.1 K.2.2.2.2.1 0 0 G.2.2) (qx_w0 ad) σ 2 [(0, .ref (ad 9 0)), (1, .int a1), (2, .int a2), (3, .int a3)] [] := by
    intro n
    induction n with
    | zero => intro a1 a2 a3 σ hw; exact hw.elim
    | succ n ih =>
      intro a1 a2 a3 σ hw
      refine qx_iload_n (pc := 2) X 3 dX2_isGuardedInside_2 rfl rfl ?_
      refine qx_iload_n (pc := 3) X 2 dX2_isGuardedInside_3 rfl rfl ?_
      refine qx_icmp_ge (tgt := 57) (pc := 4) X dX2_isGuardedInside_4 (by decide) (fun c8 => ?_) (fun c8 => ?_)
      · have hw := hw.1 c8
        refine qx_iconst (v := 0) (pc := 57) X dX2_isGuardedInside_57 (by decide) ?_
        exact qx_zret (pc := 58) X hr hlk (Or.inl rfl) hw dX2_isGuardedInside_58
      · have hw := hw.2 c8
        refine qx_iload_n (pc := 7) X 3 dX2_isGuardedInside_7 rfl rfl ?_
        refine qx_bipush (v := 8) (pc := 8) X dX2_isGuardedInside_8 (by decide) ?_
        refine qx_icmp_ge (tgt := 57) (pc := 10) X dX2_isGuardedInside_10 (by decide) (fun c7 => ?_) (fun c7 => ?_)
        · have hw := hw.1 c7
          refine qx_iconst (v := 0) (pc := 57) X dX2_isGuardedInside_57 (by decide) ?_
          exact qx_zret (pc := 58) X hr hlk (Or.inl rfl) hw dX2_isGuardedInside_58
        · have hw := hw.2 c7
          refine qx_aload_n (pc := 13) X 0 dX2_isGuardedInside_13 rfl rfl ?_
          refine qx_getr (f := 9) (i := 0) (a := ad 10 0) (pc := 14) X qx_gRX2_11 qx_me9 rfl dX2_isGuardedInside_14 ?_
          refine qx_iload_n (pc := 17) X 3 dX2_isGuardedInside_17 rfl rfl ?_
          have hi1 := qx_lt hw.1
          refine qx_aald (f := 10) (i := 0) (a := ad 12 a3.toNatClampNeg) (pc := 18) X rfl rfl qx_me10 hw.1 (qx_r0q (ad := ad) (f := 10) (i := 0) (k := 3) (n := 8) (tg := 12) rfl hi1) dX2_isGuardedInside_18 ?_
          have hw := hw.2
          refine qx_astore (lv' := [(4, .ref (ad 12 a3.toNatClampNeg)), (0, .ref (ad 9 0)), (1, .int a1), (2, .int a2), (3, .int a3)]) (pc := 19) X dX2_isGuardedInside_19 (by decide) rfl ?_
          refine qx_aload (pc := 21) X 0 dX2_isGuardedInside_21 rfl ?_
          refine qx_geti (f := 12) (i := a3.toNatClampNeg) (pc := 23) X qx_gRX2_82 (qx_me12 hi1) dX2_isGuardedInside_23 ?_
          refine qx_iload_n (pc := 26) X 2 dX2_isGuardedInside_26 rfl rfl ?_
          refine qx_icmp_ne (tgt := 51) (pc := 27) X dX2_isGuardedInside_27 (by decide) (fun c6 => ?_) (fun c6 => ?_)
          · have hw := hw.2 c6
            refine qx_iinc (v := (a3 + 1)) (lv' := [(3, .int (a3 + 1)), (4, .ref (ad 12 a3.toNatClampNeg)), (0, .ref (ad 9 0)), (1, .int a1), (2, .int a2)]) (pc := 51) X 4 dX2_isGuardedInside_51 rfl rfl (by decide) rfl ?_
            refine qx_goto (tgt := 2) (pc := 54) X dX2_isGuardedInside_54 (by decide) ?_
            refine qx_lsub [2, 3, 4, 0] rfl ?_
            exact ih a1 a2 (a3 + 1) σ hw
          · have hw := hw.1 c6
            refine qx_aload_n (pc := 30) X 1 dX2_isGuardedInside_30 rfl rfl ?_
            refine qx_getr (f := 9) (i := 0) (a := ad 1 0) (pc := 31) X qx_gRX2_23 qx_me9 rfl dX2_isGuardedInside_31 ?_
            refine qx_iload_n (pc := 34) X 2 dX2_isGuardedInside_34 rfl rfl ?_
            refine qx_aload (pc := 35) X 0 dX2_isGuardedInside_35 rfl ?_
            refine qx_geti (f := 12) (i := a3.toNatClampNeg) (pc := 37) X qx_gRX2_85 (qx_me12 hi1) dX2_isGuardedInside_37 ?_
            refine qx_callVr (f := 1) (i := 0) (pc := 40) X [.int a1, .int (σ 12 a3.toNatClampNeg 3)] [] (kX4_memberOf K.2.1 G t1 t2 ad a1 (σ 12 a3.toNatClampNeg 3) σ _ hw) qx_mcX4_memberOf qx_lRX2_88 qx_iX4_memberOf qx_selX4_memberOf qx_me1 qx_rc1 rfl ⟨rfl, rfl⟩ (by rw [hR]; decide) rfl (Nat.le_of_ble_eq_true rfl) dX2_isGuardedInside_40 ⟨Nat.zero_le _, Nat.zero_le _⟩ (fun r3 s2 hw => ?_)
            have hi4 := hw.1
            have hw := hw.2
            refine qx_geti (f := 17) (i := r3) (pc := 43) X qx_gRX2_248 (qx_me17 hi4) dX2_isGuardedInside_43 ?_
            refine qx_if_eq (tgt := 51) (pc := 46) X dX2_isGuardedInside_46 (by decide) (fun c5 => ?_) (fun c5 => ?_)
            · have hw := hw.1 c5
              refine qx_iinc (v := (a3 + 1)) (lv' := [(3, .int (a3 + 1)), (4, .ref (ad 12 a3.toNatClampNeg)), (0, .ref (ad 9 0)), (1, .int a1), (2, .int a2)]) (pc := 51) X 4 dX2_isGuardedInside_51 rfl rfl (by decide) rfl ?_
              refine qx_goto (tgt := 2) (pc := 54) X dX2_isGuardedInside_54 (by decide) ?_
              refine qx_lsub [2, 3, 4, 0] rfl ?_
              exact ih a1 a2 (a3 + 1) s2 hw
            · have hw := hw.2 c5
              refine qx_iconst (v := 1) (pc := 49) X dX2_isGuardedInside_49 (by decide) ?_
              exact qx_zret (pc := 50) X hr hlk (Or.inr rfl) hw dX2_isGuardedInside_50
  refine (show qx_V K G 5 0 0 (MQ K.2.2.2.2.2.2.2.1 (va_Qi post (qx_B G (qx_w0 ad)) G.2.2) K.2.2.2.2.2.2.1 K.2.2.2.2.1 0 0 G.2.2) (qx_w0 ad) σ 0 [(0, .ref (ad 9 0)), (1, .int p1), (2, .int p2)] [] from ?_)
  refine qx_iconst (v := 0) (pc := 0) X dX2_isGuardedInside_0 (by decide) ?_
  refine qx_istore_n (lv' := [(3, .int (0 : Int32)), (0, .ref (ad 9 0)), (1, .int p1), (2, .int p2)]) (pc := 1) X dX2_isGuardedInside_1 rfl (by decide) rfl ?_
  refine qx_lsub [1, 2, 3, 0] rfl ?_
  obtain ⟨n, hw⟩ := hw
  exact L2 n p1 p2 (0 : Int32) σ hw
def wX8_canPay (p1 : Int32) (p2 : Int32) (σ : qx_St) (post : Int32 → qx_St → Prop) : Prop := ((p2 < 0 → post (0 : Int32) σ) ∧ (¬ (p2 < 0) → (vp_in p1 13 ∧ (((σ 5 0 p1.toNatClampNeg) < p2 → post (0 : Int32) σ) ∧ (¬ ((σ 5 0 p1.toNatClampNeg) < p2) → post (1 : Int32) σ)))))
set_option maxHeartbeats 4000000 in
set_option maxRecDepth 100000 in
theorem kX8_canPay (l : Launch) (G : qx_Gx) (t1 t2 : Nat) (ad : Nat → Nat → Nat) (p1 : Int32) (p2 : Int32) (σ : qx_St) (post : Int32 → qx_St → Prop) (hw : wX8_canPay p1 p2 σ post) : qx_Mi l G t1 t2 (qx_w0 ad) yX8_canPay cX8_canPay 3 (some .boolean) { frames := 0, cells := 0, slots := 0, locals := 0 } [.ref (ad 3 0), .int p1, .int p2] σ post := by
  unfold wX8_canPay at hw
  refine qx_start qx_mcX8_canPay (Nat.le_of_ble_eq_true rfl) (fun K hKl hR X hr hlk => ?_)
  subst hKl
  refine (show qx_V K G 3 0 0 (MQ K.2.2.2.2.2.2.2.1 (va_Qi post (qx_B G (qx_w0 ad)) G.2.2) K.2.2.2.2.2.2.1 K.2.2.2.2.1 0 0 G.2.2) (qx_w0 ad) σ 0 [(0, .ref (ad 3 0)), (1, .int p1), (2, .int p2)] [] from ?_)
  refine qx_iload_n (pc := 0) X 2 dX8_canPay_0 rfl rfl ?_
  refine qx_if_lt (tgt := 18) (pc := 1) X dX8_canPay_1 (by decide) (fun c2 => ?_) (fun c2 => ?_)
  · have hw := hw.1 c2
    refine qx_iconst (v := 0) (pc := 18) X dX8_canPay_18 (by decide) ?_
    exact qx_zret (pc := 19) X hr hlk (Or.inl rfl) hw dX8_canPay_19
  · have hw := hw.2 c2
    refine qx_iload_n (pc := 4) X 2 dX8_canPay_4 rfl rfl ?_
    refine qx_aload_n (pc := 5) X 0 dX8_canPay_5 rfl rfl ?_
    refine qx_getr (f := 3) (i := 0) (a := ad 5 0) (pc := 6) X qx_gRX8_15 qx_me3 rfl dX8_canPay_6 ?_
    refine qx_iload_n (pc := 9) X 1 dX8_canPay_9 rfl rfl ?_
    refine qx_iald (f := 5) (i := 0) (pc := 10) X rfl qx_me5 hw.1 dX8_canPay_10 ?_
    have hw := hw.2
    refine qx_icmp_gt (tgt := 18) (pc := 11) X dX8_canPay_11 (by decide) (fun c1 => ?_) (fun c1 => ?_)
    · have hw := hw.1 c1
      refine qx_iconst (v := 0) (pc := 18) X dX8_canPay_18 (by decide) ?_
      exact qx_zret (pc := 19) X hr hlk (Or.inl rfl) hw dX8_canPay_19
    · have hw := hw.2 c1
      refine qx_iconst (v := 1) (pc := 14) X dX8_canPay_14 (by decide) ?_
      refine qx_goto (tgt := 19) (pc := 15) X dX8_canPay_15 (by decide) ?_
      exact qx_zret (pc := 19) X hr hlk (Or.inr rfl) hw dX8_canPay_19
def wX2_whyNotEntered_j64 (d1 : Nat) (p2 : Int32) (p3 : Int32) (p4 : Int32) (p5 : Int32) (post : Int32 → qx_St → Prop) (a2 : Int32) (a3 : Int32) (a4 : Int32) (a5 : Int32) (σ : qx_St) : Prop := ((a4 = 0 → wX8_canPay (σ 12 d1 2) a4 σ (fun r10 s9 => ((r10 = 0 → post (7 : Int32) s9) ∧ (¬ (r10 = 0) → post (0 : Int32) s9)))) ∧ (¬ (a4 = 0) → (((σ 12 d1 7) = 0 → wX8_canPay (σ 12 d1 2) a4 σ (fun r13 s12 => ((r13 = 0 → post (7 : Int32) s12) ∧ (¬ (r13 = 0) → post (0 : Int32) s12)))) ∧ (¬ ((σ 12 d1 7) = 0) → post (2 : Int32) σ))))
def wX2_whyNotEntered (d1 : Nat) (p2 : Int32) (p3 : Int32) (p4 : Int32) (p5 : Int32) (σ : qx_St) (post : Int32 → qx_St → Prop) : Prop := wX4_has p2 σ (fun r2 s1 => ((r2 = 0 → post (1 : Int32) s1) ∧ (¬ (r2 = 0) → wX4_memberOf p2 p3 s1 (fun r4 s3 => r4 < 32 ∧ (((s3 17 r4 3) = 0 → post (1 : Int32) s3) ∧ (¬ ((s3 17 r4 3) = 0) → ((p5 < (8 : Int32) → wX4_memberOf p2 p3 s3 (fun r7 s6 => r7 < 32 ∧ (((s6 17 r7 4) = 0 → wX2_whyNotEntered_j64 d1 p2 p3 p4 p5 post p2 p3 p4 p5 s6) ∧ (¬ ((s6 17 r7 4) = 0) → wX2_isGuardedInside p2 p5 s6 (fun r18 s17 => ((r18 = 0 → wX2_whyNotEntered_j64 d1 p2 p3 p4 p5 post p2 p3 p4 p5 s17) ∧ (¬ (r18 = 0) → post (4 : Int32) s17))))))) ∧ (¬ (p5 < (8 : Int32)) → post (5 : Int32) s3))))))))
set_option maxHeartbeats 4000000 in
set_option maxRecDepth 100000 in
theorem kX2_whyNotEntered (l : Launch) (G : qx_Gx) (t1 t2 : Nat) (ad : Nat → Nat → Nat) (d1 : Nat) (p2 : Int32) (p3 : Int32) (p4 : Int32) (p5 : Int32) (hd1 : d1 < 8) (σ : qx_St) (post : Int32 → qx_St → Prop) (hw : wX2_whyNotEntered d1 p2 p3 p4 p5 σ post) : qx_Mi l G t1 t2 (qx_w0 ad) yX2_whyNotEntered cX2_whyNotEntered 6 (some .int) { frames := 2, cells := 0, slots := 0, locals := 46 } [.ref (ad 9 0), .ref (ad 12 d1), .int p2, .int p3, .int p4, .int p5] σ post := by
  unfold wX2_whyNotEntered at hw
  refine qx_start qx_mcX2_whyNotEntered (Nat.le_of_ble_eq_true rfl) (fun K hKl hR X hr hlk => ?_)
  subst hKl
  have J64 : ∀ (a2 : Int32) (a3 : Int32) (a4 : Int32) (a5 : Int32) (σ : qx_St), wX2_whyNotEntered_j64 d1 p2 p3 p4 p5 post a2 a3 a4 a5 σ → qx_V K G 6 0 0 (MQ K.2.2.2.2.2.2.2.1 (va_Qi post (qx_B G (qx_w0 ad)) G.2.2) K.2.2.2.2.2.2.1 K.2.2.2.2.1 0 0 G.2.2) (qx_w0 ad) σ 64 [(0, .ref (ad 9 0)), (1, .ref (ad 12 d1)), (2, .int a2), (3, .int a3), (4, .int a4), (5, .int a5)] [] := by
    intro a2 a3 a4 a5 σ hw
    unfold wX2_whyNotEntered_j64 at hw
    refine qx_iload (pc := 64) X 4 dX2_whyNotEntered_64 rfl ?_
    refine qx_if_eq (tgt := 78) (pc := 66) X dX2_whyNotEntered_66 (by decide) (fun c16 => ?_) (fun c16 => ?_)
    · have hw := hw.1 c16
      refine qx_aload_n (pc := 78) X 0 dX2_whyNotEntered_78 rfl rfl ?_
      refine qx_getr (f := 9) (i := 0) (a := ad 3 0) (pc := 79) X qx_gRX2_27 qx_me9 rfl dX2_whyNotEntered_79 ?_
      refine qx_aload_n (pc := 82) X 1 dX2_whyNotEntered_82 rfl rfl ?_
      refine qx_geti (f := 12) (i := d1) (pc := 83) X qx_gRX2_82 (qx_me12 hd1) dX2_whyNotEntered_83 ?_
      refine qx_iload (pc := 86) X 4 dX2_whyNotEntered_86 rfl ?_
      refine qx_callVi (f := 3) (i := 0) (pc := 88) X [.int (σ 12 d1 2), .int a4] [] (kX8_canPay K.2.1 G t1 t2 ad (σ 12 d1 2) a4 σ _ hw) qx_mcX8_canPay qx_lRX2_226 qx_iX8_canPay qx_selX8_canPay qx_me3 qx_rc3 rfl ⟨rfl, rfl⟩ (by rw [hR]; decide) rfl (Nat.le_of_ble_eq_true rfl) dX2_whyNotEntered_88 ⟨Nat.zero_le _, Nat.zero_le _⟩ (fun r10 s9 hw => ?_)
      refine qx_if_eq (tgt := 98) (pc := 91) X dX2_whyNotEntered_91 (by decide) (fun c11 => ?_) (fun c11 => ?_)
      · have hw := hw.1 c11
        refine qx_bipush (v := 7) (pc := 98) X dX2_whyNotEntered_98 (by decide) ?_
        exact qx_iret (pc := 100) X hr hlk hw dX2_whyNotEntered_100
      · have hw := hw.2 c11
        refine qx_iconst (v := 0) (pc := 94) X dX2_whyNotEntered_94 (by decide) ?_
        refine qx_goto (tgt := 100) (pc := 95) X dX2_whyNotEntered_95 (by decide) ?_
        exact qx_iret (pc := 100) X hr hlk hw dX2_whyNotEntered_100
    · have hw := hw.2 c16
      refine qx_aload_n (pc := 69) X 1 dX2_whyNotEntered_69 rfl rfl ?_
      refine qx_geti (f := 12) (i := d1) (pc := 70) X qx_gRX2_53 (qx_me12 hd1) dX2_whyNotEntered_70 ?_
      refine qx_if_eq (tgt := 78) (pc := 73) X dX2_whyNotEntered_73 (by decide) (fun c15 => ?_) (fun c15 => ?_)
      · have hw := hw.1 c15
        refine qx_aload_n (pc := 78) X 0 dX2_whyNotEntered_78 rfl rfl ?_
        refine qx_getr (f := 9) (i := 0) (a := ad 3 0) (pc := 79) X qx_gRX2_27 qx_me9 rfl dX2_whyNotEntered_79 ?_
        refine qx_aload_n (pc := 82) X 1 dX2_whyNotEntered_82 rfl rfl ?_
        refine qx_geti (f := 12) (i := d1) (pc := 83) X qx_gRX2_82 (qx_me12 hd1) dX2_whyNotEntered_83 ?_
        refine qx_iload (pc := 86) X 4 dX2_whyNotEntered_86 rfl ?_
        refine qx_callVi (f := 3) (i := 0) (pc := 88) X [.int (σ 12 d1 2), .int a4] [] (kX8_canPay K.2.1 G t1 t2 ad (σ 12 d1 2) a4 σ _ hw) qx_mcX8_canPay qx_lRX2_226 qx_iX8_canPay qx_selX8_canPay qx_me3 qx_rc3 rfl ⟨rfl, rfl⟩ (by rw [hR]; decide) rfl (Nat.le_of_ble_eq_true rfl) dX2_whyNotEntered_88 ⟨Nat.zero_le _, Nat.zero_le _⟩ (fun r13 s12 hw => ?_)
        refine qx_if_eq (tgt := 98) (pc := 91) X dX2_whyNotEntered_91 (by decide) (fun c14 => ?_) (fun c14 => ?_)
        · have hw := hw.1 c14
          refine qx_bipush (v := 7) (pc := 98) X dX2_whyNotEntered_98 (by decide) ?_
          exact qx_iret (pc := 100) X hr hlk hw dX2_whyNotEntered_100
        · have hw := hw.2 c14
          refine qx_iconst (v := 0) (pc := 94) X dX2_whyNotEntered_94 (by decide) ?_
          refine qx_goto (tgt := 100) (pc := 95) X dX2_whyNotEntered_95 (by decide) ?_
          exact qx_iret (pc := 100) X hr hlk hw dX2_whyNotEntered_100
      · have hw := hw.2 c15
        refine qx_iconst (v := 2) (pc := 76) X dX2_whyNotEntered_76 (by decide) ?_
        exact qx_iret (pc := 77) X hr hlk hw dX2_whyNotEntered_77
  refine (show qx_V K G 6 0 0 (MQ K.2.2.2.2.2.2.2.1 (va_Qi post (qx_B G (qx_w0 ad)) G.2.2) K.2.2.2.2.2.2.1 K.2.2.2.2.1 0 0 G.2.2) (qx_w0 ad) σ 0 [(0, .ref (ad 9 0)), (1, .ref (ad 12 d1)), (2, .int p2), (3, .int p3), (4, .int p4), (5, .int p5)] [] from ?_)
  refine qx_aload_n (pc := 0) X 0 dX2_whyNotEntered_0 rfl rfl ?_
  refine qx_getr (f := 9) (i := 0) (a := ad 1 0) (pc := 1) X qx_gRX2_23 qx_me9 rfl dX2_whyNotEntered_1 ?_
  refine qx_iload_n (pc := 4) X 2 dX2_whyNotEntered_4 rfl rfl ?_
  refine qx_callVi (f := 1) (i := 0) (pc := 5) X [.int p2] [] (kX4_has K.2.1 G t1 t2 ad p2 σ _ hw) qx_mcX4_has qx_lRX2_245 qx_iX4_has qx_selX4_has qx_me1 qx_rc1 rfl ⟨rfl, rfl⟩ (by rw [hR]; decide) rfl (Nat.le_of_ble_eq_true rfl) dX2_whyNotEntered_5 ⟨Nat.zero_le _, Nat.zero_le _⟩ (fun r2 s1 hw => ?_)
  refine qx_if_eq (tgt := 26) (pc := 8) X dX2_whyNotEntered_8 (by decide) (fun c23 => ?_) (fun c23 => ?_)
  · have hw := hw.1 c23
    refine qx_iconst (v := 1) (pc := 26) X dX2_whyNotEntered_26 (by decide) ?_
    exact qx_iret (pc := 27) X hr hlk hw dX2_whyNotEntered_27
  · have hw := hw.2 c23
    refine qx_aload_n (pc := 11) X 0 dX2_whyNotEntered_11 rfl rfl ?_
    refine qx_getr (f := 9) (i := 0) (a := ad 1 0) (pc := 12) X qx_gRX2_23 qx_me9 rfl dX2_whyNotEntered_12 ?_
    refine qx_iload_n (pc := 15) X 2 dX2_whyNotEntered_15 rfl rfl ?_
    refine qx_iload_n (pc := 16) X 3 dX2_whyNotEntered_16 rfl rfl ?_
    refine qx_callVr (f := 1) (i := 0) (pc := 17) X [.int p2, .int p3] [] (kX4_memberOf K.2.1 G t1 t2 ad p2 p3 s1 _ hw) qx_mcX4_memberOf qx_lRX2_88 qx_iX4_memberOf qx_selX4_memberOf qx_me1 qx_rc1 rfl ⟨rfl, rfl⟩ (by rw [hR]; decide) rfl (Nat.le_of_ble_eq_true rfl) dX2_whyNotEntered_17 ⟨Nat.zero_le _, Nat.zero_le _⟩ (fun r4 s3 hw => ?_)
    have hi5 := hw.1
    have hw := hw.2
    refine qx_geti (f := 17) (i := r4) (pc := 20) X qx_gRX2_111 (qx_me17 hi5) dX2_whyNotEntered_20 ?_
    refine qx_if_ne (tgt := 28) (pc := 23) X dX2_whyNotEntered_23 (by decide) (fun c22 => ?_) (fun c22 => ?_)
    · have hw := hw.2 c22
      refine qx_iload (pc := 28) X 5 dX2_whyNotEntered_28 rfl ?_
      refine qx_bipush (v := 8) (pc := 30) X dX2_whyNotEntered_30 (by decide) ?_
      refine qx_icmp_lt (tgt := 37) (pc := 32) X dX2_whyNotEntered_32 (by decide) (fun c21 => ?_) (fun c21 => ?_)
      · have hw := hw.1 c21
        refine qx_aload_n (pc := 37) X 0 dX2_whyNotEntered_37 rfl rfl ?_
        refine qx_getr (f := 9) (i := 0) (a := ad 1 0) (pc := 38) X qx_gRX2_23 qx_me9 rfl dX2_whyNotEntered_38 ?_
        refine qx_iload_n (pc := 41) X 2 dX2_whyNotEntered_41 rfl rfl ?_
        refine qx_iload_n (pc := 42) X 3 dX2_whyNotEntered_42 rfl rfl ?_
        refine qx_callVr (f := 1) (i := 0) (pc := 43) X [.int p2, .int p3] [] (kX4_memberOf K.2.1 G t1 t2 ad p2 p3 s3 _ hw) qx_mcX4_memberOf qx_lRX2_88 qx_iX4_memberOf qx_selX4_memberOf qx_me1 qx_rc1 rfl ⟨rfl, rfl⟩ (by rw [hR]; decide) rfl (Nat.le_of_ble_eq_true rfl) dX2_whyNotEntered_43 ⟨Nat.zero_le _, Nat.zero_le _⟩ (fun r7 s6 hw => ?_)
        have hi8 := hw.1
        have hw := hw.2
        refine qx_geti (f := 17) (i := r7) (pc := 46) X qx_gRX2_248 (qx_me17 hi8) dX2_whyNotEntered_46 ?_
        refine qx_if_eq (tgt := 64) (pc := 49) X dX2_whyNotEntered_49 (by decide) (fun c20 => ?_) (fun c20 => ?_)
        · have hw := hw.1 c20
          exact J64 p2 p3 p4 p5 s6 hw
        · have hw := hw.2 c20
          refine qx_aload_n (pc := 52) X 0 dX2_whyNotEntered_52 rfl rfl ?_
          refine qx_iload_n (pc := 53) X 2 dX2_whyNotEntered_53 rfl rfl ?_
          refine qx_iload (pc := 54) X 5 dX2_whyNotEntered_54 rfl ?_
          refine qx_callVi (f := 9) (i := 0) (pc := 56) X [.int p2, .int p5] [] (kX2_isGuardedInside K.2.1 G t1 t2 ad p2 p5 s6 _ hw) qx_mcX2_isGuardedInside qx_lRX2_251 qx_iX2_isGuardedInside qx_selX2_isGuardedInside qx_me9 qx_rc9 rfl ⟨rfl, rfl⟩ (by rw [hR]; decide) rfl (Nat.le_of_ble_eq_true rfl) dX2_whyNotEntered_56 ⟨Nat.zero_le _, Nat.zero_le _⟩ (fun r18 s17 hw => ?_)
          refine qx_if_eq (tgt := 64) (pc := 59) X dX2_whyNotEntered_59 (by decide) (fun c19 => ?_) (fun c19 => ?_)
          · have hw := hw.1 c19
            exact J64 p2 p3 p4 p5 s17 hw
          · have hw := hw.2 c19
            refine qx_iconst (v := 4) (pc := 62) X dX2_whyNotEntered_62 (by decide) ?_
            exact qx_iret (pc := 63) X hr hlk hw dX2_whyNotEntered_63
      · have hw := hw.2 c21
        refine qx_iconst (v := 5) (pc := 35) X dX2_whyNotEntered_35 (by decide) ?_
        exact qx_iret (pc := 36) X hr hlk hw dX2_whyNotEntered_36
    · have hw := hw.1 c22
      refine qx_iconst (v := 1) (pc := 26) X dX2_whyNotEntered_26 (by decide) ?_
      exact qx_iret (pc := 27) X hr hlk hw dX2_whyNotEntered_27
def wX2_answerThrown (d0 : Nat) (p1 : Int32) (p2 : Int32) (σ : qx_St) (post : qx_St → Prop) : Prop := ((p1 = (20 : Int32) → wX1_put d0 p2 σ (fun s1 => wX1_put d0 (0 : Int32) s1 (fun s3 => post s3))) ∧ (¬ (p1 = (20 : Int32)) → wX1_endThrowing d0 p2 σ (fun s5 => post s5)))
set_option maxHeartbeats 4000000 in
set_option maxRecDepth 100000 in
theorem kX2_answerThrown (l : Launch) (G : qx_Gx) (t1 t2 : Nat) (ad : Nat → Nat → Nat) (d0 : Nat) (p1 : Int32) (p2 : Int32) (hd0 : d0 < 8) (σ : qx_St) (post : qx_St → Prop) (hw : wX2_answerThrown d0 p1 p2 σ post) : qx_Mv l G t1 t2 (qx_w0 ad) yX2_answerThrown cX2_answerThrown 3 none { frames := 1, cells := 0, slots := 0, locals := 21 } [.ref (ad 12 d0), .int p1, .int p2] σ post := by
  unfold wX2_answerThrown at hw
  refine qx_start qx_mcX2_answerThrown (Nat.le_of_ble_eq_true rfl) (fun K hKl hR X hr hlk => ?_)
  subst hKl
  refine (show qx_V K G 3 0 0 (MQ K.2.2.2.2.2.2.2.1 (va_Qv post (qx_B G (qx_w0 ad)) G.2.2) K.2.2.2.2.2.2.1 K.2.2.2.2.1 0 0 G.2.2) (qx_w0 ad) σ 0 [(0, .ref (ad 12 d0)), (1, .int p1), (2, .int p2)] [] from ?_)
  refine qx_iload_n (pc := 0) X 1 dX2_answerThrown_0 rfl rfl ?_
  refine qx_bipush (v := 20) (pc := 1) X dX2_answerThrown_1 (by decide) ?_
  refine qx_icmp_eq (tgt := 12) (pc := 3) X dX2_answerThrown_3 (by decide) (fun c7 => ?_) (fun c7 => ?_)
  · have hw := hw.1 c7
    refine qx_aload_n (pc := 12) X 0 dX2_answerThrown_12 rfl rfl ?_
    refine qx_iload_n (pc := 13) X 2 dX2_answerThrown_13 rfl rfl ?_
    refine qx_callVv (f := 12) (i := d0) (pc := 14) X [.int p2] [] (kX1_put K.2.1 G t1 t2 ad d0 p2 hd0 σ _ hw) qx_mcX1_put qx_lRX2_167 qx_iX1_put qx_selX1_put (qx_me12 hd0) qx_rc12 rfl ⟨rfl, rfl⟩ (by rw [hR]; decide) rfl (Nat.le_of_ble_eq_true rfl) dX2_answerThrown_14 ⟨Nat.zero_le _, Nat.zero_le _⟩ (fun s1 hw => ?_)
    refine qx_aload_n (pc := 17) X 0 dX2_answerThrown_17 rfl rfl ?_
    refine qx_iconst (v := 0) (pc := 18) X dX2_answerThrown_18 (by decide) ?_
    refine qx_callVv (f := 12) (i := d0) (pc := 19) X [.int (0 : Int32)] [] (kX1_put K.2.1 G t1 t2 ad d0 (0 : Int32) hd0 s1 _ hw) qx_mcX1_put qx_lRX2_167 qx_iX1_put qx_selX1_put (qx_me12 hd0) qx_rc12 rfl ⟨rfl, rfl⟩ (by rw [hR]; decide) rfl (Nat.le_of_ble_eq_true rfl) dX2_answerThrown_19 ⟨Nat.zero_le _, Nat.zero_le _⟩ (fun s3 hw => ?_)
    exact qx_vret (pc := 22) X hr hlk hw dX2_answerThrown_22
  · have hw := hw.2 c7
    refine qx_aload_n (pc := 6) X 0 dX2_answerThrown_6 rfl rfl ?_
    refine qx_iload_n (pc := 7) X 2 dX2_answerThrown_7 rfl rfl ?_
    refine qx_callVv (f := 12) (i := d0) (pc := 8) X [.int p2] [] (kX1_endThrowing K.2.1 G t1 t2 ad d0 p2 hd0 σ _ hw) qx_mcX1_endThrowing qx_lRX2_125 qx_iX1_endThrowing qx_selX1_endThrowing (qx_me12 hd0) qx_rc12 rfl ⟨rfl, rfl⟩ (by rw [hR]; decide) rfl (Nat.le_of_ble_eq_true rfl) dX2_answerThrown_8 ⟨Nat.zero_le _, Nat.zero_le _⟩ (fun s5 hw => ?_)
    exact qx_vret (pc := 11) X hr hlk hw dX2_answerThrown_11
def wX2_answerGiven (d0 : Nat) (p1 : Int32) (p2 : Int32) (σ : qx_St) (post : qx_St → Prop) : Prop := wX1_put d0 p2 σ (fun s1 => ((p1 = (20 : Int32) → wX1_put d0 (1 : Int32) s1 (fun s3 => post s3)) ∧ (¬ (p1 = (20 : Int32)) → post s1)))
set_option maxHeartbeats 4000000 in
set_option maxRecDepth 100000 in
theorem kX2_answerGiven (l : Launch) (G : qx_Gx) (t1 t2 : Nat) (ad : Nat → Nat → Nat) (d0 : Nat) (p1 : Int32) (p2 : Int32) (hd0 : d0 < 8) (σ : qx_St) (post : qx_St → Prop) (hw : wX2_answerGiven d0 p1 p2 σ post) : qx_Mv l G t1 t2 (qx_w0 ad) yX2_answerGiven cX2_answerGiven 3 none { frames := 1, cells := 0, slots := 0, locals := 21 } [.ref (ad 12 d0), .int p1, .int p2] σ post := by
  unfold wX2_answerGiven at hw
  refine qx_start qx_mcX2_answerGiven (Nat.le_of_ble_eq_true rfl) (fun K hKl hR X hr hlk => ?_)
  subst hKl
  refine (show qx_V K G 3 0 0 (MQ K.2.2.2.2.2.2.2.1 (va_Qv post (qx_B G (qx_w0 ad)) G.2.2) K.2.2.2.2.2.2.1 K.2.2.2.2.1 0 0 G.2.2) (qx_w0 ad) σ 0 [(0, .ref (ad 12 d0)), (1, .int p1), (2, .int p2)] [] from ?_)
  refine qx_aload_n (pc := 0) X 0 dX2_answerGiven_0 rfl rfl ?_
  refine qx_iload_n (pc := 1) X 2 dX2_answerGiven_1 rfl rfl ?_
  refine qx_callVv (f := 12) (i := d0) (pc := 2) X [.int p2] [] (kX1_put K.2.1 G t1 t2 ad d0 p2 hd0 σ _ hw) qx_mcX1_put qx_lRX2_167 qx_iX1_put qx_selX1_put (qx_me12 hd0) qx_rc12 rfl ⟨rfl, rfl⟩ (by rw [hR]; decide) rfl (Nat.le_of_ble_eq_true rfl) dX2_answerGiven_2 ⟨Nat.zero_le _, Nat.zero_le _⟩ (fun s1 hw => ?_)
  refine qx_iload_n (pc := 5) X 1 dX2_answerGiven_5 rfl rfl ?_
  refine qx_bipush (v := 20) (pc := 6) X dX2_answerGiven_6 (by decide) ?_
  refine qx_icmp_ne (tgt := 16) (pc := 8) X dX2_answerGiven_8 (by decide) (fun c5 => ?_) (fun c5 => ?_)
  · have hw := hw.2 c5
    exact qx_vret (pc := 16) X hr hlk hw dX2_answerGiven_16
  · have hw := hw.1 c5
    refine qx_aload_n (pc := 11) X 0 dX2_answerGiven_11 rfl rfl ?_
    refine qx_iconst (v := 1) (pc := 12) X dX2_answerGiven_12 (by decide) ?_
    refine qx_callVv (f := 12) (i := d0) (pc := 13) X [.int (1 : Int32)] [] (kX1_put K.2.1 G t1 t2 ad d0 (1 : Int32) hd0 s1 _ hw) qx_mcX1_put qx_lRX2_167 qx_iX1_put qx_selX1_put (qx_me12 hd0) qx_rc12 rfl ⟨rfl, rfl⟩ (by rw [hR]; decide) rfl (Nat.le_of_ble_eq_true rfl) dX2_answerGiven_13 ⟨Nat.zero_le _, Nat.zero_le _⟩ (fun s3 hw => ?_)
    exact qx_vret (pc := 16) X hr hlk hw dX2_answerGiven_16
def wX2_callOther_j118 (rf : Int32 → Int32 → qx_St → (qx_St → Prop) → Prop) (d1 : Nat) (p2 : Int32) (p3 : Int32) (p4 : Int32) (p5 : Int32) (post : qx_St → Prop) (a2 : Int32) (a3 : Int32) (a4 : Int32) (a5 : Int32) (a6 : Int32) (a7 : Int32) (a8 : Int32) (a9 : Int32) (c10 : Nat) (b0 : Int32) (e1 : Nat) (σ : qx_St) : Prop := (qx_vz b0 ∧ (∀ s14, s14 = qx_st σ 12 e1 7 b0 → rf (s14 12 d1 2) (a5 + (1 : Int32)) s14 (fun s16 => wX1_used c10 s16 (fun r19 s18 => (∀ s20, s20 = qx_st s18 12 d1 9 ((s16 12 d1 9) - r19) → wX1_hasThrown c10 s20 (fun r23 s22 => ((r23 = 0 → wX2_answerGiven d1 a2 (s22 12 c10 13) s22 (fun s24 => post s24)) ∧ (¬ (r23 = 0) → wX2_answerThrown d1 a2 (s22 12 c10 12) s22 (fun s26 => post s26)))))))))
def wX2_callOther_j113 (rf : Int32 → Int32 → qx_St → (qx_St → Prop) → Prop) (d1 : Nat) (p2 : Int32) (p3 : Int32) (p4 : Int32) (p5 : Int32) (post : qx_St → Prop) (a2 : Int32) (a3 : Int32) (a4 : Int32) (a5 : Int32) (a6 : Int32) (a7 : Int32) (a8 : Int32) (a9 : Int32) (c10 : Nat) (e0 : Nat) (σ : qx_St) : Prop := wX2_callOther_j118 rf d1 p2 p3 p4 p5 post a2 a3 a4 a5 a6 a7 a8 a9 c10 (1 : Int32) e0 σ
def wX2_callOther_j20 (rf : Int32 → Int32 → qx_St → (qx_St → Prop) → Prop) (d1 : Nat) (p2 : Int32) (p3 : Int32) (p4 : Int32) (p5 : Int32) (post : qx_St → Prop) (a2 : Int32) (a3 : Int32) (a4 : Int32) (a5 : Int32) (a6 : Int32) (b0 : Int32) (σ : qx_St) : Prop := wX1_take d1 σ (fun r6 s5 => wX2_whyNotEntered d1 a3 a4 b0 a5 s5 (fun r8 s7 => ((r8 = 0 → (vp_in a5 8 ∧ wX1_begin (a5.toNatClampNeg) a3 a4 a6 b0 (if (s5 12 d1 9) < (if r6 < (0 : Int32) then (0 : Int32) else r6) then (s5 12 d1 9) else (if r6 < (0 : Int32) then (0 : Int32) else r6)) s7 (fun s10 => (∀ s12, s12 = qx_st s10 12 a5.toNatClampNeg 6 (s10 12 d1 2) → (((s12 12 d1 7) = 0 → ((a2 = (21 : Int32) → wX2_callOther_j113 rf d1 p2 p3 p4 p5 post a2 a3 a4 a5 a6 b0 (if (s5 12 d1 9) < (if r6 < (0 : Int32) then (0 : Int32) else r6) then (s5 12 d1 9) else (if r6 < (0 : Int32) then (0 : Int32) else r6)) r8 a5.toNatClampNeg a5.toNatClampNeg s12) ∧ (¬ (a2 = (21 : Int32)) → wX2_callOther_j118 rf d1 p2 p3 p4 p5 post a2 a3 a4 a5 a6 b0 (if (s5 12 d1 9) < (if r6 < (0 : Int32) then (0 : Int32) else r6) then (s5 12 d1 9) else (if r6 < (0 : Int32) then (0 : Int32) else r6)) r8 a5.toNatClampNeg (0 : Int32) a5.toNatClampNeg s12))) ∧ (¬ ((s12 12 d1 7) = 0) → wX2_callOther_j113 rf d1 p2 p3 p4 p5 post a2 a3 a4 a5 a6 b0 (if (s5 12 d1 9) < (if r6 < (0 : Int32) then (0 : Int32) else r6) then (s5 12 d1 9) else (if r6 < (0 : Int32) then (0 : Int32) else r6)) r8 a5.toNatClampNeg a5.toNatClampNeg s12)))))) ∧ (¬ (r8 = 0) → wX2_answerThrown d1 a2 r8 s7 (fun s31 => post s31)))))
def wX2_callOther (rf : Int32 → Int32 → qx_St → (qx_St → Prop) → Prop) (d1 : Nat) (p2 : Int32) (p3 : Int32) (p4 : Int32) (p5 : Int32) (σ : qx_St) (post : qx_St → Prop) : Prop := wX1_take d1 σ (fun r2 s1 => ((p2 = (21 : Int32) → wX2_callOther_j20 rf d1 p2 p3 p4 p5 post p2 p3 p4 p5 r2 (0 : Int32) s1) ∧ (¬ (p2 = (21 : Int32)) → wX1_take d1 s1 (fun r4 s3 => wX2_callOther_j20 rf d1 p2 p3 p4 p5 post p2 p3 p4 p5 r2 r4 s3))))
set_option maxHeartbeats 4000000 in
set_option maxRecDepth 100000 in
theorem kX2_callOther (l : Launch) (G : qx_Gx) (t1 t2 : Nat) (ad : Nat → Nat → Nat) (rf : Int32 → Int32 → qx_St → (qx_St → Prop) → Prop) (kk : Nat) (hrf : ∀ (x1 : Int32) (x2 : Int32) (σ : qx_St) (post : qx_St → Prop), rf x1 x2 σ post → qx_Mv l G t1 t2 (qx_w0 ad) yX2_runFrame cX2_runFrame 8 none { frames := 4 * kk + 10, cells := 0, slots := 0, locals := 200 * kk + 300 } [.ref (ad 9 0), .int x1, .int x2] σ post) (d1 : Nat) (p2 : Int32) (p3 : Int32) (p4 : Int32) (p5 : Int32) (hd1 : d1 < 8) (σ : qx_St) (post : qx_St → Prop) (hw : wX2_callOther rf d1 p2 p3 p4 p5 σ post) : qx_Mv l G t1 t2 (qx_w0 ad) yX2_callOther cX2_callOther 11 none { frames := 4 * kk + 11, cells := 0, slots := 0, locals := 200 * kk + 340 } [.ref (ad 9 0), .ref (ad 12 d1), .int p2, .int p3, .int p4, .int p5] σ post := by
  unfold wX2_callOther at hw
  refine qx_start qx_mcX2_callOther (Nat.le_of_ble_eq_true rfl) (fun K hKl hR X hr hlk => ?_)
  subst hKl
  have J118 : ∀ (a2 : Int32) (a3 : Int32) (a4 : Int32) (a5 : Int32) (a6 : Int32) (a7 : Int32) (a8 : Int32) (a9 : Int32) (c10 : Nat) (hc10 : c10 < 8) (b0 : Int32) (e1 : Nat) (he1 : e1 < 8) (σ : qx_St), wX2_callOther_j118 rf d1 p2 p3 p4 p5 post a2 a3 a4 a5 a6 a7 a8 a9 c10 b0 e1 σ → qx_V K G 11 0 0 (MQ K.2.2.2.2.2.2.2.1 (va_Qv post (qx_B G (qx_w0 ad)) G.2.2) K.2.2.2.2.2.2.1 K.2.2.2.2.1 0 0 G.2.2) (qx_w0 ad) σ 118 [(0, .ref (ad 9 0)), (1, .ref (ad 12 d1)), (2, .int a2), (3, .int a3), (4, .int a4), (5, .int a5), (6, .int a6), (7, .int a7), (8, .int a8), (9, .int a9), (10, .ref (ad 12 c10))] [.int b0, .ref (ad 12 e1)] := by
    intro a2 a3 a4 a5 a6 a7 a8 a9 c10 hc10 b0 e1 he1 σ hw
    unfold wX2_callOther_j118 at hw
    refine qx_putz1 (f := 12) (i := e1) (pc := 118) X qx_pRX2_53 (qx_me12 he1) hw.1 dX2_callOther_118 (fun s14 e15 => ?_)
    have hw := hw.2
    have hw := hw s14 e15
    refine qx_aload_n (pc := 121) X 0 dX2_callOther_121 rfl rfl ?_
    refine qx_aload_n (pc := 122) X 1 dX2_callOther_122 rfl rfl ?_
    refine qx_geti (f := 12) (i := d1) (pc := 123) X qx_gRX2_82 (qx_me12 hd1) dX2_callOther_123 ?_
    refine qx_iload (pc := 126) X 5 dX2_callOther_126 rfl ?_
    refine qx_iconst (v := 1) (pc := 128) X dX2_callOther_128 (by decide) ?_
    refine qx_iadd (pc := 129) X dX2_callOther_129 ?_
    refine qx_callVv (f := 9) (i := 0) (pc := 130) X [.int (s14 12 d1 2), .int (a5 + (1 : Int32))] [] (hrf (s14 12 d1 2) (a5 + (1 : Int32)) s14 _ hw) qx_mcX2_runFrame qx_lRX2_57 qx_iX2_runFrame qx_selX2_runFrame qx_me9 qx_rc9 rfl ⟨rfl, rfl⟩ (by rw [hR]; exact ⟨by dsimp only; omega, by dsimp only; omega⟩) rfl (Nat.le_of_ble_eq_true rfl) dX2_callOther_130 ⟨Nat.zero_le _, Nat.zero_le _⟩ (fun s16 hw => ?_)
    refine qx_aload_n (pc := 133) X 1 dX2_callOther_133 rfl rfl ?_
    refine qx_dup (pc := 134) X dX2_callOther_134 rfl ?_
    refine qx_geti (f := 12) (i := d1) (pc := 135) X qx_gRX2_120 (qx_me12 hd1) dX2_callOther_135 ?_
    refine qx_aload (pc := 138) X 10 dX2_callOther_138 rfl ?_
    refine qx_callVi (f := 12) (i := c10) (pc := 140) X [] [.int (s16 12 d1 9), .ref (ad 12 d1)] (kX1_used K.2.1 G t1 t2 ad c10 hc10 s16 _ hw) qx_mcX1_used qx_lRX2_64 qx_iX1_used qx_selX1_used (qx_me12 hc10) qx_rc12 rfl ⟨rfl, rfl⟩ (by rw [hR]; exact ⟨by dsimp only; omega, by dsimp only; omega⟩) rfl (Nat.le_of_ble_eq_true rfl) dX2_callOther_140 ⟨Nat.zero_le _, Nat.zero_le _⟩ (fun r19 s18 hw => ?_)
    refine qx_isub (pc := 143) X dX2_callOther_143 ?_
    refine qx_puti1 (f := 12) (i := d1) (pc := 144) X qx_pRX2_120 (qx_me12 hd1) dX2_callOther_144 (fun s20 e21 => ?_)
    have hw := hw s20 e21
    refine qx_aload (pc := 147) X 10 dX2_callOther_147 rfl ?_
    refine qx_callVi (f := 12) (i := c10) (pc := 149) X [] [] (kX1_hasThrown K.2.1 G t1 t2 ad c10 hc10 s20 _ hw) qx_mcX1_hasThrown qx_lRX2_132 qx_iX1_hasThrown qx_selX1_hasThrown (qx_me12 hc10) qx_rc12 rfl ⟨rfl, rfl⟩ (by rw [hR]; exact ⟨by dsimp only; omega, by dsimp only; omega⟩) rfl (Nat.le_of_ble_eq_true rfl) dX2_callOther_149 ⟨Nat.zero_le _, Nat.zero_le _⟩ (fun r23 s22 hw => ?_)
    refine qx_if_eq (tgt := 168) (pc := 152) X dX2_callOther_152 (by decide) (fun c28 => ?_) (fun c28 => ?_)
    · have hw := hw.1 c28
      refine qx_aload_n (pc := 168) X 1 dX2_callOther_168 rfl rfl ?_
      refine qx_iload_n (pc := 169) X 2 dX2_callOther_169 rfl rfl ?_
      refine qx_aload (pc := 170) X 10 dX2_callOther_170 rfl ?_
      refine qx_geti (f := 12) (i := c10) (pc := 172) X qx_gRX2_239 (qx_me12 hc10) dX2_callOther_172 ?_
      refine qx_callSv (pc := 175) X [.ref (ad 12 d1), .int a2, .int (s22 12 c10 13)] [] (kX2_answerGiven K.2.1 G t1 t2 ad d1 a2 (s22 12 c10 13) hd1 s22 _ hw) qx_mcX2_answerGiven qx_lRX2_242 qx_sX2_answerGiven rfl ⟨rfl, rfl⟩ (by rw [hR]; exact ⟨by dsimp only; omega, by dsimp only; omega⟩) rfl (Nat.le_of_ble_eq_true rfl) dX2_callOther_175 ⟨Nat.zero_le _, Nat.zero_le _⟩ (fun s24 hw => ?_)
      exact qx_vret (pc := 178) X hr hlk hw dX2_callOther_178
    · have hw := hw.2 c28
      refine qx_aload_n (pc := 155) X 1 dX2_callOther_155 rfl rfl ?_
      refine qx_iload_n (pc := 156) X 2 dX2_callOther_156 rfl rfl ?_
      refine qx_aload (pc := 157) X 10 dX2_callOther_157 rfl ?_
      refine qx_geti (f := 12) (i := c10) (pc := 159) X qx_gRX2_236 (qx_me12 hc10) dX2_callOther_159 ?_
      refine qx_callSv (pc := 162) X [.ref (ad 12 d1), .int a2, .int (s22 12 c10 12)] [] (kX2_answerThrown K.2.1 G t1 t2 ad d1 a2 (s22 12 c10 12) hd1 s22 _ hw) qx_mcX2_answerThrown qx_lRX2_233 qx_sX2_answerThrown rfl ⟨rfl, rfl⟩ (by rw [hR]; exact ⟨by dsimp only; omega, by dsimp only; omega⟩) rfl (Nat.le_of_ble_eq_true rfl) dX2_callOther_162 ⟨Nat.zero_le _, Nat.zero_le _⟩ (fun s26 hw => ?_)
      refine qx_goto (tgt := 178) (pc := 165) X dX2_callOther_165 (by decide) ?_
      exact qx_vret (pc := 178) X hr hlk hw dX2_callOther_178
  have J113 : ∀ (a2 : Int32) (a3 : Int32) (a4 : Int32) (a5 : Int32) (a6 : Int32) (a7 : Int32) (a8 : Int32) (a9 : Int32) (c10 : Nat) (hc10 : c10 < 8) (e0 : Nat) (he0 : e0 < 8) (σ : qx_St), wX2_callOther_j113 rf d1 p2 p3 p4 p5 post a2 a3 a4 a5 a6 a7 a8 a9 c10 e0 σ → qx_V K G 11 0 0 (MQ K.2.2.2.2.2.2.2.1 (va_Qv post (qx_B G (qx_w0 ad)) G.2.2) K.2.2.2.2.2.2.1 K.2.2.2.2.1 0 0 G.2.2) (qx_w0 ad) σ 113 [(0, .ref (ad 9 0)), (1, .ref (ad 12 d1)), (2, .int a2), (3, .int a3), (4, .int a4), (5, .int a5), (6, .int a6), (7, .int a7), (8, .int a8), (9, .int a9), (10, .ref (ad 12 c10))] [.ref (ad 12 e0)] := by
    intro a2 a3 a4 a5 a6 a7 a8 a9 c10 hc10 e0 he0 σ hw
    unfold wX2_callOther_j113 at hw
    refine qx_iconst (v := 1) (pc := 113) X dX2_callOther_113 (by decide) ?_
    refine qx_goto (tgt := 118) (pc := 114) X dX2_callOther_114 (by decide) ?_
    exact J118 a2 a3 a4 a5 a6 a7 a8 a9 c10 hc10 (1 : Int32) e0 he0 σ hw
  have J20 : ∀ (a2 : Int32) (a3 : Int32) (a4 : Int32) (a5 : Int32) (a6 : Int32) (b0 : Int32) (σ : qx_St), wX2_callOther_j20 rf d1 p2 p3 p4 p5 post a2 a3 a4 a5 a6 b0 σ → qx_V K G 11 0 0 (MQ K.2.2.2.2.2.2.2.1 (va_Qv post (qx_B G (qx_w0 ad)) G.2.2) K.2.2.2.2.2.2.1 K.2.2.2.2.1 0 0 G.2.2) (qx_w0 ad) σ 20 [(0, .ref (ad 9 0)), (1, .ref (ad 12 d1)), (2, .int a2), (3, .int a3), (4, .int a4), (5, .int a5), (6, .int a6)] [.int b0] := by
    intro a2 a3 a4 a5 a6 b0 σ hw
    unfold wX2_callOther_j20 at hw
    refine qx_istore (lv' := [(7, .int b0), (0, .ref (ad 9 0)), (1, .ref (ad 12 d1)), (2, .int a2), (3, .int a3), (4, .int a4), (5, .int a5), (6, .int a6)]) (pc := 20) X dX2_callOther_20 (by decide) rfl ?_
    refine qx_aload_n (pc := 22) X 2 dX2_callOther_22 rfl rfl ?_
    refine qx_callVi (f := 12) (i := d1) (pc := 23) X [] [] (kX1_take K.2.1 G t1 t2 ad d1 hd1 σ _ hw) qx_mcX1_take qx_lRX2_197 qx_iX1_take qx_selX1_take (qx_me12 hd1) qx_rc12 rfl ⟨rfl, rfl⟩ (by rw [hR]; exact ⟨by dsimp only; omega, by dsimp only; omega⟩) rfl (Nat.le_of_ble_eq_true rfl) dX2_callOther_23 ⟨Nat.zero_le _, Nat.zero_le _⟩ (fun r6 s5 hw => ?_)
    refine qx_iconst (v := 0) (pc := 26) X dX2_callOther_26 (by decide) ?_
    refine qx_mmax (pc := 27) X qx_lRX2_207 (by rw [hR]; dsimp only; omega) (by rw [hR]; exact Nat.le_trans (Nat.le_of_ble_eq_true (rfl : Nat.ble _ 40 = true)) (by dsimp only; omega)) (Nat.zero_le _) (Nat.zero_le _) dX2_callOther_27 ?_
    refine qx_aload_n (pc := 30) X 2 dX2_callOther_30 rfl rfl ?_
    refine qx_geti (f := 12) (i := d1) (pc := 31) X qx_gRX2_120 (qx_me12 hd1) dX2_callOther_31 ?_
    refine qx_mmin (pc := 34) X qx_lRX2_68 (by rw [hR]; dsimp only; omega) (by rw [hR]; exact Nat.le_trans (Nat.le_of_ble_eq_true (rfl : Nat.ble _ 40 = true)) (by dsimp only; omega)) (Nat.zero_le _) (Nat.zero_le _) dX2_callOther_34 ?_
    refine qx_istore (lv' := [(8, .int (if (s5 12 d1 9) < (if r6 < (0 : Int32) then (0 : Int32) else r6) then (s5 12 d1 9) else (if r6 < (0 : Int32) then (0 : Int32) else r6))), (7, .int b0), (0, .ref (ad 9 0)), (1, .ref (ad 12 d1)), (2, .int a2), (3, .int a3), (4, .int a4), (5, .int a5), (6, .int a6)]) (pc := 37) X dX2_callOther_37 (by decide) rfl ?_
    refine qx_aload_n (pc := 39) X 2 dX2_callOther_39 rfl rfl ?_
    refine qx_aload_n (pc := 40) X 3 dX2_callOther_40 rfl rfl ?_
    refine qx_iload_n (pc := 41) X 5 dX2_callOther_41 rfl rfl ?_
    refine qx_iload (pc := 42) X 6 dX2_callOther_42 rfl ?_
    refine qx_iload (pc := 44) X 1 dX2_callOther_44 rfl ?_
    refine qx_iload (pc := 46) X 7 dX2_callOther_46 rfl ?_
    refine qx_callVi (f := 9) (i := 0) (pc := 48) X [.ref (ad 12 d1), .int a3, .int a4, .int b0, .int a5] [] (kX2_whyNotEntered K.2.1 G t1 t2 ad d1 a3 a4 b0 a5 hd1 s5 _ hw) qx_mcX2_whyNotEntered qx_lRX2_229 qx_iX2_whyNotEntered qx_selX2_whyNotEntered qx_me9 qx_rc9 rfl ⟨rfl, rfl⟩ (by rw [hR]; exact ⟨by dsimp only; omega, by dsimp only; omega⟩) rfl (Nat.le_of_ble_eq_true rfl) dX2_callOther_48 ⟨Nat.zero_le _, Nat.zero_le _⟩ (fun r8 s7 hw => ?_)
    refine qx_istore (lv' := [(9, .int r8), (8, .int (if (s5 12 d1 9) < (if r6 < (0 : Int32) then (0 : Int32) else r6) then (s5 12 d1 9) else (if r6 < (0 : Int32) then (0 : Int32) else r6))), (7, .int b0), (0, .ref (ad 9 0)), (1, .ref (ad 12 d1)), (2, .int a2), (3, .int a3), (4, .int a4), (5, .int a5), (6, .int a6)]) (pc := 51) X dX2_callOther_51 (by decide) rfl ?_
    refine qx_iload (pc := 53) X 0 dX2_callOther_53 rfl ?_
    refine qx_if_eq (tgt := 66) (pc := 55) X dX2_callOther_55 (by decide) (fun c33 => ?_) (fun c33 => ?_)
    · have hw := hw.1 c33
      refine qx_aload_n (pc := 66) X 3 dX2_callOther_66 rfl rfl ?_
      refine qx_getr (f := 9) (i := 0) (a := ad 10 0) (pc := 67) X qx_gRX2_11 qx_me9 rfl dX2_callOther_67 ?_
      refine qx_iload (pc := 70) X 8 dX2_callOther_70 rfl ?_
      have hi9 := qx_lt hw.1
      refine qx_aald (f := 10) (i := 0) (a := ad 12 a5.toNatClampNeg) (pc := 72) X rfl rfl qx_me10 hw.1 (qx_r0q (ad := ad) (f := 10) (i := 0) (k := 3) (n := 8) (tg := 12) rfl hi9) dX2_callOther_72 ?_
      have hw := hw.2
      refine qx_astore (lv' := [(10, .ref (ad 12 a5.toNatClampNeg)), (9, .int r8), (8, .int (if (s5 12 d1 9) < (if r6 < (0 : Int32) then (0 : Int32) else r6) then (s5 12 d1 9) else (if r6 < (0 : Int32) then (0 : Int32) else r6))), (7, .int b0), (0, .ref (ad 9 0)), (1, .ref (ad 12 d1)), (2, .int a2), (3, .int a3), (4, .int a4), (5, .int a5), (6, .int a6)]) (pc := 73) X dX2_callOther_73 (by decide) rfl ?_
      refine qx_aload (pc := 75) X 0 dX2_callOther_75 rfl ?_
      refine qx_iload_n (pc := 77) X 7 dX2_callOther_77 rfl rfl ?_
      refine qx_iload (pc := 78) X 8 dX2_callOther_78 rfl ?_
      refine qx_iload (pc := 80) X 10 dX2_callOther_80 rfl ?_
      refine qx_iload (pc := 82) X 3 dX2_callOther_82 rfl ?_
      refine qx_iload (pc := 84) X 2 dX2_callOther_84 rfl ?_
      refine qx_callVv (f := 12) (i := a5.toNatClampNeg) (pc := 86) X [.int a3, .int a4, .int a6, .int b0, .int (if (s5 12 d1 9) < (if r6 < (0 : Int32) then (0 : Int32) else r6) then (s5 12 d1 9) else (if r6 < (0 : Int32) then (0 : Int32) else r6))] [] (kX1_begin K.2.1 G t1 t2 ad (a5.toNatClampNeg) a3 a4 a6 b0 (if (s5 12 d1 9) < (if r6 < (0 : Int32) then (0 : Int32) else r6) then (s5 12 d1 9) else (if r6 < (0 : Int32) then (0 : Int32) else r6)) hi9 s7 _ hw) qx_mcX1_begin qx_lRX2_45 qx_iX1_begin qx_selX1_begin (qx_me12 hi9) qx_rc12 rfl ⟨rfl, rfl⟩ (by rw [hR]; exact ⟨by dsimp only; omega, by dsimp only; omega⟩) rfl (Nat.le_of_ble_eq_true rfl) dX2_callOther_86 ⟨Nat.zero_le _, Nat.zero_le _⟩ (fun s10 hw => ?_)
      refine qx_aload (pc := 89) X 0 dX2_callOther_89 rfl ?_
      refine qx_aload_n (pc := 91) X 5 dX2_callOther_91 rfl rfl ?_
      refine qx_geti (f := 12) (i := d1) (pc := 92) X qx_gRX2_82 (qx_me12 hd1) dX2_callOther_92 ?_
      refine qx_puti1 (f := 12) (i := a5.toNatClampNeg) (pc := 95) X qx_pRX2_49 (qx_me12 hi9) dX2_callOther_95 (fun s12 e13 => ?_)
      have hw := hw s12 e13
      refine qx_aload (pc := 98) X 0 dX2_callOther_98 rfl ?_
      refine qx_aload_n (pc := 100) X 5 dX2_callOther_100 rfl rfl ?_
      refine qx_geti (f := 12) (i := d1) (pc := 101) X qx_gRX2_53 (qx_me12 hd1) dX2_callOther_101 ?_
      refine qx_if_ne (tgt := 113) (pc := 104) X dX2_callOther_104 (by decide) (fun c30 => ?_) (fun c30 => ?_)
      · have hw := hw.2 c30
        refine qx_lsub [4, 5, 6, 7, 8, 9, 10, 3, 2, 1, 0] rfl ?_
        exact J113 a2 a3 a4 a5 a6 b0 (if (s5 12 d1 9) < (if r6 < (0 : Int32) then (0 : Int32) else r6) then (s5 12 d1 9) else (if r6 < (0 : Int32) then (0 : Int32) else r6)) r8 a5.toNatClampNeg hi9 a5.toNatClampNeg hi9 s12 hw
      · have hw := hw.1 c30
        refine qx_iload_n (pc := 107) X 6 dX2_callOther_107 rfl rfl ?_
        refine qx_bipush (v := 21) (pc := 108) X dX2_callOther_108 (by decide) ?_
        refine qx_icmp_ne (tgt := 117) (pc := 110) X dX2_callOther_110 (by decide) (fun c29 => ?_) (fun c29 => ?_)
        · have hw := hw.2 c29
          refine qx_iconst (v := 0) (pc := 117) X dX2_callOther_117 (by decide) ?_
          refine qx_lsub [4, 5, 6, 7, 8, 9, 10, 3, 2, 1, 0] rfl ?_
          exact J118 a2 a3 a4 a5 a6 b0 (if (s5 12 d1 9) < (if r6 < (0 : Int32) then (0 : Int32) else r6) then (s5 12 d1 9) else (if r6 < (0 : Int32) then (0 : Int32) else r6)) r8 a5.toNatClampNeg hi9 (0 : Int32) a5.toNatClampNeg hi9 s12 hw
        · have hw := hw.1 c29
          refine qx_lsub [4, 5, 6, 7, 8, 9, 10, 3, 2, 1, 0] rfl ?_
          exact J113 a2 a3 a4 a5 a6 b0 (if (s5 12 d1 9) < (if r6 < (0 : Int32) then (0 : Int32) else r6) then (s5 12 d1 9) else (if r6 < (0 : Int32) then (0 : Int32) else r6)) r8 a5.toNatClampNeg hi9 a5.toNatClampNeg hi9 s12 hw
    · have hw := hw.2 c33
      refine qx_aload_n (pc := 58) X 4 dX2_callOther_58 rfl rfl ?_
      refine qx_iload_n (pc := 59) X 5 dX2_callOther_59 rfl rfl ?_
      refine qx_iload (pc := 60) X 0 dX2_callOther_60 rfl ?_
      refine qx_callSv (pc := 62) X [.ref (ad 12 d1), .int a2, .int r8] [] (kX2_answerThrown K.2.1 G t1 t2 ad d1 a2 r8 hd1 s7 _ hw) qx_mcX2_answerThrown qx_lRX2_233 qx_sX2_answerThrown rfl ⟨rfl, rfl⟩ (by rw [hR]; exact ⟨by dsimp only; omega, by dsimp only; omega⟩) rfl (Nat.le_of_ble_eq_true rfl) dX2_callOther_62 ⟨Nat.zero_le _, Nat.zero_le _⟩ (fun s31 hw => ?_)
      exact qx_vret (pc := 65) X hr hlk hw dX2_callOther_65
  refine (show qx_V K G 11 0 0 (MQ K.2.2.2.2.2.2.2.1 (va_Qv post (qx_B G (qx_w0 ad)) G.2.2) K.2.2.2.2.2.2.1 K.2.2.2.2.1 0 0 G.2.2) (qx_w0 ad) σ 0 [(0, .ref (ad 9 0)), (1, .ref (ad 12 d1)), (2, .int p2), (3, .int p3), (4, .int p4), (5, .int p5)] [] from ?_)
  refine qx_aload_n (pc := 0) X 1 dX2_callOther_0 rfl rfl ?_
  refine qx_callVi (f := 12) (i := d1) (pc := 1) X [] [] (kX1_take K.2.1 G t1 t2 ad d1 hd1 σ _ hw) qx_mcX1_take qx_lRX2_197 qx_iX1_take qx_selX1_take (qx_me12 hd1) qx_rc12 rfl ⟨rfl, rfl⟩ (by rw [hR]; exact ⟨by dsimp only; omega, by dsimp only; omega⟩) rfl (Nat.le_of_ble_eq_true rfl) dX2_callOther_1 ⟨Nat.zero_le _, Nat.zero_le _⟩ (fun r2 s1 hw => ?_)
  refine qx_istore (lv' := [(6, .int r2), (0, .ref (ad 9 0)), (1, .ref (ad 12 d1)), (2, .int p2), (3, .int p3), (4, .int p4), (5, .int p5)]) (pc := 4) X dX2_callOther_4 (by decide) rfl ?_
  refine qx_iload_n (pc := 6) X 3 dX2_callOther_6 rfl rfl ?_
  refine qx_bipush (v := 21) (pc := 7) X dX2_callOther_7 (by decide) ?_
  refine qx_icmp_ne (tgt := 16) (pc := 9) X dX2_callOther_9 (by decide) (fun c34 => ?_) (fun c34 => ?_)
  · have hw := hw.2 c34
    refine qx_aload_n (pc := 16) X 2 dX2_callOther_16 rfl rfl ?_
    refine qx_callVi (f := 12) (i := d1) (pc := 17) X [] [] (kX1_take K.2.1 G t1 t2 ad d1 hd1 s1 _ hw) qx_mcX1_take qx_lRX2_197 qx_iX1_take qx_selX1_take (qx_me12 hd1) qx_rc12 rfl ⟨rfl, rfl⟩ (by rw [hR]; exact ⟨by dsimp only; omega, by dsimp only; omega⟩) rfl (Nat.le_of_ble_eq_true rfl) dX2_callOther_17 ⟨Nat.zero_le _, Nat.zero_le _⟩ (fun r4 s3 hw => ?_)
    refine qx_lsub [1, 2, 3, 4, 5, 6, 0] rfl ?_
    exact J20 p2 p3 p4 p5 r2 r4 s3 hw
  · have hw := hw.1 c34
    refine qx_iconst (v := 0) (pc := 12) X dX2_callOther_12 (by decide) ?_
    refine qx_goto (tgt := 20) (pc := 13) X dX2_callOther_13 (by decide) ?_
    refine qx_lsub [1, 2, 3, 4, 5, 6, 0] rfl ?_
    exact J20 p2 p3 p4 p5 r2 (0 : Int32) s1 hw
def wX8_save (p1 : Int32) (p2 : Int32) (p3 : Int32) (σ : qx_St) (post : qx_St → Prop) : Prop := ((p3 = 0 → (vp_in ((p1 * (8 : Int32)) + p2) 64 ∧ (((σ 4 0 ((p1 * (8 : Int32)) + p2).toNatClampNeg) = 0 → (vp_in ((p1 * (8 : Int32)) + p2) 64 ∧ (∀ s3, s3 = qx_st σ 4 0 ((p1 * (8 : Int32)) + p2).toNatClampNeg p3 → post s3))) ∧ (¬ ((σ 4 0 ((p1 * (8 : Int32)) + p2).toNatClampNeg) = 0) → (∀ s5, s5 = qx_st σ 3 0 4 ((σ 3 0 4) + (1 : Int32)) → (vp_in ((p1 * (8 : Int32)) + p2) 64 ∧ (∀ s7, s7 = qx_st s5 4 0 ((p1 * (8 : Int32)) + p2).toNatClampNeg p3 → post s7))))))) ∧ (¬ (p3 = 0) → (vp_in ((p1 * (8 : Int32)) + p2) 64 ∧ (∀ s1, s1 = qx_st σ 4 0 ((p1 * (8 : Int32)) + p2).toNatClampNeg p3 → post s1))))
set_option maxHeartbeats 4000000 in
set_option maxRecDepth 100000 in
theorem kX8_save (l : Launch) (G : qx_Gx) (t1 t2 : Nat) (ad : Nat → Nat → Nat) (p1 : Int32) (p2 : Int32) (p3 : Int32) (σ : qx_St) (post : qx_St → Prop) (hw : wX8_save p1 p2 p3 σ post) : qx_Mv l G t1 t2 (qx_w0 ad) yX8_save cX8_save 5 none { frames := 0, cells := 0, slots := 0, locals := 0 } [.ref (ad 3 0), .int p1, .int p2, .int p3] σ post := by
  unfold wX8_save at hw
  refine qx_start qx_mcX8_save (Nat.le_of_ble_eq_true rfl) (fun K hKl hR X hr hlk => ?_)
  subst hKl
  refine (show qx_V K G 5 0 0 (MQ K.2.2.2.2.2.2.2.1 (va_Qv post (qx_B G (qx_w0 ad)) G.2.2) K.2.2.2.2.2.2.1 K.2.2.2.2.1 0 0 G.2.2) (qx_w0 ad) σ 0 [(0, .ref (ad 3 0)), (1, .int p1), (2, .int p2), (3, .int p3)] [] from ?_)
  refine qx_iload_n (pc := 0) X 1 dX8_save_0 rfl rfl ?_
  refine qx_bipush (v := 8) (pc := 1) X dX8_save_1 (by decide) ?_
  refine qx_imul (pc := 3) X dX8_save_3 ?_
  refine qx_iload_n (pc := 4) X 2 dX8_save_4 rfl rfl ?_
  refine qx_iadd (pc := 5) X dX8_save_5 ?_
  refine qx_istore (lv' := [(4, .int ((p1 * (8 : Int32)) + p2)), (0, .ref (ad 3 0)), (1, .int p1), (2, .int p2), (3, .int p3)]) (pc := 6) X dX8_save_6 (by decide) rfl ?_
  refine qx_iload_n (pc := 8) X 4 dX8_save_8 rfl rfl ?_
  refine qx_if_ne (tgt := 32) (pc := 9) X dX8_save_9 (by decide) (fun c10 => ?_) (fun c10 => ?_)
  · have hw := hw.2 c10
    refine qx_aload_n (pc := 32) X 1 dX8_save_32 rfl rfl ?_
    refine qx_getr (f := 3) (i := 0) (a := ad 4 0) (pc := 33) X qx_gRX8_11 qx_me3 rfl dX8_save_33 ?_
    refine qx_iload (pc := 36) X 0 dX8_save_36 rfl ?_
    refine qx_iload_n (pc := 38) X 4 dX8_save_38 rfl rfl ?_
    refine qx_iast1 (f := 4) (i := 0) (pc := 39) X rfl qx_me4 hw.1 dX8_save_39 (fun s1 e2 => ?_)
    have hw := hw.2
    have hw := hw s1 e2
    exact qx_vret (pc := 40) X hr hlk hw dX8_save_40
  · have hw := hw.1 c10
    refine qx_aload_n (pc := 12) X 1 dX8_save_12 rfl rfl ?_
    refine qx_getr (f := 3) (i := 0) (a := ad 4 0) (pc := 13) X qx_gRX8_11 qx_me3 rfl dX8_save_13 ?_
    refine qx_iload (pc := 16) X 0 dX8_save_16 rfl ?_
    refine qx_iald (f := 4) (i := 0) (pc := 18) X rfl qx_me4 hw.1 dX8_save_18 ?_
    have hw := hw.2
    refine qx_if_eq (tgt := 32) (pc := 19) X dX8_save_19 (by decide) (fun c9 => ?_) (fun c9 => ?_)
    · have hw := hw.1 c9
      refine qx_aload_n (pc := 32) X 1 dX8_save_32 rfl rfl ?_
      refine qx_getr (f := 3) (i := 0) (a := ad 4 0) (pc := 33) X qx_gRX8_11 qx_me3 rfl dX8_save_33 ?_
      refine qx_iload (pc := 36) X 0 dX8_save_36 rfl ?_
      refine qx_iload_n (pc := 38) X 4 dX8_save_38 rfl rfl ?_
      refine qx_iast1 (f := 4) (i := 0) (pc := 39) X rfl qx_me4 hw.1 dX8_save_39 (fun s3 e4 => ?_)
      have hw := hw.2
      have hw := hw s3 e4
      exact qx_vret (pc := 40) X hr hlk hw dX8_save_40
    · have hw := hw.2 c9
      refine qx_aload_n (pc := 22) X 1 dX8_save_22 rfl rfl ?_
      refine qx_dup (pc := 23) X dX8_save_23 rfl ?_
      refine qx_geti (f := 3) (i := 0) (pc := 24) X qx_gRX8_40 qx_me3 dX8_save_24 ?_
      refine qx_iconst (v := 1) (pc := 27) X dX8_save_27 (by decide) ?_
      refine qx_iadd (pc := 28) X dX8_save_28 ?_
      refine qx_puti1 (f := 3) (i := 0) (pc := 29) X qx_pRX8_40 qx_me3 dX8_save_29 (fun s5 e6 => ?_)
      have hw := hw s5 e6
      refine qx_aload_n (pc := 32) X 1 dX8_save_32 rfl rfl ?_
      refine qx_getr (f := 3) (i := 0) (a := ad 4 0) (pc := 33) X qx_gRX8_11 qx_me3 rfl dX8_save_33 ?_
      refine qx_iload (pc := 36) X 0 dX8_save_36 rfl ?_
      refine qx_iload_n (pc := 38) X 4 dX8_save_38 rfl rfl ?_
      refine qx_iast1 (f := 4) (i := 0) (pc := 39) X rfl qx_me4 hw.1 dX8_save_39 (fun s7 e8 => ?_)
      have hw := hw.2
      have hw := hw s7 e8
      exact qx_vret (pc := 40) X hr hlk hw dX8_save_40
def wX8_addEvent (p1 : Int32) (p2 : Int32) (p3 : Int32) (p4 : Int32) (σ : qx_St) (post : qx_St → Prop) : Prop := (vp_in ((σ 3 0 3) * (4 : Int32)) 240 ∧ (∀ s1, s1 = qx_st σ 6 0 ((σ 3 0 3) * (4 : Int32)).toNatClampNeg p1 → (vp_in (((σ 3 0 3) * (4 : Int32)) + (1 : Int32)) 240 ∧ (∀ s3, s3 = qx_st s1 6 0 (((σ 3 0 3) * (4 : Int32)) + (1 : Int32)).toNatClampNeg p2 → (vp_in (((σ 3 0 3) * (4 : Int32)) + (2 : Int32)) 240 ∧ (∀ s5, s5 = qx_st s3 6 0 (((σ 3 0 3) * (4 : Int32)) + (2 : Int32)).toNatClampNeg p3 → (vp_in (((σ 3 0 3) * (4 : Int32)) + (3 : Int32)) 240 ∧ (∀ s7, s7 = qx_st s5 6 0 (((σ 3 0 3) * (4 : Int32)) + (3 : Int32)).toNatClampNeg p4 → (∀ s9, s9 = qx_st s7 3 0 3 ((s7 3 0 3) + (1 : Int32)) → post s9)))))))))
set_option maxHeartbeats 4000000 in
set_option maxRecDepth 100000 in
theorem kX8_addEvent (l : Launch) (G : qx_Gx) (t1 t2 : Nat) (ad : Nat → Nat → Nat) (p1 : Int32) (p2 : Int32) (p3 : Int32) (p4 : Int32) (σ : qx_St) (post : qx_St → Prop) (hw : wX8_addEvent p1 p2 p3 p4 σ post) : qx_Mv l G t1 t2 (qx_w0 ad) yX8_addEvent cX8_addEvent 6 none { frames := 0, cells := 0, slots := 0, locals := 0 } [.ref (ad 3 0), .int p1, .int p2, .int p3, .int p4] σ post := by
  unfold wX8_addEvent at hw
  refine qx_start qx_mcX8_addEvent (Nat.le_of_ble_eq_true rfl) (fun K hKl hR X hr hlk => ?_)
  subst hKl
  refine (show qx_V K G 6 0 0 (MQ K.2.2.2.2.2.2.2.1 (va_Qv post (qx_B G (qx_w0 ad)) G.2.2) K.2.2.2.2.2.2.1 K.2.2.2.2.1 0 0 G.2.2) (qx_w0 ad) σ 0 [(0, .ref (ad 3 0)), (1, .int p1), (2, .int p2), (3, .int p3), (4, .int p4)] [] from ?_)
  refine qx_aload_n (pc := 0) X 0 dX8_addEvent_0 rfl rfl ?_
  refine qx_geti (f := 3) (i := 0) (pc := 1) X qx_gRX8_36 qx_me3 dX8_addEvent_1 ?_
  refine qx_iconst (v := 4) (pc := 4) X dX8_addEvent_4 (by decide) ?_
  refine qx_imul (pc := 5) X dX8_addEvent_5 ?_
  refine qx_istore (lv' := [(5, .int ((σ 3 0 3) * (4 : Int32))), (0, .ref (ad 3 0)), (1, .int p1), (2, .int p2), (3, .int p3), (4, .int p4)]) (pc := 6) X dX8_addEvent_6 (by decide) rfl ?_
  refine qx_aload_n (pc := 8) X 1 dX8_addEvent_8 rfl rfl ?_
  refine qx_getr (f := 3) (i := 0) (a := ad 6 0) (pc := 9) X qx_gRX8_18 qx_me3 rfl dX8_addEvent_9 ?_
  refine qx_iload (pc := 12) X 0 dX8_addEvent_12 rfl ?_
  refine qx_iload_n (pc := 14) X 2 dX8_addEvent_14 rfl rfl ?_
  refine qx_iast1 (f := 6) (i := 0) (pc := 15) X rfl qx_me6 hw.1 dX8_addEvent_15 (fun s1 e2 => ?_)
  have hw := hw.2
  have hw := hw s1 e2
  refine qx_aload_n (pc := 16) X 1 dX8_addEvent_16 rfl rfl ?_
  refine qx_getr (f := 3) (i := 0) (a := ad 6 0) (pc := 17) X qx_gRX8_18 qx_me3 rfl dX8_addEvent_17 ?_
  refine qx_iload (pc := 20) X 0 dX8_addEvent_20 rfl ?_
  refine qx_iconst (v := 1) (pc := 22) X dX8_addEvent_22 (by decide) ?_
  refine qx_iadd (pc := 23) X dX8_addEvent_23 ?_
  refine qx_iload_n (pc := 24) X 3 dX8_addEvent_24 rfl rfl ?_
  refine qx_iast1 (f := 6) (i := 0) (pc := 25) X rfl qx_me6 hw.1 dX8_addEvent_25 (fun s3 e4 => ?_)
  have hw := hw.2
  have hw := hw s3 e4
  refine qx_aload_n (pc := 26) X 1 dX8_addEvent_26 rfl rfl ?_
  refine qx_getr (f := 3) (i := 0) (a := ad 6 0) (pc := 27) X qx_gRX8_18 qx_me3 rfl dX8_addEvent_27 ?_
  refine qx_iload (pc := 30) X 0 dX8_addEvent_30 rfl ?_
  refine qx_iconst (v := 2) (pc := 32) X dX8_addEvent_32 (by decide) ?_
  refine qx_iadd (pc := 33) X dX8_addEvent_33 ?_
  refine qx_iload_n (pc := 34) X 4 dX8_addEvent_34 rfl rfl ?_
  refine qx_iast1 (f := 6) (i := 0) (pc := 35) X rfl qx_me6 hw.1 dX8_addEvent_35 (fun s5 e6 => ?_)
  have hw := hw.2
  have hw := hw s5 e6
  refine qx_aload_n (pc := 36) X 1 dX8_addEvent_36 rfl rfl ?_
  refine qx_getr (f := 3) (i := 0) (a := ad 6 0) (pc := 37) X qx_gRX8_18 qx_me3 rfl dX8_addEvent_37 ?_
  refine qx_iload (pc := 40) X 0 dX8_addEvent_40 rfl ?_
  refine qx_iconst (v := 3) (pc := 42) X dX8_addEvent_42 (by decide) ?_
  refine qx_iadd (pc := 43) X dX8_addEvent_43 ?_
  refine qx_iload (pc := 44) X 5 dX8_addEvent_44 rfl ?_
  refine qx_iast1 (f := 6) (i := 0) (pc := 46) X rfl qx_me6 hw.1 dX8_addEvent_46 (fun s7 e8 => ?_)
  have hw := hw.2
  have hw := hw s7 e8
  refine qx_aload_n (pc := 47) X 1 dX8_addEvent_47 rfl rfl ?_
  refine qx_dup (pc := 48) X dX8_addEvent_48 rfl ?_
  refine qx_geti (f := 3) (i := 0) (pc := 49) X qx_gRX8_36 qx_me3 dX8_addEvent_49 ?_
  refine qx_iconst (v := 1) (pc := 52) X dX8_addEvent_52 (by decide) ?_
  refine qx_iadd (pc := 53) X dX8_addEvent_53 ?_
  refine qx_puti1 (f := 3) (i := 0) (pc := 54) X qx_pRX8_36 qx_me3 dX8_addEvent_54 (fun s9 e10 => ?_)
  have hw := hw s9 e10
  exact qx_vret (pc := 57) X hr hlk hw dX8_addEvent_57
def wX2_tell (d1 : Nat) (p2 : Int32) (p3 : Int32) (p4 : Int32) (σ : qx_St) (post : qx_St → Prop) : Prop := (((σ 3 0 3) < (60 : Int32) → wX8_addEvent (σ 12 d1 2) p2 p3 p4 σ (fun s1 => post s1)) ∧ (¬ ((σ 3 0 3) < (60 : Int32)) → wX1_endThrowing d1 (9 : Int32) σ (fun s3 => post s3)))
set_option maxHeartbeats 4000000 in
set_option maxRecDepth 100000 in
theorem kX2_tell (l : Launch) (G : qx_Gx) (t1 t2 : Nat) (ad : Nat → Nat → Nat) (d1 : Nat) (p2 : Int32) (p3 : Int32) (p4 : Int32) (hd1 : d1 < 8) (σ : qx_St) (post : qx_St → Prop) (hw : wX2_tell d1 p2 p3 p4 σ post) : qx_Mv l G t1 t2 (qx_w0 ad) yX2_tell cX2_tell 5 none { frames := 1, cells := 0, slots := 0, locals := 25 } [.ref (ad 9 0), .ref (ad 12 d1), .int p2, .int p3, .int p4] σ post := by
  unfold wX2_tell at hw
  refine qx_start qx_mcX2_tell (Nat.le_of_ble_eq_true rfl) (fun K hKl hR X hr hlk => ?_)
  subst hKl
  refine (show qx_V K G 5 0 0 (MQ K.2.2.2.2.2.2.2.1 (va_Qv post (qx_B G (qx_w0 ad)) G.2.2) K.2.2.2.2.2.2.1 K.2.2.2.2.1 0 0 G.2.2) (qx_w0 ad) σ 0 [(0, .ref (ad 9 0)), (1, .ref (ad 12 d1)), (2, .int p2), (3, .int p3), (4, .int p4)] [] from ?_)
  refine qx_aload_n (pc := 0) X 0 dX2_tell_0 rfl rfl ?_
  refine qx_getr (f := 9) (i := 0) (a := ad 3 0) (pc := 1) X qx_gRX2_27 qx_me9 rfl dX2_tell_1 ?_
  refine qx_geti (f := 3) (i := 0) (pc := 4) X qx_gRX2_219 qx_me3 dX2_tell_4 ?_
  refine qx_bipush (v := 60) (pc := 7) X dX2_tell_7 (by decide) ?_
  refine qx_icmp_lt (tgt := 19) (pc := 9) X dX2_tell_9 (by decide) (fun c5 => ?_) (fun c5 => ?_)
  · have hw := hw.1 c5
    refine qx_aload_n (pc := 19) X 0 dX2_tell_19 rfl rfl ?_
    refine qx_getr (f := 9) (i := 0) (a := ad 3 0) (pc := 20) X qx_gRX2_27 qx_me9 rfl dX2_tell_20 ?_
    refine qx_aload_n (pc := 23) X 1 dX2_tell_23 rfl rfl ?_
    refine qx_geti (f := 12) (i := d1) (pc := 24) X qx_gRX2_82 (qx_me12 hd1) dX2_tell_24 ?_
    refine qx_iload_n (pc := 27) X 2 dX2_tell_27 rfl rfl ?_
    refine qx_iload_n (pc := 28) X 3 dX2_tell_28 rfl rfl ?_
    refine qx_iload (pc := 29) X 4 dX2_tell_29 rfl ?_
    refine qx_callVv (f := 3) (i := 0) (pc := 31) X [.int (σ 12 d1 2), .int p2, .int p3, .int p4] [] (kX8_addEvent K.2.1 G t1 t2 ad (σ 12 d1 2) p2 p3 p4 σ _ hw) qx_mcX8_addEvent qx_lRX2_222 qx_iX8_addEvent qx_selX8_addEvent qx_me3 qx_rc3 rfl ⟨rfl, rfl⟩ (by rw [hR]; decide) rfl (Nat.le_of_ble_eq_true rfl) dX2_tell_31 ⟨Nat.zero_le _, Nat.zero_le _⟩ (fun s1 hw => ?_)
    exact qx_vret (pc := 34) X hr hlk hw dX2_tell_34
  · have hw := hw.2 c5
    refine qx_aload_n (pc := 12) X 1 dX2_tell_12 rfl rfl ?_
    refine qx_bipush (v := 9) (pc := 13) X dX2_tell_13 (by decide) ?_
    refine qx_callVv (f := 12) (i := d1) (pc := 15) X [.int (9 : Int32)] [] (kX1_endThrowing K.2.1 G t1 t2 ad d1 (9 : Int32) hd1 σ _ hw) qx_mcX1_endThrowing qx_lRX2_125 qx_iX1_endThrowing qx_selX1_endThrowing (qx_me12 hd1) qx_rc12 rfl ⟨rfl, rfl⟩ (by rw [hR]; decide) rfl (Nat.le_of_ble_eq_true rfl) dX2_tell_15 ⟨Nat.zero_le _, Nat.zero_le _⟩ (fun s3 hw => ?_)
    exact qx_vret (pc := 18) X hr hlk hw dX2_tell_18
def wX2_send (d1 : Nat) (p2 : Int32) (p3 : Int32) (σ : qx_St) (post : qx_St → Prop) : Prop := wX8_canPay (σ 12 d1 2) p3 σ (fun r2 s1 => ((r2 = 0 → wX1_endThrowing d1 (7 : Int32) s1 (fun s5 => post s5)) ∧ (¬ (r2 = 0) → wX8_move (s1 12 d1 2) ((8 : Int32) + p2) p3 s1 (fun s3 => post s3))))
set_option maxHeartbeats 4000000 in
set_option maxRecDepth 100000 in
theorem kX2_send (l : Launch) (G : qx_Gx) (t1 t2 : Nat) (ad : Nat → Nat → Nat) (d1 : Nat) (p2 : Int32) (p3 : Int32) (hd1 : d1 < 8) (σ : qx_St) (post : qx_St → Prop) (hw : wX2_send d1 p2 p3 σ post) : qx_Mv l G t1 t2 (qx_w0 ad) yX2_send cX2_send 4 none { frames := 1, cells := 0, slots := 0, locals := 23 } [.ref (ad 9 0), .ref (ad 12 d1), .int p2, .int p3] σ post := by
  unfold wX2_send at hw
  refine qx_start qx_mcX2_send (Nat.le_of_ble_eq_true rfl) (fun K hKl hR X hr hlk => ?_)
  subst hKl
  refine (show qx_V K G 4 0 0 (MQ K.2.2.2.2.2.2.2.1 (va_Qv post (qx_B G (qx_w0 ad)) G.2.2) K.2.2.2.2.2.2.1 K.2.2.2.2.1 0 0 G.2.2) (qx_w0 ad) σ 0 [(0, .ref (ad 9 0)), (1, .ref (ad 12 d1)), (2, .int p2), (3, .int p3)] [] from ?_)
  refine qx_aload_n (pc := 0) X 0 dX2_send_0 rfl rfl ?_
  refine qx_getr (f := 9) (i := 0) (a := ad 3 0) (pc := 1) X qx_gRX2_27 qx_me9 rfl dX2_send_1 ?_
  refine qx_aload_n (pc := 4) X 1 dX2_send_4 rfl rfl ?_
  refine qx_geti (f := 12) (i := d1) (pc := 5) X qx_gRX2_82 (qx_me12 hd1) dX2_send_5 ?_
  refine qx_iload_n (pc := 8) X 3 dX2_send_8 rfl rfl ?_
  refine qx_callVi (f := 3) (i := 0) (pc := 9) X [.int (σ 12 d1 2), .int p3] [] (kX8_canPay K.2.1 G t1 t2 ad (σ 12 d1 2) p3 σ _ hw) qx_mcX8_canPay qx_lRX2_226 qx_iX8_canPay qx_selX8_canPay qx_me3 qx_rc3 rfl ⟨rfl, rfl⟩ (by rw [hR]; decide) rfl (Nat.le_of_ble_eq_true rfl) dX2_send_9 ⟨Nat.zero_le _, Nat.zero_le _⟩ (fun r2 s1 hw => ?_)
  refine qx_if_ne (tgt := 22) (pc := 12) X dX2_send_12 (by decide) (fun c7 => ?_) (fun c7 => ?_)
  · have hw := hw.2 c7
    refine qx_aload_n (pc := 22) X 0 dX2_send_22 rfl rfl ?_
    refine qx_getr (f := 9) (i := 0) (a := ad 3 0) (pc := 23) X qx_gRX2_27 qx_me9 rfl dX2_send_23 ?_
    refine qx_aload_n (pc := 26) X 1 dX2_send_26 rfl rfl ?_
    refine qx_geti (f := 12) (i := d1) (pc := 27) X qx_gRX2_82 (qx_me12 hd1) dX2_send_27 ?_
    refine qx_bipush (v := 8) (pc := 30) X dX2_send_30 (by decide) ?_
    refine qx_iload_n (pc := 32) X 2 dX2_send_32 rfl rfl ?_
    refine qx_iadd (pc := 33) X dX2_send_33 ?_
    refine qx_iload_n (pc := 34) X 3 dX2_send_34 rfl rfl ?_
    refine qx_callVv (f := 3) (i := 0) (pc := 35) X [.int (s1 12 d1 2), .int ((8 : Int32) + p2), .int p3] [] (kX8_move K.2.1 G t1 t2 ad (s1 12 d1 2) ((8 : Int32) + p2) p3 s1 _ hw) qx_mcX8_move qx_lRX2_74 qx_iX8_move qx_selX8_move qx_me3 qx_rc3 rfl ⟨rfl, rfl⟩ (by rw [hR]; decide) rfl (Nat.le_of_ble_eq_true rfl) dX2_send_35 ⟨Nat.zero_le _, Nat.zero_le _⟩ (fun s3 hw => ?_)
    exact qx_vret (pc := 38) X hr hlk hw dX2_send_38
  · have hw := hw.1 c7
    refine qx_aload_n (pc := 15) X 1 dX2_send_15 rfl rfl ?_
    refine qx_bipush (v := 7) (pc := 16) X dX2_send_16 (by decide) ?_
    refine qx_callVv (f := 12) (i := d1) (pc := 18) X [.int (7 : Int32)] [] (kX1_endThrowing K.2.1 G t1 t2 ad d1 (7 : Int32) hd1 s1 _ hw) qx_mcX1_endThrowing qx_lRX2_125 qx_iX1_endThrowing qx_selX1_endThrowing (qx_me12 hd1) qx_rc12 rfl ⟨rfl, rfl⟩ (by rw [hR]; decide) rfl (Nat.le_of_ble_eq_true rfl) dX2_send_18 ⟨Nat.zero_le _, Nat.zero_le _⟩ (fun s5 hw => ?_)
    exact qx_vret (pc := 21) X hr hlk hw dX2_send_21
def wX2_act (d1 : Nat) (p2 : Int32) (p3 : Int32) (p4 : Int32) (σ : qx_St) (post : qx_St → Prop) : Prop := ((p2 = (25 : Int32) → wX1_endThrowing d1 p3 σ (fun s14 => post s14)) ∧ (¬ (p2 = (25 : Int32)) → wX1_take d1 σ (fun r2 s1 => ((p2 = (7 : Int32) → wX8_save (s1 12 d1 2) p3 r2 s1 (fun s11 => post s11)) ∧ (¬ (p2 = (7 : Int32)) → ((p2 = (22 : Int32) → wX2_tell d1 p3 r2 p4 s1 (fun s8 => post s8)) ∧ (¬ (p2 = (22 : Int32)) → ((p2 = (23 : Int32) → wX2_send d1 p3 r2 s1 (fun s5 => post s5)) ∧ (¬ (p2 = (23 : Int32)) → wX1_endGiving d1 r2 s1 (fun s3 => post s3))))))))))
set_option maxHeartbeats 4000000 in
set_option maxRecDepth 100000 in
theorem kX2_act (l : Launch) (G : qx_Gx) (t1 t2 : Nat) (ad : Nat → Nat → Nat) (d1 : Nat) (p2 : Int32) (p3 : Int32) (p4 : Int32) (hd1 : d1 < 8) (σ : qx_St) (post : qx_St → Prop) (hw : wX2_act d1 p2 p3 p4 σ post) : qx_Mv l G t1 t2 (qx_w0 ad) yX2_act cX2_act 6 none { frames := 2, cells := 0, slots := 0, locals := 49 } [.ref (ad 9 0), .ref (ad 12 d1), .int p2, .int p3, .int p4] σ post := by
  unfold wX2_act at hw
  refine qx_start qx_mcX2_act (Nat.le_of_ble_eq_true rfl) (fun K hKl hR X hr hlk => ?_)
  subst hKl
  refine (show qx_V K G 6 0 0 (MQ K.2.2.2.2.2.2.2.1 (va_Qv post (qx_B G (qx_w0 ad)) G.2.2) K.2.2.2.2.2.2.1 K.2.2.2.2.1 0 0 G.2.2) (qx_w0 ad) σ 0 [(0, .ref (ad 9 0)), (1, .ref (ad 12 d1)), (2, .int p2), (3, .int p3), (4, .int p4)] [] from ?_)
  refine qx_iload_n (pc := 0) X 2 dX2_act_0 rfl rfl ?_
  refine qx_bipush (v := 25) (pc := 1) X dX2_act_1 (by decide) ?_
  refine qx_icmp_ne (tgt := 12) (pc := 3) X dX2_act_3 (by decide) (fun c16 => ?_) (fun c16 => ?_)
  · have hw := hw.2 c16
    refine qx_aload_n (pc := 12) X 1 dX2_act_12 rfl rfl ?_
    refine qx_callVi (f := 12) (i := d1) (pc := 13) X [] [] (kX1_take K.2.1 G t1 t2 ad d1 hd1 σ _ hw) qx_mcX1_take qx_lRX2_197 qx_iX1_take qx_selX1_take (qx_me12 hd1) qx_rc12 rfl ⟨rfl, rfl⟩ (by rw [hR]; decide) rfl (Nat.le_of_ble_eq_true rfl) dX2_act_13 ⟨Nat.zero_le _, Nat.zero_le _⟩ (fun r2 s1 hw => ?_)
    refine qx_istore (lv' := [(5, .int r2), (0, .ref (ad 9 0)), (1, .ref (ad 12 d1)), (2, .int p2), (3, .int p3), (4, .int p4)]) (pc := 16) X dX2_act_16 (by decide) rfl ?_
    refine qx_iload_n (pc := 18) X 3 dX2_act_18 rfl rfl ?_
    refine qx_bipush (v := 7) (pc := 19) X dX2_act_19 (by decide) ?_
    refine qx_icmp_ne (tgt := 41) (pc := 21) X dX2_act_21 (by decide) (fun c13 => ?_) (fun c13 => ?_)
    · have hw := hw.2 c13
      refine qx_iload_n (pc := 41) X 3 dX2_act_41 rfl rfl ?_
      refine qx_bipush (v := 22) (pc := 42) X dX2_act_42 (by decide) ?_
      refine qx_icmp_ne (tgt := 60) (pc := 44) X dX2_act_44 (by decide) (fun c10 => ?_) (fun c10 => ?_)
      · have hw := hw.2 c10
        refine qx_iload_n (pc := 60) X 3 dX2_act_60 rfl rfl ?_
        refine qx_bipush (v := 23) (pc := 61) X dX2_act_61 (by decide) ?_
        refine qx_icmp_ne (tgt := 77) (pc := 63) X dX2_act_63 (by decide) (fun c7 => ?_) (fun c7 => ?_)
        · have hw := hw.2 c7
          refine qx_aload_n (pc := 77) X 2 dX2_act_77 rfl rfl ?_
          refine qx_iload (pc := 78) X 0 dX2_act_78 rfl ?_
          refine qx_callVv (f := 12) (i := d1) (pc := 80) X [.int r2] [] (kX1_endGiving K.2.1 G t1 t2 ad d1 r2 hd1 s1 _ hw) qx_mcX1_endGiving qx_lRX2_116 qx_iX1_endGiving qx_selX1_endGiving (qx_me12 hd1) qx_rc12 rfl ⟨rfl, rfl⟩ (by rw [hR]; decide) rfl (Nat.le_of_ble_eq_true rfl) dX2_act_80 ⟨Nat.zero_le _, Nat.zero_le _⟩ (fun s3 hw => ?_)
          exact qx_vret (pc := 83) X hr hlk hw dX2_act_83
        · have hw := hw.1 c7
          refine qx_aload_n (pc := 66) X 1 dX2_act_66 rfl rfl ?_
          refine qx_aload_n (pc := 67) X 2 dX2_act_67 rfl rfl ?_
          refine qx_iload_n (pc := 68) X 4 dX2_act_68 rfl rfl ?_
          refine qx_iload (pc := 69) X 0 dX2_act_69 rfl ?_
          refine qx_callVv (f := 9) (i := 0) (pc := 71) X [.ref (ad 12 d1), .int p3, .int r2] [] (kX2_send K.2.1 G t1 t2 ad d1 p3 r2 hd1 s1 _ hw) qx_mcX2_send qx_lRX2_216 qx_iX2_send qx_selX2_send qx_me9 qx_rc9 rfl ⟨rfl, rfl⟩ (by rw [hR]; decide) rfl (Nat.le_of_ble_eq_true rfl) dX2_act_71 ⟨Nat.zero_le _, Nat.zero_le _⟩ (fun s5 hw => ?_)
          refine qx_goto (tgt := 83) (pc := 74) X dX2_act_74 (by decide) ?_
          exact qx_vret (pc := 83) X hr hlk hw dX2_act_83
      · have hw := hw.1 c10
        refine qx_aload_n (pc := 47) X 1 dX2_act_47 rfl rfl ?_
        refine qx_aload_n (pc := 48) X 2 dX2_act_48 rfl rfl ?_
        refine qx_iload_n (pc := 49) X 4 dX2_act_49 rfl rfl ?_
        refine qx_iload (pc := 50) X 0 dX2_act_50 rfl ?_
        refine qx_iload (pc := 52) X 5 dX2_act_52 rfl ?_
        refine qx_callVv (f := 9) (i := 0) (pc := 54) X [.ref (ad 12 d1), .int p3, .int r2, .int p4] [] (kX2_tell K.2.1 G t1 t2 ad d1 p3 r2 p4 hd1 s1 _ hw) qx_mcX2_tell qx_lRX2_213 qx_iX2_tell qx_selX2_tell qx_me9 qx_rc9 rfl ⟨rfl, rfl⟩ (by rw [hR]; decide) rfl (Nat.le_of_ble_eq_true rfl) dX2_act_54 ⟨Nat.zero_le _, Nat.zero_le _⟩ (fun s8 hw => ?_)
        refine qx_goto (tgt := 83) (pc := 57) X dX2_act_57 (by decide) ?_
        exact qx_vret (pc := 83) X hr hlk hw dX2_act_83
    · have hw := hw.1 c13
      refine qx_aload_n (pc := 24) X 1 dX2_act_24 rfl rfl ?_
      refine qx_getr (f := 9) (i := 0) (a := ad 3 0) (pc := 25) X qx_gRX2_27 qx_me9 rfl dX2_act_25 ?_
      refine qx_aload_n (pc := 28) X 2 dX2_act_28 rfl rfl ?_
      refine qx_geti (f := 12) (i := d1) (pc := 29) X qx_gRX2_82 (qx_me12 hd1) dX2_act_29 ?_
      refine qx_iload_n (pc := 32) X 4 dX2_act_32 rfl rfl ?_
      refine qx_iload (pc := 33) X 0 dX2_act_33 rfl ?_
      refine qx_callVv (f := 3) (i := 0) (pc := 35) X [.int (s1 12 d1 2), .int p3, .int r2] [] (kX8_save K.2.1 G t1 t2 ad (s1 12 d1 2) p3 r2 s1 _ hw) qx_mcX8_save qx_lRX2_210 qx_iX8_save qx_selX8_save qx_me3 qx_rc3 rfl ⟨rfl, rfl⟩ (by rw [hR]; decide) rfl (Nat.le_of_ble_eq_true rfl) dX2_act_35 ⟨Nat.zero_le _, Nat.zero_le _⟩ (fun s11 hw => ?_)
      refine qx_goto (tgt := 83) (pc := 38) X dX2_act_38 (by decide) ?_
      exact qx_vret (pc := 83) X hr hlk hw dX2_act_83
  · have hw := hw.1 c16
    refine qx_aload_n (pc := 6) X 1 dX2_act_6 rfl rfl ?_
    refine qx_iload_n (pc := 7) X 3 dX2_act_7 rfl rfl ?_
    refine qx_callVv (f := 12) (i := d1) (pc := 8) X [.int p3] [] (kX1_endThrowing K.2.1 G t1 t2 ad d1 p3 hd1 σ _ hw) qx_mcX1_endThrowing qx_lRX2_125 qx_iX1_endThrowing qx_selX1_endThrowing (qx_me12 hd1) qx_rc12 rfl ⟨rfl, rfl⟩ (by rw [hR]; decide) rfl (Nat.le_of_ble_eq_true rfl) dX2_act_8 ⟨Nat.zero_le _, Nat.zero_le _⟩ (fun s14 hw => ?_)
    exact qx_vret (pc := 11) X hr hlk hw dX2_act_11
def wX2_doStep_j141 (rf : Int32 → Int32 → qx_St → (qx_St → Prop) → Prop) (d1 : Nat) (d2 : Nat) (p3 : Int32) (post : qx_St → Prop) (a3 : Int32) (a4 : Int32) (a5 : Int32) (a6 : Int32) (σ : qx_St) : Prop := ((a5 < (19 : Int32) → wX2_act d1 a5 a6 a3 σ (fun s3 => post s3)) ∧ (¬ (a5 < (19 : Int32)) → (((21 : Int32) < a5 → wX2_act d1 a5 a6 a3 σ (fun s5 => post s5)) ∧ (¬ ((21 : Int32) < a5) → (vp_in a4 20 ∧ wX2_callOther rf d1 a5 a6 (σ 20 d2 a4.toNatClampNeg) a3 σ (fun s7 => post s7))))))
def wX2_doStep_j116 (rf : Int32 → Int32 → qx_St → (qx_St → Prop) → Prop) (d1 : Nat) (d2 : Nat) (p3 : Int32) (post : qx_St → Prop) (a3 : Int32) (a4 : Int32) (a5 : Int32) (a6 : Int32) (σ : qx_St) : Prop := ((a5 < (14 : Int32) → wX2_doStep_j141 rf d1 d2 p3 post a3 a4 a5 a6 σ) ∧ (¬ (a5 < (14 : Int32)) → (((18 : Int32) < a5 → wX2_doStep_j141 rf d1 d2 p3 post a3 a4 a5 a6 σ) ∧ (¬ ((18 : Int32) < a5) → wX2_arrange d1 a5 a6 σ (fun s11 => post s11)))))
def wX2_doStep_j70 (rf : Int32 → Int32 → qx_St → (qx_St → Prop) → Prop) (d1 : Nat) (d2 : Nat) (p3 : Int32) (post : qx_St → Prop) (a3 : Int32) (a4 : Int32) (a5 : Int32) (a6 : Int32) (σ : qx_St) : Prop := (((6 : Int32) < a5 → ((a5 < (8 : Int32) → wX2_doStep_j116 rf d1 d2 p3 post a3 a4 a5 a6 σ) ∧ (¬ (a5 < (8 : Int32)) → (((13 : Int32) < a5 → wX2_doStep_j116 rf d1 d2 p3 post a3 a4 a5 a6 σ) ∧ (¬ ((13 : Int32) < a5) → wX2_combine d1 a5 σ (fun s15 => post s15)))))) ∧ (¬ ((6 : Int32) < a5) → wX2_numberFor d1 a5 a6 σ (fun r20 s19 => wX1_put d1 r20 s19 (fun s21 => post s21))))
def wX2_doStep (rf : Int32 → Int32 → qx_St → (qx_St → Prop) → Prop) (d1 : Nat) (d2 : Nat) (p3 : Int32) (σ : qx_St) (post : qx_St → Prop) : Prop := (vp_in ((σ 12 d1 10) - (1 : Int32)) 20 ∧ (vp_in ((σ 12 d1 10) - (1 : Int32)) 20 ∧ wX0_fitsStack (σ 18 d2 ((σ 12 d1 10) - (1 : Int32)).toNatClampNeg) (σ 12 d1 1) σ (fun r2 s1 => ((r2 = 0 → wX1_endThrowing d1 (8 : Int32) s1 (fun s30 => post s30)) ∧ (¬ (r2 = 0) → (((s1 12 d1 7) = 0 → wX2_doStep_j70 rf d1 d2 p3 post p3 ((σ 12 d1 10) - (1 : Int32)) (σ 18 d2 ((σ 12 d1 10) - (1 : Int32)).toNatClampNeg) (σ 19 d2 ((σ 12 d1 10) - (1 : Int32)).toNatClampNeg) s1) ∧ (¬ ((s1 12 d1 7) = 0) → wX0_writes (σ 18 d2 ((σ 12 d1 10) - (1 : Int32)).toNatClampNeg) s1 (fun r25 s24 => ((r25 = 0 → wX2_doStep_j70 rf d1 d2 p3 post p3 ((σ 12 d1 10) - (1 : Int32)) (σ 18 d2 ((σ 12 d1 10) - (1 : Int32)).toNatClampNeg) (σ 19 d2 ((σ 12 d1 10) - (1 : Int32)).toNatClampNeg) s24) ∧ (¬ (r25 = 0) → wX1_endThrowing d1 (2 : Int32) s24 (fun s26 => post s26)))))))))))
set_option maxHeartbeats 4000000 in
set_option maxRecDepth 100000 in
theorem kX2_doStep (l : Launch) (G : qx_Gx) (t1 t2 : Nat) (ad : Nat → Nat → Nat) (rf : Int32 → Int32 → qx_St → (qx_St → Prop) → Prop) (kk : Nat) (hrf : ∀ (x1 : Int32) (x2 : Int32) (σ : qx_St) (post : qx_St → Prop), rf x1 x2 σ post → qx_Mv l G t1 t2 (qx_w0 ad) yX2_runFrame cX2_runFrame 8 none { frames := 4 * kk + 10, cells := 0, slots := 0, locals := 200 * kk + 300 } [.ref (ad 9 0), .int x1, .int x2] σ post) (d1 : Nat) (d2 : Nat) (p3 : Int32) (hd1 : d1 < 8) (hd2 : d2 < 32) (σ : qx_St) (post : qx_St → Prop) (hw : wX2_doStep rf d1 d2 p3 σ post) : qx_Mv l G t1 t2 (qx_w0 ad) yX2_doStep cX2_doStep 7 none { frames := 4 * kk + 12, cells := 0, slots := 0, locals := 200 * kk + 380 } [.ref (ad 9 0), .ref (ad 12 d1), .ref (ad 17 d2), .int p3] σ post := by
  unfold wX2_doStep at hw
  refine qx_start qx_mcX2_doStep (Nat.le_of_ble_eq_true rfl) (fun K hKl hR X hr hlk => ?_)
  subst hKl
  have J141 : ∀ (a3 : Int32) (a4 : Int32) (a5 : Int32) (a6 : Int32) (σ : qx_St), wX2_doStep_j141 rf d1 d2 p3 post a3 a4 a5 a6 σ → qx_V K G 7 0 0 (MQ K.2.2.2.2.2.2.2.1 (va_Qv post (qx_B G (qx_w0 ad)) G.2.2) K.2.2.2.2.2.2.1 K.2.2.2.2.1 0 0 G.2.2) (qx_w0 ad) σ 141 [(0, .ref (ad 9 0)), (1, .ref (ad 12 d1)), (2, .ref (ad 17 d2)), (3, .int a3), (4, .int a4), (5, .int a5), (6, .int a6)] [] := by
    intro a3 a4 a5 a6 σ hw
    unfold wX2_doStep_j141 at hw
    refine qx_iload (pc := 141) X 5 dX2_doStep_141 rfl ?_
    refine qx_bipush (v := 19) (pc := 143) X dX2_doStep_143 (by decide) ?_
    refine qx_icmp_lt (tgt := 175) (pc := 145) X dX2_doStep_145 (by decide) (fun c10 => ?_) (fun c10 => ?_)
    · have hw := hw.1 c10
      refine qx_aload_n (pc := 175) X 0 dX2_doStep_175 rfl rfl ?_
      refine qx_aload_n (pc := 176) X 1 dX2_doStep_176 rfl rfl ?_
      refine qx_iload (pc := 177) X 5 dX2_doStep_177 rfl ?_
      refine qx_iload (pc := 179) X 6 dX2_doStep_179 rfl ?_
      refine qx_iload_n (pc := 181) X 3 dX2_doStep_181 rfl rfl ?_
      refine qx_callVv (f := 9) (i := 0) (pc := 182) X [.ref (ad 12 d1), .int a5, .int a6, .int a3] [] (kX2_act K.2.1 G t1 t2 ad d1 a5 a6 a3 hd1 σ _ hw) qx_mcX2_act qx_lRX2_184 qx_iX2_act qx_selX2_act qx_me9 qx_rc9 rfl ⟨rfl, rfl⟩ (by rw [hR]; exact ⟨by dsimp only; omega, by dsimp only; omega⟩) rfl (Nat.le_of_ble_eq_true rfl) dX2_doStep_182 ⟨Nat.zero_le _, Nat.zero_le _⟩ (fun s3 hw => ?_)
      exact qx_vret (pc := 185) X hr hlk hw dX2_doStep_185
    · have hw := hw.2 c10
      refine qx_iload (pc := 148) X 5 dX2_doStep_148 rfl ?_
      refine qx_bipush (v := 21) (pc := 150) X dX2_doStep_150 (by decide) ?_
      refine qx_icmp_gt (tgt := 175) (pc := 152) X dX2_doStep_152 (by decide) (fun c9 => ?_) (fun c9 => ?_)
      · have hw := hw.1 c9
        refine qx_aload_n (pc := 175) X 0 dX2_doStep_175 rfl rfl ?_
        refine qx_aload_n (pc := 176) X 1 dX2_doStep_176 rfl rfl ?_
        refine qx_iload (pc := 177) X 5 dX2_doStep_177 rfl ?_
        refine qx_iload (pc := 179) X 6 dX2_doStep_179 rfl ?_
        refine qx_iload_n (pc := 181) X 3 dX2_doStep_181 rfl rfl ?_
        refine qx_callVv (f := 9) (i := 0) (pc := 182) X [.ref (ad 12 d1), .int a5, .int a6, .int a3] [] (kX2_act K.2.1 G t1 t2 ad d1 a5 a6 a3 hd1 σ _ hw) qx_mcX2_act qx_lRX2_184 qx_iX2_act qx_selX2_act qx_me9 qx_rc9 rfl ⟨rfl, rfl⟩ (by rw [hR]; exact ⟨by dsimp only; omega, by dsimp only; omega⟩) rfl (Nat.le_of_ble_eq_true rfl) dX2_doStep_182 ⟨Nat.zero_le _, Nat.zero_le _⟩ (fun s5 hw => ?_)
        exact qx_vret (pc := 185) X hr hlk hw dX2_doStep_185
      · have hw := hw.2 c9
        refine qx_aload_n (pc := 155) X 0 dX2_doStep_155 rfl rfl ?_
        refine qx_aload_n (pc := 156) X 1 dX2_doStep_156 rfl rfl ?_
        refine qx_iload (pc := 157) X 5 dX2_doStep_157 rfl ?_
        refine qx_iload (pc := 159) X 6 dX2_doStep_159 rfl ?_
        refine qx_aload_n (pc := 161) X 2 dX2_doStep_161 rfl rfl ?_
        refine qx_getr (f := 17) (i := d2) (a := ad 20 d2) (pc := 162) X qx_gRX2_177 (qx_me17 hd2) rfl dX2_doStep_162 ?_
        refine qx_iload (pc := 165) X 4 dX2_doStep_165 rfl ?_
        refine qx_iald (f := 20) (i := d2) (pc := 167) X rfl (qx_me20 hd2) hw.1 dX2_doStep_167 ?_
        have hw := hw.2
        refine qx_iload_n (pc := 168) X 3 dX2_doStep_168 rfl rfl ?_
        refine qx_callVv (f := 9) (i := 0) (pc := 169) X [.ref (ad 12 d1), .int a5, .int a6, .int (σ 20 d2 a4.toNatClampNeg), .int a3] [] (kX2_callOther K.2.1 G t1 t2 ad rf kk hrf d1 a5 a6 (σ 20 d2 a4.toNatClampNeg) a3 hd1 σ _ hw) qx_mcX2_callOther qx_lRX2_180 qx_iX2_callOther qx_selX2_callOther qx_me9 qx_rc9 rfl ⟨rfl, rfl⟩ (by rw [hR]; exact ⟨by dsimp only; omega, by dsimp only; omega⟩) rfl (Nat.le_of_ble_eq_true rfl) dX2_doStep_169 ⟨Nat.zero_le _, Nat.zero_le _⟩ (fun s7 hw => ?_)
        refine qx_goto (tgt := 185) (pc := 172) X dX2_doStep_172 (by decide) ?_
        exact qx_vret (pc := 185) X hr hlk hw dX2_doStep_185
  have J116 : ∀ (a3 : Int32) (a4 : Int32) (a5 : Int32) (a6 : Int32) (σ : qx_St), wX2_doStep_j116 rf d1 d2 p3 post a3 a4 a5 a6 σ → qx_V K G 7 0 0 (MQ K.2.2.2.2.2.2.2.1 (va_Qv post (qx_B G (qx_w0 ad)) G.2.2) K.2.2.2.2.2.2.1 K.2.2.2.2.1 0 0 G.2.2) (qx_w0 ad) σ 116 [(0, .ref (ad 9 0)), (1, .ref (ad 12 d1)), (2, .ref (ad 17 d2)), (3, .int a3), (4, .int a4), (5, .int a5), (6, .int a6)] [] := by
    intro a3 a4 a5 a6 σ hw
    unfold wX2_doStep_j116 at hw
    refine qx_iload (pc := 116) X 5 dX2_doStep_116 rfl ?_
    refine qx_bipush (v := 14) (pc := 118) X dX2_doStep_118 (by decide) ?_
    refine qx_icmp_lt (tgt := 141) (pc := 120) X dX2_doStep_120 (by decide) (fun c14 => ?_) (fun c14 => ?_)
    · have hw := hw.1 c14
      exact J141 a3 a4 a5 a6 σ hw
    · have hw := hw.2 c14
      refine qx_iload (pc := 123) X 5 dX2_doStep_123 rfl ?_
      refine qx_bipush (v := 18) (pc := 125) X dX2_doStep_125 (by decide) ?_
      refine qx_icmp_gt (tgt := 141) (pc := 127) X dX2_doStep_127 (by decide) (fun c13 => ?_) (fun c13 => ?_)
      · have hw := hw.1 c13
        exact J141 a3 a4 a5 a6 σ hw
      · have hw := hw.2 c13
        refine qx_aload_n (pc := 130) X 1 dX2_doStep_130 rfl rfl ?_
        refine qx_iload (pc := 131) X 5 dX2_doStep_131 rfl ?_
        refine qx_iload (pc := 133) X 6 dX2_doStep_133 rfl ?_
        refine qx_callSv (pc := 135) X [.ref (ad 12 d1), .int a5, .int a6] [] (kX2_arrange K.2.1 G t1 t2 ad d1 a5 a6 hd1 σ _ hw) qx_mcX2_arrange qx_lRX2_173 qx_sX2_arrange rfl ⟨rfl, rfl⟩ (by rw [hR]; exact ⟨by dsimp only; omega, by dsimp only; omega⟩) rfl (Nat.le_of_ble_eq_true rfl) dX2_doStep_135 ⟨Nat.zero_le _, Nat.zero_le _⟩ (fun s11 hw => ?_)
        refine qx_goto (tgt := 185) (pc := 138) X dX2_doStep_138 (by decide) ?_
        exact qx_vret (pc := 185) X hr hlk hw dX2_doStep_185
  have J70 : ∀ (a3 : Int32) (a4 : Int32) (a5 : Int32) (a6 : Int32) (σ : qx_St), wX2_doStep_j70 rf d1 d2 p3 post a3 a4 a5 a6 σ → qx_V K G 7 0 0 (MQ K.2.2.2.2.2.2.2.1 (va_Qv post (qx_B G (qx_w0 ad)) G.2.2) K.2.2.2.2.2.2.1 K.2.2.2.2.1 0 0 G.2.2) (qx_w0 ad) σ 70 [(0, .ref (ad 9 0)), (1, .ref (ad 12 d1)), (2, .ref (ad 17 d2)), (3, .int a3), (4, .int a4), (5, .int a5), (6, .int a6)] [] := by
    intro a3 a4 a5 a6 σ hw
    unfold wX2_doStep_j70 at hw
    refine qx_iload (pc := 70) X 5 dX2_doStep_70 rfl ?_
    refine qx_bipush (v := 6) (pc := 72) X dX2_doStep_72 (by decide) ?_
    refine qx_icmp_gt (tgt := 93) (pc := 74) X dX2_doStep_74 (by decide) (fun c23 => ?_) (fun c23 => ?_)
    · have hw := hw.1 c23
      refine qx_iload (pc := 93) X 5 dX2_doStep_93 rfl ?_
      refine qx_bipush (v := 8) (pc := 95) X dX2_doStep_95 (by decide) ?_
      refine qx_icmp_lt (tgt := 116) (pc := 97) X dX2_doStep_97 (by decide) (fun c18 => ?_) (fun c18 => ?_)
      · have hw := hw.1 c18
        exact J116 a3 a4 a5 a6 σ hw
      · have hw := hw.2 c18
        refine qx_iload (pc := 100) X 5 dX2_doStep_100 rfl ?_
        refine qx_bipush (v := 13) (pc := 102) X dX2_doStep_102 (by decide) ?_
        refine qx_icmp_gt (tgt := 116) (pc := 104) X dX2_doStep_104 (by decide) (fun c17 => ?_) (fun c17 => ?_)
        · have hw := hw.1 c17
          exact J116 a3 a4 a5 a6 σ hw
        · have hw := hw.2 c17
          refine qx_aload_n (pc := 107) X 1 dX2_doStep_107 rfl rfl ?_
          refine qx_iload (pc := 108) X 5 dX2_doStep_108 rfl ?_
          refine qx_callSv (pc := 110) X [.ref (ad 12 d1), .int a5] [] (kX2_combine K.2.1 G t1 t2 ad d1 a5 hd1 σ _ hw) qx_mcX2_combine qx_lRX2_170 qx_sX2_combine rfl ⟨rfl, rfl⟩ (by rw [hR]; exact ⟨by dsimp only; omega, by dsimp only; omega⟩) rfl (Nat.le_of_ble_eq_true rfl) dX2_doStep_110 ⟨Nat.zero_le _, Nat.zero_le _⟩ (fun s15 hw => ?_)
          refine qx_goto (tgt := 185) (pc := 113) X dX2_doStep_113 (by decide) ?_
          exact qx_vret (pc := 185) X hr hlk hw dX2_doStep_185
    · have hw := hw.2 c23
      refine qx_aload_n (pc := 77) X 1 dX2_doStep_77 rfl rfl ?_
      refine qx_aload_n (pc := 78) X 0 dX2_doStep_78 rfl rfl ?_
      refine qx_aload_n (pc := 79) X 1 dX2_doStep_79 rfl rfl ?_
      refine qx_iload (pc := 80) X 5 dX2_doStep_80 rfl ?_
      refine qx_iload (pc := 82) X 6 dX2_doStep_82 rfl ?_
      refine qx_callVi (f := 9) (i := 0) (pc := 84) X [.ref (ad 12 d1), .int a5, .int a6] [.ref (ad 12 d1)] (kX2_numberFor K.2.1 G t1 t2 ad d1 a5 a6 hd1 σ _ hw) qx_mcX2_numberFor qx_lRX2_163 qx_iX2_numberFor qx_selX2_numberFor qx_me9 qx_rc9 rfl ⟨rfl, rfl⟩ (by rw [hR]; exact ⟨by dsimp only; omega, by dsimp only; omega⟩) rfl (Nat.le_of_ble_eq_true rfl) dX2_doStep_84 ⟨Nat.zero_le _, Nat.zero_le _⟩ (fun r20 s19 hw => ?_)
      refine qx_callVv (f := 12) (i := d1) (pc := 87) X [.int r20] [] (kX1_put K.2.1 G t1 t2 ad d1 r20 hd1 s19 _ hw) qx_mcX1_put qx_lRX2_167 qx_iX1_put qx_selX1_put (qx_me12 hd1) qx_rc12 rfl ⟨rfl, rfl⟩ (by rw [hR]; exact ⟨by dsimp only; omega, by dsimp only; omega⟩) rfl (Nat.le_of_ble_eq_true rfl) dX2_doStep_87 ⟨Nat.zero_le _, Nat.zero_le _⟩ (fun s21 hw => ?_)
      refine qx_goto (tgt := 185) (pc := 90) X dX2_doStep_90 (by decide) ?_
      exact qx_vret (pc := 185) X hr hlk hw dX2_doStep_185
  refine (show qx_V K G 7 0 0 (MQ K.2.2.2.2.2.2.2.1 (va_Qv post (qx_B G (qx_w0 ad)) G.2.2) K.2.2.2.2.2.2.1 K.2.2.2.2.1 0 0 G.2.2) (qx_w0 ad) σ 0 [(0, .ref (ad 9 0)), (1, .ref (ad 12 d1)), (2, .ref (ad 17 d2)), (3, .int p3)] [] from ?_)
  refine qx_aload_n (pc := 0) X 1 dX2_doStep_0 rfl rfl ?_
  refine qx_geti (f := 12) (i := d1) (pc := 1) X qx_gRX2_108 (qx_me12 hd1) dX2_doStep_1 ?_
  refine qx_iconst (v := 1) (pc := 4) X dX2_doStep_4 (by decide) ?_
  refine qx_isub (pc := 5) X dX2_doStep_5 ?_
  refine qx_istore (lv' := [(4, .int ((σ 12 d1 10) - (1 : Int32))), (0, .ref (ad 9 0)), (1, .ref (ad 12 d1)), (2, .ref (ad 17 d2)), (3, .int p3)]) (pc := 6) X dX2_doStep_6 (by decide) rfl ?_
  refine qx_aload_n (pc := 8) X 3 dX2_doStep_8 rfl rfl ?_
  refine qx_getr (f := 17) (i := d2) (a := ad 18 d2) (pc := 9) X qx_gRX2_143 (qx_me17 hd2) rfl dX2_doStep_9 ?_
  refine qx_iload (pc := 12) X 0 dX2_doStep_12 rfl ?_
  refine qx_iald (f := 18) (i := d2) (pc := 14) X rfl (qx_me18 hd2) hw.1 dX2_doStep_14 ?_
  have hw := hw.2
  refine qx_istore (lv' := [(5, .int (σ 18 d2 ((σ 12 d1 10) - (1 : Int32)).toNatClampNeg)), (4, .int ((σ 12 d1 10) - (1 : Int32))), (0, .ref (ad 9 0)), (1, .ref (ad 12 d1)), (2, .ref (ad 17 d2)), (3, .int p3)]) (pc := 15) X dX2_doStep_15 (by decide) rfl ?_
  refine qx_aload_n (pc := 17) X 4 dX2_doStep_17 rfl rfl ?_
  refine qx_getr (f := 17) (i := d2) (a := ad 19 d2) (pc := 18) X qx_gRX2_147 (qx_me17 hd2) rfl dX2_doStep_18 ?_
  refine qx_iload (pc := 21) X 1 dX2_doStep_21 rfl ?_
  refine qx_iald (f := 19) (i := d2) (pc := 23) X rfl (qx_me19 hd2) hw.1 dX2_doStep_23 ?_
  have hw := hw.2
  refine qx_istore (lv' := [(6, .int (σ 19 d2 ((σ 12 d1 10) - (1 : Int32)).toNatClampNeg)), (5, .int (σ 18 d2 ((σ 12 d1 10) - (1 : Int32)).toNatClampNeg)), (4, .int ((σ 12 d1 10) - (1 : Int32))), (0, .ref (ad 9 0)), (1, .ref (ad 12 d1)), (2, .ref (ad 17 d2)), (3, .int p3)]) (pc := 24) X dX2_doStep_24 (by decide) rfl ?_
  refine qx_iload (pc := 26) X 1 dX2_doStep_26 rfl ?_
  refine qx_aload_n (pc := 28) X 4 dX2_doStep_28 rfl rfl ?_
  refine qx_geti (f := 12) (i := d1) (pc := 29) X qx_gRX2_150 (qx_me12 hd1) dX2_doStep_29 ?_
  refine qx_callSi (pc := 32) X [.int (σ 18 d2 ((σ 12 d1 10) - (1 : Int32)).toNatClampNeg), .int (σ 12 d1 1)] [] (kX0_fitsStack K.2.1 G t1 t2 ad (σ 18 d2 ((σ 12 d1 10) - (1 : Int32)).toNatClampNeg) (σ 12 d1 1) σ _ hw) qx_mcX0_fitsStack qx_lRX2_153 qx_sX0_fitsStack rfl ⟨rfl, rfl⟩ (by rw [hR]; exact ⟨by dsimp only; omega, by dsimp only; omega⟩) rfl (Nat.le_of_ble_eq_true rfl) dX2_doStep_32 ⟨Nat.zero_le _, Nat.zero_le _⟩ (fun r2 s1 hw => ?_)
  refine qx_if_ne (tgt := 47) (pc := 35) X dX2_doStep_35 (by decide) (fun c32 => ?_) (fun c32 => ?_)
  · have hw := hw.2 c32
    refine qx_aload_n (pc := 47) X 4 dX2_doStep_47 rfl rfl ?_
    refine qx_geti (f := 12) (i := d1) (pc := 48) X qx_gRX2_53 (qx_me12 hd1) dX2_doStep_48 ?_
    refine qx_if_eq (tgt := 70) (pc := 51) X dX2_doStep_51 (by decide) (fun c29 => ?_) (fun c29 => ?_)
    · have hw := hw.1 c29
      refine qx_lsub [3, 4, 5, 6, 2, 1, 0] rfl ?_
      exact J70 p3 ((σ 12 d1 10) - (1 : Int32)) (σ 18 d2 ((σ 12 d1 10) - (1 : Int32)).toNatClampNeg) (σ 19 d2 ((σ 12 d1 10) - (1 : Int32)).toNatClampNeg) s1 hw
    · have hw := hw.2 c29
      refine qx_iload (pc := 54) X 1 dX2_doStep_54 rfl ?_
      refine qx_callSi (pc := 56) X [.int (σ 18 d2 ((σ 12 d1 10) - (1 : Int32)).toNatClampNeg)] [] (kX0_writes K.2.1 G t1 t2 ad (σ 18 d2 ((σ 12 d1 10) - (1 : Int32)).toNatClampNeg) s1 _ hw) qx_mcX0_writes qx_lRX2_159 qx_sX0_writes rfl ⟨rfl, rfl⟩ (by rw [hR]; exact ⟨by dsimp only; omega, by dsimp only; omega⟩) rfl (Nat.le_of_ble_eq_true rfl) dX2_doStep_56 ⟨Nat.zero_le _, Nat.zero_le _⟩ (fun r25 s24 hw => ?_)
      refine qx_if_eq (tgt := 70) (pc := 59) X dX2_doStep_59 (by decide) (fun c28 => ?_) (fun c28 => ?_)
      · have hw := hw.1 c28
        refine qx_lsub [3, 4, 5, 6, 2, 1, 0] rfl ?_
        exact J70 p3 ((σ 12 d1 10) - (1 : Int32)) (σ 18 d2 ((σ 12 d1 10) - (1 : Int32)).toNatClampNeg) (σ 19 d2 ((σ 12 d1 10) - (1 : Int32)).toNatClampNeg) s24 hw
      · have hw := hw.2 c28
        refine qx_aload_n (pc := 62) X 4 dX2_doStep_62 rfl rfl ?_
        refine qx_iconst (v := 2) (pc := 63) X dX2_doStep_63 (by decide) ?_
        refine qx_callVv (f := 12) (i := d1) (pc := 64) X [.int (2 : Int32)] [] (kX1_endThrowing K.2.1 G t1 t2 ad d1 (2 : Int32) hd1 s24 _ hw) qx_mcX1_endThrowing qx_lRX2_125 qx_iX1_endThrowing qx_selX1_endThrowing (qx_me12 hd1) qx_rc12 rfl ⟨rfl, rfl⟩ (by rw [hR]; exact ⟨by dsimp only; omega, by dsimp only; omega⟩) rfl (Nat.le_of_ble_eq_true rfl) dX2_doStep_64 ⟨Nat.zero_le _, Nat.zero_le _⟩ (fun s26 hw => ?_)
        refine qx_goto (tgt := 185) (pc := 67) X dX2_doStep_67 (by decide) ?_
        exact qx_vret (pc := 185) X hr hlk hw dX2_doStep_185
  · have hw := hw.1 c32
    refine qx_aload_n (pc := 38) X 4 dX2_doStep_38 rfl rfl ?_
    refine qx_bipush (v := 8) (pc := 39) X dX2_doStep_39 (by decide) ?_
    refine qx_callVv (f := 12) (i := d1) (pc := 41) X [.int (8 : Int32)] [] (kX1_endThrowing K.2.1 G t1 t2 ad d1 (8 : Int32) hd1 s1 _ hw) qx_mcX1_endThrowing qx_lRX2_125 qx_iX1_endThrowing qx_selX1_endThrowing (qx_me12 hd1) qx_rc12 rfl ⟨rfl, rfl⟩ (by rw [hR]; exact ⟨by dsimp only; omega, by dsimp only; omega⟩) rfl (Nat.le_of_ble_eq_true rfl) dX2_doStep_41 ⟨Nat.zero_le _, Nat.zero_le _⟩ (fun s30 hw => ?_)
    refine qx_goto (tgt := 185) (pc := 44) X dX2_doStep_44 (by decide) ?_
    exact qx_vret (pc := 185) X hr hlk hw dX2_doStep_185
def wX6_putBack (d0 : Nat) (σ : qx_St) (post : qx_St → Prop) : Prop := (∀ s1, s1 = qx_sa σ 4 0 (va_cpy (σ 15 d0) (σ 4 0) ((0 : Int32)).toNatClampNeg ((0 : Int32)).toNatClampNeg ((64 : Int32)).toNatClampNeg) → (∀ s3, s3 = qx_sa s1 5 0 (va_cpy (s1 16 d0) (s1 5 0) ((0 : Int32)).toNatClampNeg ((0 : Int32)).toNatClampNeg ((13 : Int32)).toNatClampNeg) → (∀ s5, s5 = qx_st s3 3 0 3 (s3 14 d0 2) → (∀ s7, s7 = qx_st s5 3 0 4 (s5 14 d0 3) → post s7))))
set_option maxHeartbeats 4000000 in
set_option maxRecDepth 100000 in
theorem kX6_putBack (l : Launch) (G : qx_Gx) (t1 t2 : Nat) (ad : Nat → Nat → Nat) (d0 : Nat) (hd0 : d0 < 8) (σ : qx_St) (post : qx_St → Prop) (hw : wX6_putBack d0 σ post) : qx_Mv l G t1 t2 (qx_w0 ad) yX6_putBack cX6_putBack 2 none { frames := 1, cells := 0, slots := 0, locals := 32 } [.ref (ad 14 d0), .ref (ad 3 0)] σ post := by
  unfold wX6_putBack at hw
  refine qx_start qx_mcX6_putBack (Nat.le_of_ble_eq_true rfl) (fun K hKl hR X hr hlk => ?_)
  subst hKl
  refine (show qx_V K G 2 0 0 (MQ K.2.2.2.2.2.2.2.1 (va_Qv post (qx_B G (qx_w0 ad)) G.2.2) K.2.2.2.2.2.2.1 K.2.2.2.2.1 0 0 G.2.2) (qx_w0 ad) σ 0 [(0, .ref (ad 14 d0)), (1, .ref (ad 3 0))] [] from ?_)
  refine qx_aload_n (pc := 0) X 0 dX6_putBack_0 rfl rfl ?_
  refine qx_getr (f := 14) (i := d0) (a := ad 15 d0) (pc := 1) X qx_gRX6_9 (qx_me14 hd0) rfl dX6_putBack_1 ?_
  refine qx_iconst (v := 0) (pc := 4) X dX6_putBack_4 (by decide) ?_
  refine qx_aload_n (pc := 5) X 1 dX6_putBack_5 rfl rfl ?_
  refine qx_getr (f := 3) (i := 0) (a := ad 4 0) (pc := 6) X qx_gRX6_20 qx_me3 rfl dX6_putBack_6 ?_
  refine qx_iconst (v := 0) (pc := 9) X dX6_putBack_9 (by decide) ?_
  refine qx_aload_n (pc := 10) X 0 dX6_putBack_10 rfl rfl ?_
  refine qx_getr (f := 14) (i := d0) (a := ad 15 d0) (pc := 11) X qx_gRX6_9 (qx_me14 hd0) rfl dX6_putBack_11 ?_
  refine qx_aleni (f := 15) (i := d0) (v := 64) (pc := 14) X rfl (qx_me15 hd0) rfl dX6_putBack_14 ?_
  refine qx_copy1 (f := 15) (i := d0) (f' := 4) (i' := 0) (pc := 15) X qx_lRX6_21 rfl (qx_me15 hd0) rfl qx_me4 (by decide) (by decide) (by decide) (by decide) (by decide) (by rw [hR]; decide) (by rw [hR]; exact Nat.le_of_ble_eq_true rfl) dX6_putBack_15 (fun s1 e2 => ?_)
  have hw := hw s1 e2
  refine qx_aload_n (pc := 18) X 0 dX6_putBack_18 rfl rfl ?_
  refine qx_getr (f := 14) (i := d0) (a := ad 16 d0) (pc := 19) X qx_gRX6_17 (qx_me14 hd0) rfl dX6_putBack_19 ?_
  refine qx_iconst (v := 0) (pc := 22) X dX6_putBack_22 (by decide) ?_
  refine qx_aload_n (pc := 23) X 1 dX6_putBack_23 rfl rfl ?_
  refine qx_getr (f := 3) (i := 0) (a := ad 5 0) (pc := 24) X qx_gRX6_27 qx_me3 rfl dX6_putBack_24 ?_
  refine qx_iconst (v := 0) (pc := 27) X dX6_putBack_27 (by decide) ?_
  refine qx_aload_n (pc := 28) X 0 dX6_putBack_28 rfl rfl ?_
  refine qx_getr (f := 14) (i := d0) (a := ad 16 d0) (pc := 29) X qx_gRX6_17 (qx_me14 hd0) rfl dX6_putBack_29 ?_
  refine qx_aleni (f := 16) (i := d0) (v := 13) (pc := 32) X rfl (qx_me16 hd0) rfl dX6_putBack_32 ?_
  refine qx_copy1 (f := 16) (i := d0) (f' := 5) (i' := 0) (pc := 33) X qx_lRX6_21 rfl (qx_me16 hd0) rfl qx_me5 (by decide) (by decide) (by decide) (by decide) (by decide) (by rw [hR]; decide) (by rw [hR]; exact Nat.le_of_ble_eq_true rfl) dX6_putBack_33 (fun s3 e4 => ?_)
  have hw := hw s3 e4
  refine qx_aload_n (pc := 36) X 1 dX6_putBack_36 rfl rfl ?_
  refine qx_aload_n (pc := 37) X 0 dX6_putBack_37 rfl rfl ?_
  refine qx_geti (f := 14) (i := d0) (pc := 38) X qx_gRX6_32 (qx_me14 hd0) dX6_putBack_38 ?_
  refine qx_puti1 (f := 3) (i := 0) (pc := 41) X qx_pRX6_28 qx_me3 dX6_putBack_41 (fun s5 e6 => ?_)
  have hw := hw s5 e6
  refine qx_aload_n (pc := 44) X 1 dX6_putBack_44 rfl rfl ?_
  refine qx_aload_n (pc := 45) X 0 dX6_putBack_45 rfl rfl ?_
  refine qx_geti (f := 14) (i := d0) (pc := 46) X qx_gRX6_36 (qx_me14 hd0) dX6_putBack_46 ?_
  refine qx_puti1 (f := 3) (i := 0) (pc := 49) X qx_pRX6_33 qx_me3 dX6_putBack_49 (fun s7 e8 => ?_)
  have hw := hw s7 e8
  exact qx_vret (pc := 52) X hr hlk hw dX6_putBack_52
def wX5_writeRow (p1 : Int32) (d2 : Nat) (p3 : Int32) (σ : qx_St) (post : qx_St → Prop) : Prop := ((p1 < (40 : Int32) → (vp_in (p1 * (7 : Int32)) 280 ∧ (∀ s1, s1 = qx_st σ 8 0 (p1 * (7 : Int32)).toNatClampNeg (σ 12 d2 2) → (vp_in ((p1 * (7 : Int32)) + (1 : Int32)) 280 ∧ (∀ s3, s3 = qx_st s1 8 0 ((p1 * (7 : Int32)) + (1 : Int32)).toNatClampNeg (s1 12 d2 3) → (vp_in ((p1 * (7 : Int32)) + (2 : Int32)) 280 ∧ (∀ s5, s5 = qx_st s3 8 0 ((p1 * (7 : Int32)) + (2 : Int32)).toNatClampNeg p3 → wX1_used d2 s5 (fun r8 s7 => (vp_in ((p1 * (7 : Int32)) + (3 : Int32)) 280 ∧ (∀ s9, s9 = qx_st s7 8 0 ((p1 * (7 : Int32)) + (3 : Int32)).toNatClampNeg r8 → (vp_in ((p1 * (7 : Int32)) + (4 : Int32)) 280 ∧ (∀ s11, s11 = qx_st s9 8 0 ((p1 * (7 : Int32)) + (4 : Int32)).toNatClampNeg (s9 12 d2 12) → (vp_in ((p1 * (7 : Int32)) + (5 : Int32)) 280 ∧ (∀ s13, s13 = qx_st s11 8 0 ((p1 * (7 : Int32)) + (5 : Int32)).toNatClampNeg (s11 12 d2 13) → (((s13 12 d2 7) = 0 → (vp_in ((p1 * (7 : Int32)) + (6 : Int32)) 280 ∧ (∀ s15, s15 = qx_st s13 8 0 ((p1 * (7 : Int32)) + (6 : Int32)).toNatClampNeg (0 : Int32) → post s15))) ∧ (¬ ((s13 12 d2 7) = 0) → (vp_in ((p1 * (7 : Int32)) + (6 : Int32)) 280 ∧ (∀ s17, s17 = qx_st s13 8 0 ((p1 * (7 : Int32)) + (6 : Int32)).toNatClampNeg (1 : Int32) → post s17)))))))))))))))))) ∧ (¬ (p1 < (40 : Int32)) → post σ))
set_option maxHeartbeats 4000000 in
set_option maxRecDepth 100000 in
theorem kX5_writeRow (l : Launch) (G : qx_Gx) (t1 t2 : Nat) (ad : Nat → Nat → Nat) (p1 : Int32) (d2 : Nat) (p3 : Int32) (hd2 : d2 < 8) (σ : qx_St) (post : qx_St → Prop) (hw : wX5_writeRow p1 d2 p3 σ post) : qx_Mv l G t1 t2 (qx_w0 ad) yX5_writeRow cX5_writeRow 5 none { frames := 1, cells := 0, slots := 0, locals := 20 } [.ref (ad 7 0), .int p1, .ref (ad 12 d2), .int p3] σ post := by
  unfold wX5_writeRow at hw
  refine qx_start qx_mcX5_writeRow (Nat.le_of_ble_eq_true rfl) (fun K hKl hR X hr hlk => ?_)
  subst hKl
  refine (show qx_V K G 5 0 0 (MQ K.2.2.2.2.2.2.2.1 (va_Qv post (qx_B G (qx_w0 ad)) G.2.2) K.2.2.2.2.2.2.1 K.2.2.2.2.1 0 0 G.2.2) (qx_w0 ad) σ 0 [(0, .ref (ad 7 0)), (1, .int p1), (2, .ref (ad 12 d2)), (3, .int p3)] [] from ?_)
  refine qx_iload_n (pc := 0) X 1 dX5_writeRow_0 rfl rfl ?_
  refine qx_bipush (v := 40) (pc := 1) X dX5_writeRow_1 (by decide) ?_
  refine qx_icmp_lt (tgt := 7) (pc := 3) X dX5_writeRow_3 (by decide) (fun c20 => ?_) (fun c20 => ?_)
  · have hw := hw.1 c20
    refine qx_iload_n (pc := 7) X 1 dX5_writeRow_7 rfl rfl ?_
    refine qx_bipush (v := 7) (pc := 8) X dX5_writeRow_8 (by decide) ?_
    refine qx_imul (pc := 10) X dX5_writeRow_10 ?_
    refine qx_istore (lv' := [(4, .int (p1 * (7 : Int32))), (0, .ref (ad 7 0)), (1, .int p1), (2, .ref (ad 12 d2)), (3, .int p3)]) (pc := 11) X dX5_writeRow_11 (by decide) rfl ?_
    refine qx_aload_n (pc := 13) X 1 dX5_writeRow_13 rfl rfl ?_
    refine qx_getr (f := 7) (i := 0) (a := ad 8 0) (pc := 14) X qx_gRX5_9 qx_me7 rfl dX5_writeRow_14 ?_
    refine qx_iload (pc := 17) X 0 dX5_writeRow_17 rfl ?_
    refine qx_aload_n (pc := 19) X 3 dX5_writeRow_19 rfl rfl ?_
    refine qx_geti (f := 12) (i := d2) (pc := 20) X qx_gRX5_42 (qx_me12 hd2) dX5_writeRow_20 ?_
    refine qx_iast1 (f := 8) (i := 0) (pc := 23) X rfl qx_me8 hw.1 dX5_writeRow_23 (fun s1 e2 => ?_)
    have hw := hw.2
    have hw := hw s1 e2
    refine qx_aload_n (pc := 24) X 1 dX5_writeRow_24 rfl rfl ?_
    refine qx_getr (f := 7) (i := 0) (a := ad 8 0) (pc := 25) X qx_gRX5_9 qx_me7 rfl dX5_writeRow_25 ?_
    refine qx_iload (pc := 28) X 0 dX5_writeRow_28 rfl ?_
    refine qx_iconst (v := 1) (pc := 30) X dX5_writeRow_30 (by decide) ?_
    refine qx_iadd (pc := 31) X dX5_writeRow_31 ?_
    refine qx_aload_n (pc := 32) X 3 dX5_writeRow_32 rfl rfl ?_
    refine qx_geti (f := 12) (i := d2) (pc := 33) X qx_gRX5_47 (qx_me12 hd2) dX5_writeRow_33 ?_
    refine qx_iast1 (f := 8) (i := 0) (pc := 36) X rfl qx_me8 hw.1 dX5_writeRow_36 (fun s3 e4 => ?_)
    have hw := hw.2
    have hw := hw s3 e4
    refine qx_aload_n (pc := 37) X 1 dX5_writeRow_37 rfl rfl ?_
    refine qx_getr (f := 7) (i := 0) (a := ad 8 0) (pc := 38) X qx_gRX5_9 qx_me7 rfl dX5_writeRow_38 ?_
    refine qx_iload (pc := 41) X 0 dX5_writeRow_41 rfl ?_
    refine qx_iconst (v := 2) (pc := 43) X dX5_writeRow_43 (by decide) ?_
    refine qx_iadd (pc := 44) X dX5_writeRow_44 ?_
    refine qx_iload_n (pc := 45) X 4 dX5_writeRow_45 rfl rfl ?_
    refine qx_iast1 (f := 8) (i := 0) (pc := 46) X rfl qx_me8 hw.1 dX5_writeRow_46 (fun s5 e6 => ?_)
    have hw := hw.2
    have hw := hw s5 e6
    refine qx_aload_n (pc := 47) X 1 dX5_writeRow_47 rfl rfl ?_
    refine qx_getr (f := 7) (i := 0) (a := ad 8 0) (pc := 48) X qx_gRX5_9 qx_me7 rfl dX5_writeRow_48 ?_
    refine qx_iload (pc := 51) X 0 dX5_writeRow_51 rfl ?_
    refine qx_iconst (v := 3) (pc := 53) X dX5_writeRow_53 (by decide) ?_
    refine qx_iadd (pc := 54) X dX5_writeRow_54 ?_
    refine qx_aload_n (pc := 55) X 3 dX5_writeRow_55 rfl rfl ?_
    refine qx_callVi (f := 12) (i := d2) (pc := 56) X [] [.int ((p1 * (7 : Int32)) + (3 : Int32)), .ref (ad 8 0)] (kX1_used K.2.1 G t1 t2 ad d2 hd2 s5 _ hw) qx_mcX1_used qx_lRX5_50 qx_iX1_used qx_selX1_used (qx_me12 hd2) qx_rc12 rfl ⟨rfl, rfl⟩ (by rw [hR]; decide) rfl (Nat.le_of_ble_eq_true rfl) dX5_writeRow_56 ⟨Nat.zero_le _, Nat.zero_le _⟩ (fun r8 s7 hw => ?_)
    refine qx_iast1 (f := 8) (i := 0) (pc := 59) X rfl qx_me8 hw.1 dX5_writeRow_59 (fun s9 e10 => ?_)
    have hw := hw.2
    have hw := hw s9 e10
    refine qx_aload_n (pc := 60) X 1 dX5_writeRow_60 rfl rfl ?_
    refine qx_getr (f := 7) (i := 0) (a := ad 8 0) (pc := 61) X qx_gRX5_9 qx_me7 rfl dX5_writeRow_61 ?_
    refine qx_iload (pc := 64) X 0 dX5_writeRow_64 rfl ?_
    refine qx_iconst (v := 4) (pc := 66) X dX5_writeRow_66 (by decide) ?_
    refine qx_iadd (pc := 67) X dX5_writeRow_67 ?_
    refine qx_aload_n (pc := 68) X 3 dX5_writeRow_68 rfl rfl ?_
    refine qx_geti (f := 12) (i := d2) (pc := 69) X qx_gRX5_54 (qx_me12 hd2) dX5_writeRow_69 ?_
    refine qx_iast1 (f := 8) (i := 0) (pc := 72) X rfl qx_me8 hw.1 dX5_writeRow_72 (fun s11 e12 => ?_)
    have hw := hw.2
    have hw := hw s11 e12
    refine qx_aload_n (pc := 73) X 1 dX5_writeRow_73 rfl rfl ?_
    refine qx_getr (f := 7) (i := 0) (a := ad 8 0) (pc := 74) X qx_gRX5_9 qx_me7 rfl dX5_writeRow_74 ?_
    refine qx_iload (pc := 77) X 0 dX5_writeRow_77 rfl ?_
    refine qx_iconst (v := 5) (pc := 79) X dX5_writeRow_79 (by decide) ?_
    refine qx_iadd (pc := 80) X dX5_writeRow_80 ?_
    refine qx_aload_n (pc := 81) X 3 dX5_writeRow_81 rfl rfl ?_
    refine qx_geti (f := 12) (i := d2) (pc := 82) X qx_gRX5_57 (qx_me12 hd2) dX5_writeRow_82 ?_
    refine qx_iast1 (f := 8) (i := 0) (pc := 85) X rfl qx_me8 hw.1 dX5_writeRow_85 (fun s13 e14 => ?_)
    have hw := hw.2
    have hw := hw s13 e14
    refine qx_aload_n (pc := 86) X 1 dX5_writeRow_86 rfl rfl ?_
    refine qx_getr (f := 7) (i := 0) (a := ad 8 0) (pc := 87) X qx_gRX5_9 qx_me7 rfl dX5_writeRow_87 ?_
    refine qx_iload (pc := 90) X 0 dX5_writeRow_90 rfl ?_
    refine qx_bipush (v := 6) (pc := 92) X dX5_writeRow_92 (by decide) ?_
    refine qx_iadd (pc := 94) X dX5_writeRow_94 ?_
    refine qx_aload_n (pc := 95) X 3 dX5_writeRow_95 rfl rfl ?_
    refine qx_geti (f := 12) (i := d2) (pc := 96) X qx_gRX5_60 (qx_me12 hd2) dX5_writeRow_96 ?_
    refine qx_if_eq (tgt := 106) (pc := 99) X dX5_writeRow_99 (by decide) (fun c19 => ?_) (fun c19 => ?_)
    · have hw := hw.1 c19
      refine qx_iconst (v := 0) (pc := 106) X dX5_writeRow_106 (by decide) ?_
      refine qx_iast1 (f := 8) (i := 0) (pc := 107) X rfl qx_me8 hw.1 dX5_writeRow_107 (fun s15 e16 => ?_)
      have hw := hw.2
      have hw := hw s15 e16
      exact qx_vret (pc := 108) X hr hlk hw dX5_writeRow_108
    · have hw := hw.2 c19
      refine qx_iconst (v := 1) (pc := 102) X dX5_writeRow_102 (by decide) ?_
      refine qx_goto (tgt := 107) (pc := 103) X dX5_writeRow_103 (by decide) ?_
      refine qx_iast1 (f := 8) (i := 0) (pc := 107) X rfl qx_me8 hw.1 dX5_writeRow_107 (fun s17 e18 => ?_)
      have hw := hw.2
      have hw := hw s17 e18
      exact qx_vret (pc := 108) X hr hlk hw dX5_writeRow_108
  · have hw := hw.2 c20
    exact qx_vret (pc := 6) X hr hlk hw dX5_writeRow_6
def wX2_runFrame_j159 (rf : Int32 → Int32 → qx_St → (qx_St → Prop) → Prop) (p1 : Int32) (p2 : Int32) (post : qx_St → Prop) (a1 : Int32) (a2 : Int32) (c3 : Nat) (c4 : Nat) (c5 : Nat) (a6 : Int32) (a7 : Int32) (σ : qx_St) : Prop := wX1_hasThrown c3 σ (fun r13 s12 => ((r13 = 0 → wX5_writeRow a6 c3 a2 s12 (fun s14 => post s14)) ∧ (¬ (r13 = 0) → wX6_putBack c5 s12 (fun s16 => wX5_writeRow a6 c3 a2 s16 (fun s18 => post s18)))))
def wX2_runFrame_l74 (rf : Int32 → Int32 → qx_St → (qx_St → Prop) → Prop) (p1 : Int32) (p2 : Int32) (post : qx_St → Prop) : Nat → Int32 → Int32 → Nat → Nat → Nat → Int32 → Int32 → qx_St → Prop
  | 0, _, _, _, _, _, _, _, _ => False
  | n + 1, a1, a2, c3, c4, c5, a6, a7, σ => (((1001 : Int32) ≤ a7 → wX2_runFrame_j159 rf p1 p2 post a1 a2 c3 c4 c5 a6 a7 σ) ∧ (¬ ((1001 : Int32) ≤ a7) → (((σ 12 c3 11) = 0 → (((σ 12 c3 10) < (σ 17 c4 3) → ((0 < (σ 12 c3 9) → (∀ s21, s21 = qx_st σ 12 c3 9 ((σ 12 c3 9) - (1 : Int32)) → (∀ s23, s23 = qx_st s21 12 c3 10 ((s21 12 c3 10) + (1 : Int32)) → wX2_doStep rf c3 c4 a2 s23 (fun s25 => wX2_runFrame_l74 rf p1 p2 post n a1 a2 c3 c4 c5 a6 (a7 + 1) s25)))) ∧ (¬ (0 < (σ 12 c3 9)) → wX1_endThrowing c3 (6 : Int32) σ (fun s27 => wX2_runFrame_l74 rf p1 p2 post n a1 a2 c3 c4 c5 a6 (a7 + 1) s27)))) ∧ (¬ ((σ 12 c3 10) < (σ 17 c4 3)) → wX1_endGiving c3 (0 : Int32) σ (fun s30 => wX2_runFrame_l74 rf p1 p2 post n a1 a2 c3 c4 c5 a6 (a7 + 1) s30)))) ∧ (¬ ((σ 12 c3 11) = 0) → wX2_runFrame_j159 rf p1 p2 post a1 a2 c3 c4 c5 a6 a7 σ))))
def wX2_runFrame (rf : Int32 → Int32 → qx_St → (qx_St → Prop) → Prop) (p1 : Int32) (p2 : Int32) (σ : qx_St) (post : qx_St → Prop) : Prop := (vp_in (p2 - (1 : Int32)) 8 ∧ wX4_memberOf (σ 12 (p2 - (1 : Int32)).toNatClampNeg 2) (σ 12 (p2 - (1 : Int32)).toNatClampNeg 3) σ (fun r3 s2 => r3 < 32 ∧ (vp_in (p2 - (1 : Int32)) 8 ∧ wX5_enter p2 s2 (fun r7 s6 => wX6_keep ((p2 - (1 : Int32)).toNatClampNeg) s6 (fun s8 => wX8_move p1 (s8 12 (p2 - (1 : Int32)).toNatClampNeg 2) (s8 12 (p2 - (1 : Int32)).toNatClampNeg 5) s8 (fun s10 => ∃ n, wX2_runFrame_l74 rf p1 p2 post n p1 p2 ((p2 - (1 : Int32)).toNatClampNeg) r3 ((p2 - (1 : Int32)).toNatClampNeg) r7 (0 : Int32) s10))))))
set_option maxHeartbeats 4000000 in
set_option maxRecDepth 100000 in
theorem kX2_runFrame (l : Launch) (G : qx_Gx) (t1 t2 : Nat) (ad : Nat → Nat → Nat) (rf : Int32 → Int32 → qx_St → (qx_St → Prop) → Prop) (kk : Nat) (hrf : ∀ (x1 : Int32) (x2 : Int32) (σ : qx_St) (post : qx_St → Prop), rf x1 x2 σ post → qx_Mv l G t1 t2 (qx_w0 ad) yX2_runFrame cX2_runFrame 8 none { frames := 4 * kk + 10, cells := 0, slots := 0, locals := 200 * kk + 300 } [.ref (ad 9 0), .int x1, .int x2] σ post) (p1 : Int32) (p2 : Int32) (σ : qx_St) (post : qx_St → Prop) (hw : wX2_runFrame rf p1 p2 σ post) : qx_Mv l G t1 t2 (qx_w0 ad) yX2_runFrame cX2_runFrame 8 none { frames := 4 * kk + 14, cells := 0, slots := 0, locals := 200 * kk + 500 } [.ref (ad 9 0), .int p1, .int p2] σ post := by
  unfold wX2_runFrame at hw
  refine qx_start qx_mcX2_runFrame (Nat.le_of_ble_eq_true rfl) (fun K hKl hR X hr hlk => ?_)
  subst hKl
  have J159 : ∀ (a1 : Int32) (a2 : Int32) (c3 : Nat) (hc3 : c3 < 8) (c4 : Nat) (hc4 : c4 < 32) (c5 : Nat) (hc5 : c5 < 8) (a6 : Int32) (a7 : Int32) (σ : qx_St), wX2_runFrame_j159 rf p1 p2 post a1 a2 c3 c4 c5 a6 a7 σ → qx_V K G 8 0 0 (MQ K.2.2.2.2.2.2.2.1 (va_Qv post (qx_B G (qx_w0 ad)) G.2.2) K.2.2.2.2.2.2.1 K.2.2.2.2.1 0 0 G.2.2) (qx_w0 ad) σ 159 [(0, .ref (ad 9 0)), (1, .int a1), (2, .int a2), (3, .ref (ad 12 c3)), (4, .ref (ad 17 c4)), (5, .ref (ad 14 c5)), (6, .int a6), (7, .int a7)] [] := by
    intro a1 a2 c3 hc3 c4 hc4 c5 hc5 a6 a7 σ hw
    unfold wX2_runFrame_j159 at hw
    refine qx_aload_n (pc := 159) X 3 dX2_runFrame_159 rfl rfl ?_
    refine qx_callVi (f := 12) (i := c3) (pc := 160) X [] [] (kX1_hasThrown K.2.1 G t1 t2 ad c3 hc3 σ _ hw) qx_mcX1_hasThrown qx_lRX2_132 qx_iX1_hasThrown qx_selX1_hasThrown (qx_me12 hc3) qx_rc12 rfl ⟨rfl, rfl⟩ (by rw [hR]; exact ⟨by dsimp only; omega, by dsimp only; omega⟩) rfl (Nat.le_of_ble_eq_true rfl) dX2_runFrame_160 ⟨Nat.zero_le _, Nat.zero_le _⟩ (fun r13 s12 hw => ?_)
    refine qx_if_eq (tgt := 175) (pc := 163) X dX2_runFrame_163 (by decide) (fun c20 => ?_) (fun c20 => ?_)
    · have hw := hw.1 c20
      refine qx_aload_n (pc := 175) X 0 dX2_runFrame_175 rfl rfl ?_
      refine qx_getr (f := 9) (i := 0) (a := ad 7 0) (pc := 176) X qx_gRX2_31 qx_me9 rfl dX2_runFrame_176 ?_
      refine qx_iload (pc := 179) X 6 dX2_runFrame_179 rfl ?_
      refine qx_aload_n (pc := 181) X 3 dX2_runFrame_181 rfl rfl ?_
      refine qx_iload_n (pc := 182) X 2 dX2_runFrame_182 rfl rfl ?_
      refine qx_callVv (f := 7) (i := 0) (pc := 183) X [.int a6, .ref (ad 12 c3), .int a2] [] (kX5_writeRow K.2.1 G t1 t2 ad a6 c3 a2 hc3 s12 _ hw) qx_mcX5_writeRow qx_lRX2_139 qx_iX5_writeRow qx_selX5_writeRow qx_me7 qx_rc7 rfl ⟨rfl, rfl⟩ (by rw [hR]; exact ⟨by dsimp only; omega, by dsimp only; omega⟩) rfl (Nat.le_of_ble_eq_true rfl) dX2_runFrame_183 ⟨Nat.zero_le _, Nat.zero_le _⟩ (fun s14 hw => ?_)
      exact qx_vret (pc := 186) X hr hlk hw dX2_runFrame_186
    · have hw := hw.2 c20
      refine qx_aload (pc := 166) X 5 dX2_runFrame_166 rfl ?_
      refine qx_aload_n (pc := 168) X 0 dX2_runFrame_168 rfl rfl ?_
      refine qx_getr (f := 9) (i := 0) (a := ad 3 0) (pc := 169) X qx_gRX2_27 qx_me9 rfl dX2_runFrame_169 ?_
      refine qx_callVv (f := 14) (i := c5) (pc := 172) X [.ref (ad 3 0)] [] (kX6_putBack K.2.1 G t1 t2 ad c5 hc5 s12 _ hw) qx_mcX6_putBack qx_lRX2_136 qx_iX6_putBack qx_selX6_putBack (qx_me14 hc5) qx_rc14 rfl ⟨rfl, rfl⟩ (by rw [hR]; exact ⟨by dsimp only; omega, by dsimp only; omega⟩) rfl (Nat.le_of_ble_eq_true rfl) dX2_runFrame_172 ⟨Nat.zero_le _, Nat.zero_le _⟩ (fun s16 hw => ?_)
      refine qx_aload_n (pc := 175) X 0 dX2_runFrame_175 rfl rfl ?_
      refine qx_getr (f := 9) (i := 0) (a := ad 7 0) (pc := 176) X qx_gRX2_31 qx_me9 rfl dX2_runFrame_176 ?_
      refine qx_iload (pc := 179) X 6 dX2_runFrame_179 rfl ?_
      refine qx_aload_n (pc := 181) X 3 dX2_runFrame_181 rfl rfl ?_
      refine qx_iload_n (pc := 182) X 2 dX2_runFrame_182 rfl rfl ?_
      refine qx_callVv (f := 7) (i := 0) (pc := 183) X [.int a6, .ref (ad 12 c3), .int a2] [] (kX5_writeRow K.2.1 G t1 t2 ad a6 c3 a2 hc3 s16 _ hw) qx_mcX5_writeRow qx_lRX2_139 qx_iX5_writeRow qx_selX5_writeRow qx_me7 qx_rc7 rfl ⟨rfl, rfl⟩ (by rw [hR]; exact ⟨by dsimp only; omega, by dsimp only; omega⟩) rfl (Nat.le_of_ble_eq_true rfl) dX2_runFrame_183 ⟨Nat.zero_le _, Nat.zero_le _⟩ (fun s18 hw => ?_)
      exact qx_vret (pc := 186) X hr hlk hw dX2_runFrame_186
  have L74 : ∀ (n : Nat) (a1 : Int32) (a2 : Int32) (c3 : Nat) (hc3 : c3 < 8) (c4 : Nat) (hc4 : c4 < 32) (c5 : Nat) (hc5 : c5 < 8) (a6 : Int32) (a7 : Int32) (σ : qx_St), wX2_runFrame_l74 rf p1 p2 post n a1 a2 c3 c4 c5 a6 a7 σ → qx_V K G 8 0 0 (MQ K.2.2.2.2.2.2.2.1 (va_Qv post (qx_B G (qx_w0 ad)) G.2.2) K.2.2.2.2.2.2.1 K.2.2.2.2.1 0 0 G.2.2) (qx_w0 ad) σ 74 [(0, .ref (ad 9 0)), (1, .int a1), (2, .int a2), (3, .ref (ad 12 c3)), (4, .ref (ad 17 c4)), (5, .ref (ad 14 c5)), (6, .int a6), (7, .int a7)] [] := by
    intro n
    induction n with
    | zero => intro a1 a2 c3 hc3 c4 hc4 c5 hc5 a6 a7 σ hw; exact hw.elim
    | succ n ih =>
      intro a1 a2 c3 hc3 c4 hc4 c5 hc5 a6 a7 σ hw
      refine qx_iload (pc := 74) X 7 dX2_runFrame_74 rfl ?_
      refine qx_sipush (v := 1001) (pc := 76) X dX2_runFrame_76 (by decide) ?_
      refine qx_icmp_ge (tgt := 159) (pc := 79) X dX2_runFrame_79 (by decide) (fun c34 => ?_) (fun c34 => ?_)
      · have hw := hw.1 c34
        exact J159 a1 a2 c3 hc3 c4 hc4 c5 hc5 a6 a7 σ hw
      · have hw := hw.2 c34
        refine qx_aload_n (pc := 82) X 3 dX2_runFrame_82 rfl rfl ?_
        refine qx_geti (f := 12) (i := c3) (pc := 83) X qx_gRX2_105 (qx_me12 hc3) dX2_runFrame_83 ?_
        refine qx_if_ne (tgt := 159) (pc := 86) X dX2_runFrame_86 (by decide) (fun c33 => ?_) (fun c33 => ?_)
        · have hw := hw.2 c33
          exact J159 a1 a2 c3 hc3 c4 hc4 c5 hc5 a6 a7 σ hw
        · have hw := hw.1 c33
          refine qx_aload_n (pc := 89) X 3 dX2_runFrame_89 rfl rfl ?_
          refine qx_geti (f := 12) (i := c3) (pc := 90) X qx_gRX2_108 (qx_me12 hc3) dX2_runFrame_90 ?_
          refine qx_aload (pc := 93) X 4 dX2_runFrame_93 rfl ?_
          refine qx_geti (f := 17) (i := c4) (pc := 95) X qx_gRX2_111 (qx_me17 hc4) dX2_runFrame_95 ?_
          refine qx_icmp_lt (tgt := 109) (pc := 98) X dX2_runFrame_98 (by decide) (fun c32 => ?_) (fun c32 => ?_)
          · have hw := hw.1 c32
            refine qx_aload_n (pc := 109) X 3 dX2_runFrame_109 rfl rfl ?_
            refine qx_geti (f := 12) (i := c3) (pc := 110) X qx_gRX2_120 (qx_me12 hc3) dX2_runFrame_110 ?_
            refine qx_if_gt (tgt := 125) (pc := 113) X dX2_runFrame_113 (by decide) (fun c29 => ?_) (fun c29 => ?_)
            · have hw := hw.1 c29
              refine qx_aload_n (pc := 125) X 3 dX2_runFrame_125 rfl rfl ?_
              refine qx_dup (pc := 126) X dX2_runFrame_126 rfl ?_
              refine qx_geti (f := 12) (i := c3) (pc := 127) X qx_gRX2_120 (qx_me12 hc3) dX2_runFrame_127 ?_
              refine qx_iconst (v := 1) (pc := 130) X dX2_runFrame_130 (by decide) ?_
              refine qx_isub (pc := 131) X dX2_runFrame_131 ?_
              refine qx_puti1 (f := 12) (i := c3) (pc := 132) X qx_pRX2_120 (qx_me12 hc3) dX2_runFrame_132 (fun s21 e22 => ?_)
              have hw := hw s21 e22
              refine qx_aload_n (pc := 135) X 3 dX2_runFrame_135 rfl rfl ?_
              refine qx_dup (pc := 136) X dX2_runFrame_136 rfl ?_
              refine qx_geti (f := 12) (i := c3) (pc := 137) X qx_gRX2_108 (qx_me12 hc3) dX2_runFrame_137 ?_
              refine qx_iconst (v := 1) (pc := 140) X dX2_runFrame_140 (by decide) ?_
              refine qx_iadd (pc := 141) X dX2_runFrame_141 ?_
              refine qx_puti1 (f := 12) (i := c3) (pc := 142) X qx_pRX2_108 (qx_me12 hc3) dX2_runFrame_142 (fun s23 e24 => ?_)
              have hw := hw s23 e24
              refine qx_aload_n (pc := 145) X 0 dX2_runFrame_145 rfl rfl ?_
              refine qx_aload_n (pc := 146) X 3 dX2_runFrame_146 rfl rfl ?_
              refine qx_aload (pc := 147) X 4 dX2_runFrame_147 rfl ?_
              refine qx_iload_n (pc := 149) X 2 dX2_runFrame_149 rfl rfl ?_
              refine qx_callVv (f := 9) (i := 0) (pc := 150) X [.ref (ad 12 c3), .ref (ad 17 c4), .int a2] [] (kX2_doStep K.2.1 G t1 t2 ad rf kk hrf c3 c4 a2 hc3 hc4 s23 _ hw) qx_mcX2_doStep qx_lRX2_128 qx_iX2_doStep qx_selX2_doStep qx_me9 qx_rc9 rfl ⟨rfl, rfl⟩ (by rw [hR]; exact ⟨by dsimp only; omega, by dsimp only; omega⟩) rfl (Nat.le_of_ble_eq_true rfl) dX2_runFrame_150 ⟨Nat.zero_le _, Nat.zero_le _⟩ (fun s25 hw => ?_)
              refine qx_iinc (v := (a7 + 1)) (lv' := [(7, .int (a7 + 1)), (0, .ref (ad 9 0)), (1, .int a1), (2, .int a2), (3, .ref (ad 12 c3)), (4, .ref (ad 17 c4)), (5, .ref (ad 14 c5)), (6, .int a6)]) (pc := 153) X 7 dX2_runFrame_153 rfl rfl (by decide) rfl ?_
              refine qx_goto (tgt := 74) (pc := 156) X dX2_runFrame_156 (by decide) ?_
              refine qx_lsub [1, 2, 3, 4, 5, 6, 7, 0] rfl ?_
              exact ih a1 a2 c3 hc3 c4 hc4 c5 hc5 a6 (a7 + 1) s25 hw
            · have hw := hw.2 c29
              refine qx_aload_n (pc := 116) X 3 dX2_runFrame_116 rfl rfl ?_
              refine qx_bipush (v := 6) (pc := 117) X dX2_runFrame_117 (by decide) ?_
              refine qx_callVv (f := 12) (i := c3) (pc := 119) X [.int (6 : Int32)] [] (kX1_endThrowing K.2.1 G t1 t2 ad c3 (6 : Int32) hc3 σ _ hw) qx_mcX1_endThrowing qx_lRX2_125 qx_iX1_endThrowing qx_selX1_endThrowing (qx_me12 hc3) qx_rc12 rfl ⟨rfl, rfl⟩ (by rw [hR]; exact ⟨by dsimp only; omega, by dsimp only; omega⟩) rfl (Nat.le_of_ble_eq_true rfl) dX2_runFrame_119 ⟨Nat.zero_le _, Nat.zero_le _⟩ (fun s27 hw => ?_)
              refine qx_goto (tgt := 153) (pc := 122) X dX2_runFrame_122 (by decide) ?_
              refine qx_iinc (v := (a7 + 1)) (lv' := [(7, .int (a7 + 1)), (0, .ref (ad 9 0)), (1, .int a1), (2, .int a2), (3, .ref (ad 12 c3)), (4, .ref (ad 17 c4)), (5, .ref (ad 14 c5)), (6, .int a6)]) (pc := 153) X 7 dX2_runFrame_153 rfl rfl (by decide) rfl ?_
              refine qx_goto (tgt := 74) (pc := 156) X dX2_runFrame_156 (by decide) ?_
              refine qx_lsub [1, 2, 3, 4, 5, 6, 7, 0] rfl ?_
              exact ih a1 a2 c3 hc3 c4 hc4 c5 hc5 a6 (a7 + 1) s27 hw
          · have hw := hw.2 c32
            refine qx_aload_n (pc := 101) X 3 dX2_runFrame_101 rfl rfl ?_
            refine qx_iconst (v := 0) (pc := 102) X dX2_runFrame_102 (by decide) ?_
            refine qx_callVv (f := 12) (i := c3) (pc := 103) X [.int (0 : Int32)] [] (kX1_endGiving K.2.1 G t1 t2 ad c3 (0 : Int32) hc3 σ _ hw) qx_mcX1_endGiving qx_lRX2_116 qx_iX1_endGiving qx_selX1_endGiving (qx_me12 hc3) qx_rc12 rfl ⟨rfl, rfl⟩ (by rw [hR]; exact ⟨by dsimp only; omega, by dsimp only; omega⟩) rfl (Nat.le_of_ble_eq_true rfl) dX2_runFrame_103 ⟨Nat.zero_le _, Nat.zero_le _⟩ (fun s30 hw => ?_)
            refine qx_goto (tgt := 153) (pc := 106) X dX2_runFrame_106 (by decide) ?_
            refine qx_iinc (v := (a7 + 1)) (lv' := [(7, .int (a7 + 1)), (0, .ref (ad 9 0)), (1, .int a1), (2, .int a2), (3, .ref (ad 12 c3)), (4, .ref (ad 17 c4)), (5, .ref (ad 14 c5)), (6, .int a6)]) (pc := 153) X 7 dX2_runFrame_153 rfl rfl (by decide) rfl ?_
            refine qx_goto (tgt := 74) (pc := 156) X dX2_runFrame_156 (by decide) ?_
            refine qx_lsub [1, 2, 3, 4, 5, 6, 7, 0] rfl ?_
            exact ih a1 a2 c3 hc3 c4 hc4 c5 hc5 a6 (a7 + 1) s30 hw
  refine (show qx_V K G 8 0 0 (MQ K.2.2.2.2.2.2.2.1 (va_Qv post (qx_B G (qx_w0 ad)) G.2.2) K.2.2.2.2.2.2.1 K.2.2.2.2.1 0 0 G.2.2) (qx_w0 ad) σ 0 [(0, .ref (ad 9 0)), (1, .int p1), (2, .int p2)] [] from ?_)
  refine qx_aload_n (pc := 0) X 0 dX2_runFrame_0 rfl rfl ?_
  refine qx_getr (f := 9) (i := 0) (a := ad 10 0) (pc := 1) X qx_gRX2_11 qx_me9 rfl dX2_runFrame_1 ?_
  refine qx_iload_n (pc := 4) X 2 dX2_runFrame_4 rfl rfl ?_
  refine qx_iconst (v := 1) (pc := 5) X dX2_runFrame_5 (by decide) ?_
  refine qx_isub (pc := 6) X dX2_runFrame_6 ?_
  have hi1 := qx_lt hw.1
  refine qx_aald (f := 10) (i := 0) (a := ad 12 (p2 - (1 : Int32)).toNatClampNeg) (pc := 7) X rfl rfl qx_me10 hw.1 (qx_r0q (ad := ad) (f := 10) (i := 0) (k := 3) (n := 8) (tg := 12) rfl hi1) dX2_runFrame_7 ?_
  have hw := hw.2
  refine qx_astore_n (lv' := [(3, .ref (ad 12 (p2 - (1 : Int32)).toNatClampNeg)), (0, .ref (ad 9 0)), (1, .int p1), (2, .int p2)]) (pc := 8) X dX2_runFrame_8 rfl (by decide) rfl ?_
  refine qx_aload_n (pc := 9) X 1 dX2_runFrame_9 rfl rfl ?_
  refine qx_getr (f := 9) (i := 0) (a := ad 1 0) (pc := 10) X qx_gRX2_23 qx_me9 rfl dX2_runFrame_10 ?_
  refine qx_aload_n (pc := 13) X 0 dX2_runFrame_13 rfl rfl ?_
  refine qx_geti (f := 12) (i := (p2 - (1 : Int32)).toNatClampNeg) (pc := 14) X qx_gRX2_82 (qx_me12 hi1) dX2_runFrame_14 ?_
  refine qx_aload_n (pc := 17) X 0 dX2_runFrame_17 rfl rfl ?_
  refine qx_geti (f := 12) (i := (p2 - (1 : Int32)).toNatClampNeg) (pc := 18) X qx_gRX2_85 (qx_me12 hi1) dX2_runFrame_18 ?_
  refine qx_callVr (f := 1) (i := 0) (pc := 21) X [.int (σ 12 (p2 - (1 : Int32)).toNatClampNeg 2), .int (σ 12 (p2 - (1 : Int32)).toNatClampNeg 3)] [] (kX4_memberOf K.2.1 G t1 t2 ad (σ 12 (p2 - (1 : Int32)).toNatClampNeg 2) (σ 12 (p2 - (1 : Int32)).toNatClampNeg 3) σ _ hw) qx_mcX4_memberOf qx_lRX2_88 qx_iX4_memberOf qx_selX4_memberOf qx_me1 qx_rc1 rfl ⟨rfl, rfl⟩ (by rw [hR]; exact ⟨by dsimp only; omega, by dsimp only; omega⟩) rfl (Nat.le_of_ble_eq_true rfl) dX2_runFrame_21 ⟨Nat.zero_le _, Nat.zero_le _⟩ (fun r3 s2 hw => ?_)
  have hi4 := hw.1
  have hw := hw.2
  refine qx_astore (lv' := [(4, .ref (ad 17 r3)), (3, .ref (ad 12 (p2 - (1 : Int32)).toNatClampNeg)), (0, .ref (ad 9 0)), (1, .int p1), (2, .int p2)]) (pc := 24) X dX2_runFrame_24 (by decide) rfl ?_
  refine qx_aload_n (pc := 26) X 2 dX2_runFrame_26 rfl rfl ?_
  refine qx_getr (f := 9) (i := 0) (a := ad 11 0) (pc := 27) X qx_gRX2_19 qx_me9 rfl dX2_runFrame_27 ?_
  refine qx_iload_n (pc := 30) X 4 dX2_runFrame_30 rfl rfl ?_
  refine qx_iconst (v := 1) (pc := 31) X dX2_runFrame_31 (by decide) ?_
  refine qx_isub (pc := 32) X dX2_runFrame_32 ?_
  have hi5 := qx_lt hw.1
  refine qx_aald (f := 11) (i := 0) (a := ad 14 (p2 - (1 : Int32)).toNatClampNeg) (pc := 33) X rfl rfl qx_me11 hw.1 (qx_r0q (ad := ad) (f := 11) (i := 0) (k := 4) (n := 8) (tg := 14) rfl hi5) dX2_runFrame_33 ?_
  have hw := hw.2
  refine qx_astore (lv' := [(5, .ref (ad 14 (p2 - (1 : Int32)).toNatClampNeg)), (4, .ref (ad 17 r3)), (3, .ref (ad 12 (p2 - (1 : Int32)).toNatClampNeg)), (0, .ref (ad 9 0)), (1, .int p1), (2, .int p2)]) (pc := 34) X dX2_runFrame_34 (by decide) rfl ?_
  refine qx_aload_n (pc := 36) X 3 dX2_runFrame_36 rfl rfl ?_
  refine qx_getr (f := 9) (i := 0) (a := ad 7 0) (pc := 37) X qx_gRX2_31 qx_me9 rfl dX2_runFrame_37 ?_
  refine qx_iload_n (pc := 40) X 5 dX2_runFrame_40 rfl rfl ?_
  refine qx_callVi (f := 7) (i := 0) (pc := 41) X [.int p2] [] (kX5_enter K.2.1 G t1 t2 ad p2 s2 _ hw) qx_mcX5_enter qx_lRX2_94 qx_iX5_enter qx_selX5_enter qx_me7 qx_rc7 rfl ⟨rfl, rfl⟩ (by rw [hR]; exact ⟨by dsimp only; omega, by dsimp only; omega⟩) rfl (Nat.le_of_ble_eq_true rfl) dX2_runFrame_41 ⟨Nat.zero_le _, Nat.zero_le _⟩ (fun r7 s6 hw => ?_)
  refine qx_istore (lv' := [(6, .int r7), (5, .ref (ad 14 (p2 - (1 : Int32)).toNatClampNeg)), (4, .ref (ad 17 r3)), (3, .ref (ad 12 (p2 - (1 : Int32)).toNatClampNeg)), (0, .ref (ad 9 0)), (1, .int p1), (2, .int p2)]) (pc := 44) X dX2_runFrame_44 (by decide) rfl ?_
  refine qx_aload (pc := 46) X 1 dX2_runFrame_46 rfl ?_
  refine qx_aload_n (pc := 48) X 4 dX2_runFrame_48 rfl rfl ?_
  refine qx_getr (f := 9) (i := 0) (a := ad 3 0) (pc := 49) X qx_gRX2_27 qx_me9 rfl dX2_runFrame_49 ?_
  refine qx_callVv (f := 14) (i := (p2 - (1 : Int32)).toNatClampNeg) (pc := 52) X [.ref (ad 3 0)] [] (kX6_keep K.2.1 G t1 t2 ad ((p2 - (1 : Int32)).toNatClampNeg) hi5 s6 _ hw) qx_mcX6_keep qx_lRX2_98 qx_iX6_keep qx_selX6_keep (qx_me14 hi5) qx_rc14 rfl ⟨rfl, rfl⟩ (by rw [hR]; exact ⟨by dsimp only; omega, by dsimp only; omega⟩) rfl (Nat.le_of_ble_eq_true rfl) dX2_runFrame_52 ⟨Nat.zero_le _, Nat.zero_le _⟩ (fun s8 hw => ?_)
  refine qx_aload_n (pc := 55) X 4 dX2_runFrame_55 rfl rfl ?_
  refine qx_getr (f := 9) (i := 0) (a := ad 3 0) (pc := 56) X qx_gRX2_27 qx_me9 rfl dX2_runFrame_56 ?_
  refine qx_iload_n (pc := 59) X 5 dX2_runFrame_59 rfl rfl ?_
  refine qx_aload_n (pc := 60) X 3 dX2_runFrame_60 rfl rfl ?_
  refine qx_geti (f := 12) (i := (p2 - (1 : Int32)).toNatClampNeg) (pc := 61) X qx_gRX2_82 (qx_me12 hi1) dX2_runFrame_61 ?_
  refine qx_aload_n (pc := 64) X 3 dX2_runFrame_64 rfl rfl ?_
  refine qx_geti (f := 12) (i := (p2 - (1 : Int32)).toNatClampNeg) (pc := 65) X qx_gRX2_102 (qx_me12 hi1) dX2_runFrame_65 ?_
  refine qx_callVv (f := 3) (i := 0) (pc := 68) X [.int p1, .int (s8 12 (p2 - (1 : Int32)).toNatClampNeg 2), .int (s8 12 (p2 - (1 : Int32)).toNatClampNeg 5)] [] (kX8_move K.2.1 G t1 t2 ad p1 (s8 12 (p2 - (1 : Int32)).toNatClampNeg 2) (s8 12 (p2 - (1 : Int32)).toNatClampNeg 5) s8 _ hw) qx_mcX8_move qx_lRX2_74 qx_iX8_move qx_selX8_move qx_me3 qx_rc3 rfl ⟨rfl, rfl⟩ (by rw [hR]; exact ⟨by dsimp only; omega, by dsimp only; omega⟩) rfl (Nat.le_of_ble_eq_true rfl) dX2_runFrame_68 ⟨Nat.zero_le _, Nat.zero_le _⟩ (fun s10 hw => ?_)
  refine qx_iconst (v := 0) (pc := 71) X dX2_runFrame_71 (by decide) ?_
  refine qx_istore (lv' := [(7, .int (0 : Int32)), (6, .int r7), (5, .ref (ad 14 (p2 - (1 : Int32)).toNatClampNeg)), (4, .ref (ad 17 r3)), (3, .ref (ad 12 (p2 - (1 : Int32)).toNatClampNeg)), (0, .ref (ad 9 0)), (1, .int p1), (2, .int p2)]) (pc := 72) X dX2_runFrame_72 (by decide) rfl ?_
  refine qx_lsub [5, 6, 7, 4, 3, 2, 1, 0] rfl ?_
  obtain ⟨n, hw⟩ := hw
  exact L74 n p1 p2 ((p2 - (1 : Int32)).toNatClampNeg) hi1 r3 hi4 ((p2 - (1 : Int32)).toNatClampNeg) hi5 r7 (0 : Int32) s10 hw
def wX5_endCall_j32 (d1 : Nat) (p2 : Int32) (post : qx_St → Prop) (a2 : Int32) (b0 : Int32) (σ : qx_St) : Prop := (∀ s7, s7 = qx_st σ 7 0 3 b0 → wX1_used d1 s7 (fun r10 s9 => (∀ s11, s11 = qx_st s9 7 0 4 r10 → (∀ s13, s13 = qx_st s11 7 0 5 a2 → (((s13 7 0 2) = 0 → (∀ s15, s15 = qx_st s13 7 0 8 ((s13 7 0 8) + (1 : Int32)) → post s15)) ∧ (¬ ((s13 7 0 2) = 0) → (∀ s17, s17 = qx_st s13 7 0 9 ((s13 7 0 9) + (1 : Int32)) → post s17)))))))
def wX5_endCall (d1 : Nat) (p2 : Int32) (σ : qx_St) (post : qx_St → Prop) : Prop := (∀ s1, s1 = qx_st σ 7 0 1 (1 : Int32) → wX1_hasThrown d1 s1 (fun r4 s3 => (qx_vz r4 ∧ (∀ s5, s5 = qx_st s3 7 0 2 r4 → (((s5 7 0 2) = 0 → wX5_endCall_j32 d1 p2 post p2 (s5 12 d1 13) s5) ∧ (¬ ((s5 7 0 2) = 0) → wX5_endCall_j32 d1 p2 post p2 (s5 12 d1 12) s5))))))
set_option maxHeartbeats 4000000 in
set_option maxRecDepth 100000 in
theorem kX5_endCall (l : Launch) (G : qx_Gx) (t1 t2 : Nat) (ad : Nat → Nat → Nat) (d1 : Nat) (p2 : Int32) (hd1 : d1 < 8) (σ : qx_St) (post : qx_St → Prop) (hw : wX5_endCall d1 p2 σ post) : qx_Mv l G t1 t2 (qx_w0 ad) yX5_endCall cX5_endCall 3 none { frames := 1, cells := 0, slots := 0, locals := 20 } [.ref (ad 7 0), .ref (ad 12 d1), .int p2] σ post := by
  unfold wX5_endCall at hw
  refine qx_start qx_mcX5_endCall (Nat.le_of_ble_eq_true rfl) (fun K hKl hR X hr hlk => ?_)
  subst hKl
  have J32 : ∀ (a2 : Int32) (b0 : Int32) (σ : qx_St), wX5_endCall_j32 d1 p2 post a2 b0 σ → qx_V K G 3 0 0 (MQ K.2.2.2.2.2.2.2.1 (va_Qv post (qx_B G (qx_w0 ad)) G.2.2) K.2.2.2.2.2.2.1 K.2.2.2.2.1 0 0 G.2.2) (qx_w0 ad) σ 32 [(0, .ref (ad 7 0)), (1, .ref (ad 12 d1)), (2, .int a2)] [.int b0, .ref (ad 7 0)] := by
    intro a2 b0 σ hw
    unfold wX5_endCall_j32 at hw
    refine qx_puti1 (f := 7) (i := 0) (pc := 32) X qx_pRX5_69 qx_me7 dX5_endCall_32 (fun s7 e8 => ?_)
    have hw := hw s7 e8
    refine qx_aload_n (pc := 35) X 0 dX5_endCall_35 rfl rfl ?_
    refine qx_aload_n (pc := 36) X 1 dX5_endCall_36 rfl rfl ?_
    refine qx_callVi (f := 12) (i := d1) (pc := 37) X [] [.ref (ad 7 0)] (kX1_used K.2.1 G t1 t2 ad d1 hd1 s7 _ hw) qx_mcX1_used qx_lRX5_50 qx_iX1_used qx_selX1_used (qx_me12 hd1) qx_rc12 rfl ⟨rfl, rfl⟩ (by rw [hR]; decide) rfl (Nat.le_of_ble_eq_true rfl) dX5_endCall_37 ⟨Nat.zero_le _, Nat.zero_le _⟩ (fun r10 s9 hw => ?_)
    refine qx_puti1 (f := 7) (i := 0) (pc := 40) X qx_pRX5_72 qx_me7 dX5_endCall_40 (fun s11 e12 => ?_)
    have hw := hw s11 e12
    refine qx_aload_n (pc := 43) X 0 dX5_endCall_43 rfl rfl ?_
    refine qx_iload_n (pc := 44) X 2 dX5_endCall_44 rfl rfl ?_
    refine qx_puti1 (f := 7) (i := 0) (pc := 45) X qx_pRX5_74 qx_me7 dX5_endCall_45 (fun s13 e14 => ?_)
    have hw := hw s13 e14
    refine qx_aload_n (pc := 48) X 0 dX5_endCall_48 rfl rfl ?_
    refine qx_geti (f := 7) (i := 0) (pc := 49) X qx_gRX5_67 qx_me7 dX5_endCall_49 ?_
    refine qx_if_eq (tgt := 68) (pc := 52) X dX5_endCall_52 (by decide) (fun c19 => ?_) (fun c19 => ?_)
    · have hw := hw.1 c19
      refine qx_aload_n (pc := 68) X 0 dX5_endCall_68 rfl rfl ?_
      refine qx_dup (pc := 69) X dX5_endCall_69 rfl ?_
      refine qx_geti (f := 7) (i := 0) (pc := 70) X qx_gRX5_17 qx_me7 dX5_endCall_70 ?_
      refine qx_iconst (v := 1) (pc := 73) X dX5_endCall_73 (by decide) ?_
      refine qx_iadd (pc := 74) X dX5_endCall_74 ?_
      refine qx_puti1 (f := 7) (i := 0) (pc := 75) X qx_pRX5_17 qx_me7 dX5_endCall_75 (fun s15 e16 => ?_)
      have hw := hw s15 e16
      exact qx_vret (pc := 78) X hr hlk hw dX5_endCall_78
    · have hw := hw.2 c19
      refine qx_aload_n (pc := 55) X 0 dX5_endCall_55 rfl rfl ?_
      refine qx_dup (pc := 56) X dX5_endCall_56 rfl ?_
      refine qx_geti (f := 7) (i := 0) (pc := 57) X qx_gRX5_21 qx_me7 dX5_endCall_57 ?_
      refine qx_iconst (v := 1) (pc := 60) X dX5_endCall_60 (by decide) ?_
      refine qx_iadd (pc := 61) X dX5_endCall_61 ?_
      refine qx_puti1 (f := 7) (i := 0) (pc := 62) X qx_pRX5_21 qx_me7 dX5_endCall_62 (fun s17 e18 => ?_)
      have hw := hw s17 e18
      refine qx_goto (tgt := 78) (pc := 65) X dX5_endCall_65 (by decide) ?_
      exact qx_vret (pc := 78) X hr hlk hw dX5_endCall_78
  refine (show qx_V K G 3 0 0 (MQ K.2.2.2.2.2.2.2.1 (va_Qv post (qx_B G (qx_w0 ad)) G.2.2) K.2.2.2.2.2.2.1 K.2.2.2.2.1 0 0 G.2.2) (qx_w0 ad) σ 0 [(0, .ref (ad 7 0)), (1, .ref (ad 12 d1)), (2, .int p2)] [] from ?_)
  refine qx_aload_n (pc := 0) X 0 dX5_endCall_0 rfl rfl ?_
  refine qx_iconst (v := 1) (pc := 1) X dX5_endCall_1 (by decide) ?_
  refine qx_putz1 (f := 7) (i := 0) (pc := 2) X qx_pRX5_13 qx_me7 (Or.inr rfl) dX5_endCall_2 (fun s1 e2 => ?_)
  have hw := hw s1 e2
  refine qx_aload_n (pc := 5) X 0 dX5_endCall_5 rfl rfl ?_
  refine qx_aload_n (pc := 6) X 1 dX5_endCall_6 rfl rfl ?_
  refine qx_callVi (f := 12) (i := d1) (pc := 7) X [] [.ref (ad 7 0)] (kX1_hasThrown K.2.1 G t1 t2 ad d1 hd1 s1 _ hw) qx_mcX1_hasThrown qx_lRX5_63 qx_iX1_hasThrown qx_selX1_hasThrown (qx_me12 hd1) qx_rc12 rfl ⟨rfl, rfl⟩ (by rw [hR]; decide) rfl (Nat.le_of_ble_eq_true rfl) dX5_endCall_7 ⟨Nat.zero_le _, Nat.zero_le _⟩ (fun r4 s3 hw => ?_)
  refine qx_putz1 (f := 7) (i := 0) (pc := 10) X qx_pRX5_67 qx_me7 hw.1 dX5_endCall_10 (fun s5 e6 => ?_)
  have hw := hw.2
  have hw := hw s5 e6
  refine qx_aload_n (pc := 13) X 0 dX5_endCall_13 rfl rfl ?_
  refine qx_aload_n (pc := 14) X 0 dX5_endCall_14 rfl rfl ?_
  refine qx_geti (f := 7) (i := 0) (pc := 15) X qx_gRX5_67 qx_me7 dX5_endCall_15 ?_
  refine qx_if_eq (tgt := 28) (pc := 18) X dX5_endCall_18 (by decide) (fun c20 => ?_) (fun c20 => ?_)
  · have hw := hw.1 c20
    refine qx_aload_n (pc := 28) X 1 dX5_endCall_28 rfl rfl ?_
    refine qx_geti (f := 12) (i := d1) (pc := 29) X qx_gRX5_57 (qx_me12 hd1) dX5_endCall_29 ?_
    exact J32 p2 (s5 12 d1 13) s5 hw
  · have hw := hw.2 c20
    refine qx_aload_n (pc := 21) X 1 dX5_endCall_21 rfl rfl ?_
    refine qx_geti (f := 12) (i := d1) (pc := 22) X qx_gRX5_54 (qx_me12 hd1) dX5_endCall_22 ?_
    refine qx_goto (tgt := 32) (pc := 25) X dX5_endCall_25 (by decide) ?_
    exact J32 p2 (s5 12 d1 12) s5 hw
/-- runFrame with frames to a depth -/
def wRF : Nat → Int32 → Int32 → qx_St → (qx_St → Prop) → Prop
  | 0, _, _, _, _ => False
  | k + 1, p1, p2, σ, post => wX2_runFrame (wRF k) p1 p2 σ post
theorem kRF (l : Launch) (G : qx_Gx) (t1 t2 : Nat) (ad : Nat → Nat → Nat) : ∀ (k : Nat) (p1 p2 : Int32) (σ : qx_St) (post : qx_St → Prop), wRF k p1 p2 σ post → qx_Mv l G t1 t2 (qx_w0 ad) yX2_runFrame cX2_runFrame 8 none { frames := 4 * k + 10, cells := 0, slots := 0, locals := 200 * k + 300 } [.ref (ad 9 0), .int p1, .int p2] σ post
  | 0, _, _, _, _, hw => hw.elim
  | k + 1, p1, p2, σ, post, hw => kX2_runFrame l G t1 t2 ad (wRF k) k (kRF l G t1 t2 ad k) p1 p2 σ post hw
def wX2_runForUser (p1 : Int32) (p2 : Int32) (p3 : Int32) (p4 : Int32) (p5 : Int32) (p6 : Int32) (σ : qx_St) (post : qx_St → Prop) : Prop := wX8_startCall  σ (fun s1 => wX5_startCall  s1 (fun s3 => (vp_in (0 : Int32) 8 ∧ wX1_begin ((0 : Int32).toNatClampNeg) p2 p3 p4 p5 p6 s3 (fun s6 => (∀ s8, s8 = qx_st s6 12 (0 : Int32).toNatClampNeg 6 ((100 : Int32) + p1) → (∀ s10, s10 = qx_st s8 12 (0 : Int32).toNatClampNeg 7 (0 : Int32) → wRF 8 ((8 : Int32) + p1) (1 : Int32) s10 (fun s12 => wX1_used ((0 : Int32).toNatClampNeg) s12 (fun r15 s14 => wX1_used ((0 : Int32).toNatClampNeg) s14 (fun r17 s16 => wX8_move ((8 : Int32) + p1) (12 : Int32) (r17 - (if (r15 / (2 : Int32)) < (s12 3 0 4) then (r15 / (2 : Int32)) else (s12 3 0 4))) s16 (fun s18 => wX5_endCall ((0 : Int32).toNatClampNeg) (if (r15 / (2 : Int32)) < (s12 3 0 4) then (r15 / (2 : Int32)) else (s12 3 0 4)) s18 (fun s20 => post s20)))))))))))
set_option maxHeartbeats 4000000 in
set_option maxRecDepth 100000 in
theorem kX2_runForUser (l : Launch) (G : qx_Gx) (t1 t2 : Nat) (ad : Nat → Nat → Nat) (p1 : Int32) (p2 : Int32) (p3 : Int32) (p4 : Int32) (p5 : Int32) (p6 : Int32) (σ : qx_St) (post : qx_St → Prop) (hw : wX2_runForUser p1 p2 p3 p4 p5 p6 σ post) : qx_Mv l G t1 t2 (qx_w0 ad) yX2_runForUser cX2_runForUser 10 none { frames := 43, cells := 0, slots := 0, locals := 1927 } [.ref (ad 9 0), .int p1, .int p2, .int p3, .int p4, .int p5, .int p6] σ post := by
  unfold wX2_runForUser at hw
  refine qx_start qx_mcX2_runForUser (Nat.le_of_ble_eq_true rfl) (fun K hKl hR X hr hlk => ?_)
  subst hKl
  refine (show qx_V K G 10 0 0 (MQ K.2.2.2.2.2.2.2.1 (va_Qv post (qx_B G (qx_w0 ad)) G.2.2) K.2.2.2.2.2.2.1 K.2.2.2.2.1 0 0 G.2.2) (qx_w0 ad) σ 0 [(0, .ref (ad 9 0)), (1, .int p1), (2, .int p2), (3, .int p3), (4, .int p4), (5, .int p5), (6, .int p6)] [] from ?_)
  refine qx_bipush (v := 8) (pc := 0) X dX2_runForUser_0 (by decide) ?_
  refine qx_iload_n (pc := 2) X 1 dX2_runForUser_2 rfl rfl ?_
  refine qx_iadd (pc := 3) X dX2_runForUser_3 ?_
  refine qx_istore (lv' := [(7, .int ((8 : Int32) + p1)), (0, .ref (ad 9 0)), (1, .int p1), (2, .int p2), (3, .int p3), (4, .int p4), (5, .int p5), (6, .int p6)]) (pc := 4) X dX2_runForUser_4 (by decide) rfl ?_
  refine qx_aload_n (pc := 6) X 1 dX2_runForUser_6 rfl rfl ?_
  refine qx_getr (f := 9) (i := 0) (a := ad 3 0) (pc := 7) X qx_gRX2_27 qx_me9 rfl dX2_runForUser_7 ?_
  refine qx_callVv (f := 3) (i := 0) (pc := 10) X [] [] (kX8_startCall K.2.1 G t1 t2 ad  σ _ hw) qx_mcX8_startCall qx_lRX2_39 qx_iX8_startCall qx_selX8_startCall qx_me3 qx_rc3 rfl ⟨rfl, rfl⟩ (by rw [hR]; decide) rfl (Nat.le_of_ble_eq_true rfl) dX2_runForUser_10 ⟨Nat.zero_le _, Nat.zero_le _⟩ (fun s1 hw => ?_)
  refine qx_aload_n (pc := 13) X 1 dX2_runForUser_13 rfl rfl ?_
  refine qx_getr (f := 9) (i := 0) (a := ad 7 0) (pc := 14) X qx_gRX2_31 qx_me9 rfl dX2_runForUser_14 ?_
  refine qx_callVv (f := 7) (i := 0) (pc := 17) X [] [] (kX5_startCall K.2.1 G t1 t2 ad  s1 _ hw) qx_mcX5_startCall qx_lRX2_42 qx_iX5_startCall qx_selX5_startCall qx_me7 qx_rc7 rfl ⟨rfl, rfl⟩ (by rw [hR]; decide) rfl (Nat.le_of_ble_eq_true rfl) dX2_runForUser_17 ⟨Nat.zero_le _, Nat.zero_le _⟩ (fun s3 hw => ?_)
  refine qx_aload_n (pc := 20) X 1 dX2_runForUser_20 rfl rfl ?_
  refine qx_getr (f := 9) (i := 0) (a := ad 10 0) (pc := 21) X qx_gRX2_11 qx_me9 rfl dX2_runForUser_21 ?_
  refine qx_iconst (v := 0) (pc := 24) X dX2_runForUser_24 (by decide) ?_
  have hi5 := qx_lt hw.1
  refine qx_aald (f := 10) (i := 0) (a := ad 12 (0 : Int32).toNatClampNeg) (pc := 25) X rfl rfl qx_me10 hw.1 (qx_r0q (ad := ad) (f := 10) (i := 0) (k := 3) (n := 8) (tg := 12) rfl hi5) dX2_runForUser_25 ?_
  have hw := hw.2
  refine qx_astore (lv' := [(8, .ref (ad 12 (0 : Int32).toNatClampNeg)), (7, .int ((8 : Int32) + p1)), (0, .ref (ad 9 0)), (1, .int p1), (2, .int p2), (3, .int p3), (4, .int p4), (5, .int p5), (6, .int p6)]) (pc := 26) X dX2_runForUser_26 (by decide) rfl ?_
  refine qx_aload (pc := 28) X 0 dX2_runForUser_28 rfl ?_
  refine qx_iload_n (pc := 30) X 4 dX2_runForUser_30 rfl rfl ?_
  refine qx_iload_n (pc := 31) X 5 dX2_runForUser_31 rfl rfl ?_
  refine qx_iload (pc := 32) X 6 dX2_runForUser_32 rfl ?_
  refine qx_iload (pc := 34) X 7 dX2_runForUser_34 rfl ?_
  refine qx_iload (pc := 36) X 8 dX2_runForUser_36 rfl ?_
  refine qx_callVv (f := 12) (i := (0 : Int32).toNatClampNeg) (pc := 38) X [.int p2, .int p3, .int p4, .int p5, .int p6] [] (kX1_begin K.2.1 G t1 t2 ad ((0 : Int32).toNatClampNeg) p2 p3 p4 p5 p6 hi5 s3 _ hw) qx_mcX1_begin qx_lRX2_45 qx_iX1_begin qx_selX1_begin (qx_me12 hi5) qx_rc12 rfl ⟨rfl, rfl⟩ (by rw [hR]; decide) rfl (Nat.le_of_ble_eq_true rfl) dX2_runForUser_38 ⟨Nat.zero_le _, Nat.zero_le _⟩ (fun s6 hw => ?_)
  refine qx_aload (pc := 41) X 0 dX2_runForUser_41 rfl ?_
  refine qx_bipush (v := 100) (pc := 43) X dX2_runForUser_43 (by decide) ?_
  refine qx_iload_n (pc := 45) X 3 dX2_runForUser_45 rfl rfl ?_
  refine qx_iadd (pc := 46) X dX2_runForUser_46 ?_
  refine qx_puti1 (f := 12) (i := (0 : Int32).toNatClampNeg) (pc := 47) X qx_pRX2_49 (qx_me12 hi5) dX2_runForUser_47 (fun s8 e9 => ?_)
  have hw := hw s8 e9
  refine qx_aload (pc := 50) X 0 dX2_runForUser_50 rfl ?_
  refine qx_iconst (v := 0) (pc := 52) X dX2_runForUser_52 (by decide) ?_
  refine qx_putz1 (f := 12) (i := (0 : Int32).toNatClampNeg) (pc := 53) X qx_pRX2_53 (qx_me12 hi5) (Or.inl rfl) dX2_runForUser_53 (fun s10 e11 => ?_)
  have hw := hw s10 e11
  refine qx_aload_n (pc := 56) X 2 dX2_runForUser_56 rfl rfl ?_
  refine qx_iload (pc := 57) X 1 dX2_runForUser_57 rfl ?_
  refine qx_iconst (v := 1) (pc := 59) X dX2_runForUser_59 (by decide) ?_
  refine qx_callVv (f := 9) (i := 0) (pc := 60) X [.int ((8 : Int32) + p1), .int (1 : Int32)] [] (kRF K.2.1 G t1 t2 ad 8 ((8 : Int32) + p1) (1 : Int32) s10 _ hw) qx_mcX2_runFrame qx_lRX2_57 qx_iX2_runFrame qx_selX2_runFrame qx_me9 qx_rc9 rfl ⟨rfl, rfl⟩ (by rw [hR]; decide) rfl (Nat.le_of_ble_eq_true rfl) dX2_runForUser_60 ⟨Nat.zero_le _, Nat.zero_le _⟩ (fun s12 hw => ?_)
  refine qx_aload_n (pc := 63) X 2 dX2_runForUser_63 rfl rfl ?_
  refine qx_getr (f := 9) (i := 0) (a := ad 3 0) (pc := 64) X qx_gRX2_27 qx_me9 rfl dX2_runForUser_64 ?_
  refine qx_geti (f := 3) (i := 0) (pc := 67) X qx_gRX2_61 qx_me3 dX2_runForUser_67 ?_
  refine qx_aload (pc := 70) X 0 dX2_runForUser_70 rfl ?_
  refine qx_callVi (f := 12) (i := (0 : Int32).toNatClampNeg) (pc := 72) X [] [.int (s12 3 0 4)] (kX1_used K.2.1 G t1 t2 ad ((0 : Int32).toNatClampNeg) hi5 s12 _ hw) qx_mcX1_used qx_lRX2_64 qx_iX1_used qx_selX1_used (qx_me12 hi5) qx_rc12 rfl ⟨rfl, rfl⟩ (by rw [hR]; decide) rfl (Nat.le_of_ble_eq_true rfl) dX2_runForUser_72 ⟨Nat.zero_le _, Nat.zero_le _⟩ (fun r15 s14 hw => ?_)
  refine qx_iconst (v := 2) (pc := 75) X dX2_runForUser_75 (by decide) ?_
  refine qx_idiv (pc := 76) X dX2_runForUser_76 (by decide) ?_
  refine qx_mmin (pc := 77) X qx_lRX2_68 (by rw [hR]; decide) (by rw [hR]; exact Nat.le_of_ble_eq_true rfl) (Nat.zero_le _) (Nat.zero_le _) dX2_runForUser_77 ?_
  refine qx_istore (lv' := [(9, .int (if (r15 / (2 : Int32)) < (s12 3 0 4) then (r15 / (2 : Int32)) else (s12 3 0 4))), (8, .ref (ad 12 (0 : Int32).toNatClampNeg)), (7, .int ((8 : Int32) + p1)), (0, .ref (ad 9 0)), (1, .int p1), (2, .int p2), (3, .int p3), (4, .int p4), (5, .int p5), (6, .int p6)]) (pc := 80) X dX2_runForUser_80 (by decide) rfl ?_
  refine qx_aload_n (pc := 82) X 3 dX2_runForUser_82 rfl rfl ?_
  refine qx_getr (f := 9) (i := 0) (a := ad 3 0) (pc := 83) X qx_gRX2_27 qx_me9 rfl dX2_runForUser_83 ?_
  refine qx_iload (pc := 86) X 2 dX2_runForUser_86 rfl ?_
  refine qx_bipush (v := 12) (pc := 88) X dX2_runForUser_88 (by decide) ?_
  refine qx_aload (pc := 90) X 1 dX2_runForUser_90 rfl ?_
  refine qx_callVi (f := 12) (i := (0 : Int32).toNatClampNeg) (pc := 92) X [] [.int (12 : Int32), .int ((8 : Int32) + p1), .ref (ad 3 0)] (kX1_used K.2.1 G t1 t2 ad ((0 : Int32).toNatClampNeg) hi5 s14 _ hw) qx_mcX1_used qx_lRX2_64 qx_iX1_used qx_selX1_used (qx_me12 hi5) qx_rc12 rfl ⟨rfl, rfl⟩ (by rw [hR]; decide) rfl (Nat.le_of_ble_eq_true rfl) dX2_runForUser_92 ⟨Nat.zero_le _, Nat.zero_le _⟩ (fun r17 s16 hw => ?_)
  refine qx_iload (pc := 95) X 0 dX2_runForUser_95 rfl ?_
  refine qx_isub (pc := 97) X dX2_runForUser_97 ?_
  refine qx_callVv (f := 3) (i := 0) (pc := 98) X [.int ((8 : Int32) + p1), .int (12 : Int32), .int (r17 - (if (r15 / (2 : Int32)) < (s12 3 0 4) then (r15 / (2 : Int32)) else (s12 3 0 4)))] [] (kX8_move K.2.1 G t1 t2 ad ((8 : Int32) + p1) (12 : Int32) (r17 - (if (r15 / (2 : Int32)) < (s12 3 0 4) then (r15 / (2 : Int32)) else (s12 3 0 4))) s16 _ hw) qx_mcX8_move qx_lRX2_74 qx_iX8_move qx_selX8_move qx_me3 qx_rc3 rfl ⟨rfl, rfl⟩ (by rw [hR]; decide) rfl (Nat.le_of_ble_eq_true rfl) dX2_runForUser_98 ⟨Nat.zero_le _, Nat.zero_le _⟩ (fun s18 hw => ?_)
  refine qx_aload_n (pc := 101) X 3 dX2_runForUser_101 rfl rfl ?_
  refine qx_getr (f := 9) (i := 0) (a := ad 7 0) (pc := 102) X qx_gRX2_31 qx_me9 rfl dX2_runForUser_102 ?_
  refine qx_aload (pc := 105) X 1 dX2_runForUser_105 rfl ?_
  refine qx_iload (pc := 107) X 0 dX2_runForUser_107 rfl ?_
  refine qx_callVv (f := 7) (i := 0) (pc := 109) X [.ref (ad 12 (0 : Int32).toNatClampNeg), .int (if (r15 / (2 : Int32)) < (s12 3 0 4) then (r15 / (2 : Int32)) else (s12 3 0 4))] [] (kX5_endCall K.2.1 G t1 t2 ad ((0 : Int32).toNatClampNeg) (if (r15 / (2 : Int32)) < (s12 3 0 4) then (r15 / (2 : Int32)) else (s12 3 0 4)) hi5 s18 _ hw) qx_mcX5_endCall qx_lRX2_78 qx_iX5_endCall qx_selX5_endCall qx_me7 qx_rc7 rfl ⟨rfl, rfl⟩ (by rw [hR]; decide) rfl (Nat.le_of_ble_eq_true rfl) dX2_runForUser_109 ⟨Nat.zero_le _, Nat.zero_le _⟩ (fun s20 hw => ?_)
  exact qx_vret (pc := 112) X hr hlk hw dX2_runForUser_112
def wX3_append (d0 : Nat) (p1 : Int32) (p2 : Int32) (p3 : Int32) (σ : qx_St) (post : qx_St → Prop) : Prop := (vp_in (σ 17 d0 3) 20 ∧ (∀ s1, s1 = qx_st σ 18 d0 (σ 17 d0 3).toNatClampNeg p1 → (vp_in (s1 17 d0 3) 20 ∧ (∀ s3, s3 = qx_st s1 19 d0 (s1 17 d0 3).toNatClampNeg p2 → (vp_in (s3 17 d0 3) 20 ∧ (∀ s5, s5 = qx_st s3 20 d0 (s3 17 d0 3).toNatClampNeg p3 → (∀ s7, s7 = qx_st s5 17 d0 3 ((s5 17 d0 3) + (1 : Int32)) → post s7)))))))
set_option maxHeartbeats 4000000 in
set_option maxRecDepth 100000 in
theorem kX3_append (l : Launch) (G : qx_Gx) (t1 t2 : Nat) (ad : Nat → Nat → Nat) (d0 : Nat) (p1 : Int32) (p2 : Int32) (p3 : Int32) (hd0 : d0 < 32) (σ : qx_St) (post : qx_St → Prop) (hw : wX3_append d0 p1 p2 p3 σ post) : qx_Mv l G t1 t2 (qx_w0 ad) yX3_append cX3_append 4 none { frames := 0, cells := 0, slots := 0, locals := 0 } [.ref (ad 17 d0), .int p1, .int p2, .int p3] σ post := by
  unfold wX3_append at hw
  refine qx_start qx_mcX3_append (Nat.le_of_ble_eq_true rfl) (fun K hKl hR X hr hlk => ?_)
  subst hKl
  refine (show qx_V K G 4 0 0 (MQ K.2.2.2.2.2.2.2.1 (va_Qv post (qx_B G (qx_w0 ad)) G.2.2) K.2.2.2.2.2.2.1 K.2.2.2.2.1 0 0 G.2.2) (qx_w0 ad) σ 0 [(0, .ref (ad 17 d0)), (1, .int p1), (2, .int p2), (3, .int p3)] [] from ?_)
  refine qx_aload_n (pc := 0) X 0 dX3_append_0 rfl rfl ?_
  refine qx_getr (f := 17) (i := d0) (a := ad 18 d0) (pc := 1) X qx_gRX3_9 (qx_me17 hd0) rfl dX3_append_1 ?_
  refine qx_aload_n (pc := 4) X 0 dX3_append_4 rfl rfl ?_
  refine qx_geti (f := 17) (i := d0) (pc := 5) X qx_gRX3_21 (qx_me17 hd0) dX3_append_5 ?_
  refine qx_iload_n (pc := 8) X 1 dX3_append_8 rfl rfl ?_
  refine qx_iast1 (f := 18) (i := d0) (pc := 9) X rfl (qx_me18 hd0) hw.1 dX3_append_9 (fun s1 e2 => ?_)
  have hw := hw.2
  have hw := hw s1 e2
  refine qx_aload_n (pc := 10) X 0 dX3_append_10 rfl rfl ?_
  refine qx_getr (f := 17) (i := d0) (a := ad 19 d0) (pc := 11) X qx_gRX3_15 (qx_me17 hd0) rfl dX3_append_11 ?_
  refine qx_aload_n (pc := 14) X 0 dX3_append_14 rfl rfl ?_
  refine qx_geti (f := 17) (i := d0) (pc := 15) X qx_gRX3_21 (qx_me17 hd0) dX3_append_15 ?_
  refine qx_iload_n (pc := 18) X 2 dX3_append_18 rfl rfl ?_
  refine qx_iast1 (f := 19) (i := d0) (pc := 19) X rfl (qx_me19 hd0) hw.1 dX3_append_19 (fun s3 e4 => ?_)
  have hw := hw.2
  have hw := hw s3 e4
  refine qx_aload_n (pc := 20) X 0 dX3_append_20 rfl rfl ?_
  refine qx_getr (f := 17) (i := d0) (a := ad 20 d0) (pc := 21) X qx_gRX3_18 (qx_me17 hd0) rfl dX3_append_21 ?_
  refine qx_aload_n (pc := 24) X 0 dX3_append_24 rfl rfl ?_
  refine qx_geti (f := 17) (i := d0) (pc := 25) X qx_gRX3_21 (qx_me17 hd0) dX3_append_25 ?_
  refine qx_iload_n (pc := 28) X 3 dX3_append_28 rfl rfl ?_
  refine qx_iast1 (f := 20) (i := d0) (pc := 29) X rfl (qx_me20 hd0) hw.1 dX3_append_29 (fun s5 e6 => ?_)
  have hw := hw.2
  have hw := hw s5 e6
  refine qx_aload_n (pc := 30) X 0 dX3_append_30 rfl rfl ?_
  refine qx_dup (pc := 31) X dX3_append_31 rfl ?_
  refine qx_geti (f := 17) (i := d0) (pc := 32) X qx_gRX3_21 (qx_me17 hd0) dX3_append_32 ?_
  refine qx_iconst (v := 1) (pc := 35) X dX3_append_35 (by decide) ?_
  refine qx_iadd (pc := 36) X dX3_append_36 ?_
  refine qx_puti1 (f := 17) (i := d0) (pc := 37) X qx_pRX3_21 (qx_me17 hd0) dX3_append_37 (fun s7 e8 => ?_)
  have hw := hw s7 e8
  exact qx_vret (pc := 40) X hr hlk hw dX3_append_40
def wX4_stepsInAll_l4 (post : Int32 → qx_St → Prop) : Nat → Int32 → Int32 → qx_St → Prop
  | 0, _, _, _ => False
  | n + 1, a1, a2, σ => (((32 : Int32) ≤ a2 → post a1 σ) ∧ (¬ ((32 : Int32) ≤ a2) → (vp_in a2 32 ∧ wX4_stepsInAll_l4 post n (a1 + (σ 17 a2.toNatClampNeg 3)) (a2 + 1) σ)))
def wX4_stepsInAll (σ : qx_St) (post : Int32 → qx_St → Prop) : Prop := ∃ n, wX4_stepsInAll_l4 post n (0 : Int32) (0 : Int32) σ
set_option maxHeartbeats 4000000 in
set_option maxRecDepth 100000 in
theorem kX4_stepsInAll (l : Launch) (G : qx_Gx) (t1 t2 : Nat) (ad : Nat → Nat → Nat) (σ : qx_St) (post : Int32 → qx_St → Prop) (hw : wX4_stepsInAll  σ post) : qx_Mi l G t1 t2 (qx_w0 ad) yX4_stepsInAll cX4_stepsInAll 3 (some .int) { frames := 0, cells := 0, slots := 0, locals := 0 } [.ref (ad 1 0)] σ post := by
  unfold wX4_stepsInAll at hw
  refine qx_start qx_mcX4_stepsInAll (Nat.le_of_ble_eq_true rfl) (fun K hKl hR X hr hlk => ?_)
  subst hKl
  have L4 : ∀ (n : Nat) (a1 : Int32) (a2 : Int32) (σ : qx_St), wX4_stepsInAll_l4 post n a1 a2 σ → qx_V K G 3 0 0 (MQ K.2.2.2.2.2.2.2.1 (va_Qi post (qx_B G (qx_w0 ad)) G.2.2) K.2.2.2.2.2.2.1 K.2.2.2.2.1 0 0 G.2.2) (qx_w0 ad) σ 4 [(0, .ref (ad 1 0)), (1, .int a1), (2, .int a2)] [] := by
    intro n
    induction n with
    | zero => intro a1 a2 σ hw; exact hw.elim
    | succ n ih =>
      intro a1 a2 σ hw
      refine qx_iload_n (pc := 4) X 2 dX4_stepsInAll_4 rfl rfl ?_
      refine qx_aload_n (pc := 5) X 0 dX4_stepsInAll_5 rfl rfl ?_
      refine qx_getr (f := 1) (i := 0) (a := ad 2 0) (pc := 6) X qx_gRX4_11 qx_me1 rfl dX4_stepsInAll_6 ?_
      refine qx_alenq (f := 2) (i := 0) (v := 32) (pc := 9) X rfl rfl qx_me2 rfl dX4_stepsInAll_9 ?_
      refine qx_icmp_ge (tgt := 31) (pc := 10) X dX4_stepsInAll_10 (by decide) (fun c2 => ?_) (fun c2 => ?_)
      · have hw := hw.1 c2
        refine qx_iload_n (pc := 31) X 1 dX4_stepsInAll_31 rfl rfl ?_
        exact qx_iret (pc := 32) X hr hlk hw dX4_stepsInAll_32
      · have hw := hw.2 c2
        refine qx_iload_n (pc := 13) X 1 dX4_stepsInAll_13 rfl rfl ?_
        refine qx_aload_n (pc := 14) X 0 dX4_stepsInAll_14 rfl rfl ?_
        refine qx_getr (f := 1) (i := 0) (a := ad 2 0) (pc := 15) X qx_gRX4_11 qx_me1 rfl dX4_stepsInAll_15 ?_
        refine qx_iload_n (pc := 18) X 2 dX4_stepsInAll_18 rfl rfl ?_
        have hi1 := qx_lt hw.1
        refine qx_aald (f := 2) (i := 0) (a := ad 17 a2.toNatClampNeg) (pc := 19) X rfl rfl qx_me2 hw.1 (qx_r0q (ad := ad) (f := 2) (i := 0) (k := 2) (n := 32) (tg := 17) rfl hi1) dX4_stepsInAll_19 ?_
        have hw := hw.2
        refine qx_geti (f := 17) (i := a2.toNatClampNeg) (pc := 20) X qx_gRX4_22 (qx_me17 hi1) dX4_stepsInAll_20 ?_
        refine qx_iadd (pc := 23) X dX4_stepsInAll_23 ?_
        refine qx_istore_n (lv' := [(1, .int (a1 + (σ 17 a2.toNatClampNeg 3))), (0, .ref (ad 1 0)), (2, .int a2)]) (pc := 24) X dX4_stepsInAll_24 rfl (by decide) rfl ?_
        refine qx_iinc (v := (a2 + 1)) (lv' := [(2, .int (a2 + 1)), (1, .int (a1 + (σ 17 a2.toNatClampNeg 3))), (0, .ref (ad 1 0))]) (pc := 25) X 2 dX4_stepsInAll_25 rfl rfl (by decide) rfl ?_
        refine qx_goto (tgt := 4) (pc := 28) X dX4_stepsInAll_28 (by decide) ?_
        refine qx_lsub [2, 1, 0] rfl ?_
        exact ih (a1 + (σ 17 a2.toNatClampNeg 3)) (a2 + 1) σ hw
  refine (show qx_V K G 3 0 0 (MQ K.2.2.2.2.2.2.2.1 (va_Qi post (qx_B G (qx_w0 ad)) G.2.2) K.2.2.2.2.2.2.1 K.2.2.2.2.1 0 0 G.2.2) (qx_w0 ad) σ 0 [(0, .ref (ad 1 0))] [] from ?_)
  refine qx_iconst (v := 0) (pc := 0) X dX4_stepsInAll_0 (by decide) ?_
  refine qx_istore_n (lv' := [(1, .int (0 : Int32)), (0, .ref (ad 1 0))]) (pc := 1) X dX4_stepsInAll_1 rfl (by decide) rfl ?_
  refine qx_iconst (v := 0) (pc := 2) X dX4_stepsInAll_2 (by decide) ?_
  refine qx_istore_n (lv' := [(2, .int (0 : Int32)), (1, .int (0 : Int32)), (0, .ref (ad 1 0))]) (pc := 3) X dX4_stepsInAll_3 rfl (by decide) rfl ?_
  refine qx_lsub [2, 1, 0] rfl ?_
  obtain ⟨n, hw⟩ := hw
  exact L4 n (0 : Int32) (0 : Int32) σ hw
def wX4_reset_l7 (post : qx_St → Prop) : Nat → Int32 → qx_St → Prop
  | 0, _, _ => False
  | n + 1, a1, σ => (((32 : Int32) ≤ a1 → post σ) ∧ (¬ ((32 : Int32) ≤ a1) → (vp_in a1 32 ∧ (∀ s4, s4 = qx_st σ 17 a1.toNatClampNeg 3 (0 : Int32) → (vp_in a1 32 ∧ (∀ s7, s7 = qx_st s4 17 a1.toNatClampNeg 4 (0 : Int32) → wX4_reset_l7 post n (a1 + 1) s7))))))
def wX4_reset (σ : qx_St) (post : qx_St → Prop) : Prop := (∀ s1, s1 = qx_st σ 1 0 1 (0 : Int32) → ∃ n, wX4_reset_l7 post n (0 : Int32) s1)
set_option maxHeartbeats 4000000 in
set_option maxRecDepth 100000 in
theorem kX4_reset (l : Launch) (G : qx_Gx) (t1 t2 : Nat) (ad : Nat → Nat → Nat) (σ : qx_St) (post : qx_St → Prop) (hw : wX4_reset  σ post) : qx_Mv l G t1 t2 (qx_w0 ad) yX4_reset cX4_reset 2 none { frames := 0, cells := 0, slots := 0, locals := 0 } [.ref (ad 1 0)] σ post := by
  unfold wX4_reset at hw
  refine qx_start qx_mcX4_reset (Nat.le_of_ble_eq_true rfl) (fun K hKl hR X hr hlk => ?_)
  subst hKl
  have L7 : ∀ (n : Nat) (a1 : Int32) (σ : qx_St), wX4_reset_l7 post n a1 σ → qx_V K G 2 0 0 (MQ K.2.2.2.2.2.2.2.1 (va_Qv post (qx_B G (qx_w0 ad)) G.2.2) K.2.2.2.2.2.2.1 K.2.2.2.2.1 0 0 G.2.2) (qx_w0 ad) σ 7 [(0, .ref (ad 1 0)), (1, .int a1)] [] := by
    intro n
    induction n with
    | zero => intro a1 σ hw; exact hw.elim
    | succ n ih =>
      intro a1 σ hw
      refine qx_iload_n (pc := 7) X 1 dX4_reset_7 rfl rfl ?_
      refine qx_aload_n (pc := 8) X 0 dX4_reset_8 rfl rfl ?_
      refine qx_getr (f := 1) (i := 0) (a := ad 2 0) (pc := 9) X qx_gRX4_11 qx_me1 rfl dX4_reset_9 ?_
      refine qx_alenq (f := 2) (i := 0) (v := 32) (pc := 12) X rfl rfl qx_me2 rfl dX4_reset_12 ?_
      refine qx_icmp_ge (tgt := 42) (pc := 13) X dX4_reset_13 (by decide) (fun c9 => ?_) (fun c9 => ?_)
      · have hw := hw.1 c9
        exact qx_vret (pc := 42) X hr hlk hw dX4_reset_42
      · have hw := hw.2 c9
        refine qx_aload_n (pc := 16) X 0 dX4_reset_16 rfl rfl ?_
        refine qx_getr (f := 1) (i := 0) (a := ad 2 0) (pc := 17) X qx_gRX4_11 qx_me1 rfl dX4_reset_17 ?_
        refine qx_iload_n (pc := 20) X 1 dX4_reset_20 rfl rfl ?_
        have hi3 := qx_lt hw.1
        refine qx_aald (f := 2) (i := 0) (a := ad 17 a1.toNatClampNeg) (pc := 21) X rfl rfl qx_me2 hw.1 (qx_r0q (ad := ad) (f := 2) (i := 0) (k := 2) (n := 32) (tg := 17) rfl hi3) dX4_reset_21 ?_
        have hw := hw.2
        refine qx_iconst (v := 0) (pc := 22) X dX4_reset_22 (by decide) ?_
        refine qx_puti1 (f := 17) (i := a1.toNatClampNeg) (pc := 23) X qx_pRX4_22 (qx_me17 hi3) dX4_reset_23 (fun s4 e5 => ?_)
        have hw := hw s4 e5
        refine qx_aload_n (pc := 26) X 0 dX4_reset_26 rfl rfl ?_
        refine qx_getr (f := 1) (i := 0) (a := ad 2 0) (pc := 27) X qx_gRX4_11 qx_me1 rfl dX4_reset_27 ?_
        refine qx_iload_n (pc := 30) X 1 dX4_reset_30 rfl rfl ?_
        have hi6 := qx_lt hw.1
        refine qx_aald (f := 2) (i := 0) (a := ad 17 a1.toNatClampNeg) (pc := 31) X rfl rfl qx_me2 hw.1 (qx_r0q (ad := ad) (f := 2) (i := 0) (k := 2) (n := 32) (tg := 17) rfl hi6) dX4_reset_31 ?_
        have hw := hw.2
        refine qx_iconst (v := 0) (pc := 32) X dX4_reset_32 (by decide) ?_
        refine qx_putz1 (f := 17) (i := a1.toNatClampNeg) (pc := 33) X qx_pRX4_25 (qx_me17 hi6) (Or.inl rfl) dX4_reset_33 (fun s7 e8 => ?_)
        have hw := hw s7 e8
        refine qx_iinc (v := (a1 + 1)) (lv' := [(1, .int (a1 + 1)), (0, .ref (ad 1 0))]) (pc := 36) X 1 dX4_reset_36 rfl rfl (by decide) rfl ?_
        refine qx_goto (tgt := 7) (pc := 39) X dX4_reset_39 (by decide) ?_
        refine qx_lsub [1, 0] rfl ?_
        exact ih (a1 + 1) s7 hw
  refine (show qx_V K G 2 0 0 (MQ K.2.2.2.2.2.2.2.1 (va_Qv post (qx_B G (qx_w0 ad)) G.2.2) K.2.2.2.2.2.2.1 K.2.2.2.2.1 0 0 G.2.2) (qx_w0 ad) σ 0 [(0, .ref (ad 1 0))] [] from ?_)
  refine qx_aload_n (pc := 0) X 0 dX4_reset_0 rfl rfl ?_
  refine qx_iconst (v := 0) (pc := 1) X dX4_reset_1 (by decide) ?_
  refine qx_puti1 (f := 1) (i := 0) (pc := 2) X qx_pRX4_18 qx_me1 dX4_reset_2 (fun s1 e2 => ?_)
  have hw := hw s1 e2
  refine qx_iconst (v := 0) (pc := 5) X dX4_reset_5 (by decide) ?_
  refine qx_istore_n (lv' := [(1, .int (0 : Int32)), (0, .ref (ad 1 0))]) (pc := 6) X dX4_reset_6 rfl (by decide) rfl ?_
  refine qx_lsub [1, 0] rfl ?_
  obtain ⟨n, hw⟩ := hw
  exact L7 n (0 : Int32) s1 hw
def wX5_reset (σ : qx_St) (post : qx_St → Prop) : Prop := (∀ s1, s1 = qx_st σ 7 0 1 (0 : Int32) → (∀ s3, s3 = qx_st s1 7 0 8 (0 : Int32) → (∀ s5, s5 = qx_st s3 7 0 9 (0 : Int32) → wX5_startCall  s5 (fun s7 => post s7))))
set_option maxHeartbeats 4000000 in
set_option maxRecDepth 100000 in
theorem kX5_reset (l : Launch) (G : qx_Gx) (t1 t2 : Nat) (ad : Nat → Nat → Nat) (σ : qx_St) (post : qx_St → Prop) (hw : wX5_reset  σ post) : qx_Mv l G t1 t2 (qx_w0 ad) yX5_reset cX5_reset 1 none { frames := 1, cells := 0, slots := 0, locals := 20 } [.ref (ad 7 0)] σ post := by
  unfold wX5_reset at hw
  refine qx_start qx_mcX5_reset (Nat.le_of_ble_eq_true rfl) (fun K hKl hR X hr hlk => ?_)
  subst hKl
  refine (show qx_V K G 1 0 0 (MQ K.2.2.2.2.2.2.2.1 (va_Qv post (qx_B G (qx_w0 ad)) G.2.2) K.2.2.2.2.2.2.1 K.2.2.2.2.1 0 0 G.2.2) (qx_w0 ad) σ 0 [(0, .ref (ad 7 0))] [] from ?_)
  refine qx_aload_n (pc := 0) X 0 dX5_reset_0 rfl rfl ?_
  refine qx_iconst (v := 0) (pc := 1) X dX5_reset_1 (by decide) ?_
  refine qx_putz1 (f := 7) (i := 0) (pc := 2) X qx_pRX5_13 qx_me7 (Or.inl rfl) dX5_reset_2 (fun s1 e2 => ?_)
  have hw := hw s1 e2
  refine qx_aload_n (pc := 5) X 0 dX5_reset_5 rfl rfl ?_
  refine qx_iconst (v := 0) (pc := 6) X dX5_reset_6 (by decide) ?_
  refine qx_puti1 (f := 7) (i := 0) (pc := 7) X qx_pRX5_17 qx_me7 dX5_reset_7 (fun s3 e4 => ?_)
  have hw := hw s3 e4
  refine qx_aload_n (pc := 10) X 0 dX5_reset_10 rfl rfl ?_
  refine qx_iconst (v := 0) (pc := 11) X dX5_reset_11 (by decide) ?_
  refine qx_puti1 (f := 7) (i := 0) (pc := 12) X qx_pRX5_21 qx_me7 dX5_reset_12 (fun s5 e6 => ?_)
  have hw := hw s5 e6
  refine qx_aload_n (pc := 15) X 0 dX5_reset_15 rfl rfl ?_
  refine qx_callVv (f := 7) (i := 0) (pc := 16) X [] [] (kX5_startCall K.2.1 G t1 t2 ad  s5 _ hw) qx_mcX5_startCall qx_lRX5_24 qx_iX5_startCall qx_selX5_startCall qx_me7 qx_rc7 rfl ⟨rfl, rfl⟩ (by rw [hR]; decide) rfl (Nat.le_of_ble_eq_true rfl) dX5_reset_16 ⟨Nat.zero_le _, Nat.zero_le _⟩ (fun s7 hw => ?_)
  exact qx_vret (pc := 19) X hr hlk hw dX5_reset_19
def wX5_rowsKept (σ : qx_St) (post : Int32 → qx_St → Prop) : Prop := post (if (40 : Int32) < (σ 7 0 6) then (40 : Int32) else (σ 7 0 6)) σ
set_option maxHeartbeats 4000000 in
set_option maxRecDepth 100000 in
theorem kX5_rowsKept (l : Launch) (G : qx_Gx) (t1 t2 : Nat) (ad : Nat → Nat → Nat) (σ : qx_St) (post : Int32 → qx_St → Prop) (hw : wX5_rowsKept  σ post) : qx_Mi l G t1 t2 (qx_w0 ad) yX5_rowsKept cX5_rowsKept 1 (some .int) { frames := 1, cells := 0, slots := 0, locals := 24 } [.ref (ad 7 0)] σ post := by
  unfold wX5_rowsKept at hw
  refine qx_start qx_mcX5_rowsKept (Nat.le_of_ble_eq_true rfl) (fun K hKl hR X hr hlk => ?_)
  subst hKl
  refine (show qx_V K G 1 0 0 (MQ K.2.2.2.2.2.2.2.1 (va_Qi post (qx_B G (qx_w0 ad)) G.2.2) K.2.2.2.2.2.2.1 K.2.2.2.2.1 0 0 G.2.2) (qx_w0 ad) σ 0 [(0, .ref (ad 7 0))] [] from ?_)
  refine qx_aload_n (pc := 0) X 0 dX5_rowsKept_0 rfl rfl ?_
  refine qx_geti (f := 7) (i := 0) (pc := 1) X qx_gRX5_27 qx_me7 dX5_rowsKept_1 ?_
  refine qx_bipush (v := 40) (pc := 4) X dX5_rowsKept_4 (by decide) ?_
  refine qx_mmin (pc := 6) X qx_lRX5_33 (by rw [hR]; decide) (by rw [hR]; exact Nat.le_of_ble_eq_true rfl) (Nat.zero_le _) (Nat.zero_le _) dX5_rowsKept_6 ?_
  exact qx_iret (pc := 9) X hr hlk hw dX5_rowsKept_9
def wJ7_rangeCheck_23922 (p0 : Int32) (p1 : Int32) (p2 : Int32) (σ : qx_St) (post : qx_St → Prop) : Prop := ((p1 ≤ p2 → ((0 ≤ p1 → ((p2 ≤ p0 → post σ) ∧ (¬ (p2 ≤ p0) → False))) ∧ (¬ (0 ≤ p1) → False))) ∧ (¬ (p1 ≤ p2) → False))
set_option maxHeartbeats 4000000 in
set_option maxRecDepth 100000 in
theorem kJ7_rangeCheck_23922 (l : Launch) (G : qx_Gx) (t1 t2 : Nat) (ad : Nat → Nat → Nat) (p0 : Int32) (p1 : Int32) (p2 : Int32) (σ : qx_St) (post : qx_St → Prop) (hw : wJ7_rangeCheck_23922 p0 p1 p2 σ post) : qx_Mv l G t1 t2 (qx_w0 ad) yJ7_rangeCheck_23922 cJ7_rangeCheck_23922 3 none { frames := 0, cells := 0, slots := 0, locals := 0 } [.int p0, .int p1, .int p2] σ post := by
  unfold wJ7_rangeCheck_23922 at hw
  refine qx_start qx_mcJ7_rangeCheck_23922 (Nat.le_of_ble_eq_true rfl) (fun K hKl hR X hr hlk => ?_)
  subst hKl
  refine (show qx_V K G 3 0 0 (MQ K.2.2.2.2.2.2.2.1 (va_Qv post (qx_B G (qx_w0 ad)) G.2.2) K.2.2.2.2.2.2.1 K.2.2.2.2.1 0 0 G.2.2) (qx_w0 ad) σ 0 [(0, .int p0), (1, .int p1), (2, .int p2)] [] from ?_)
  refine qx_iload_n (pc := 0) X 1 dJ7_rangeCheck_23922_0 rfl rfl ?_
  refine qx_iload_n (pc := 1) X 2 dJ7_rangeCheck_23922_1 rfl rfl ?_
  refine qx_icmp_le (tgt := 46) (pc := 2) X dJ7_rangeCheck_23922_2 (by decide) (fun c3 => ?_) (fun c3 => ?_)
  · have hw := hw.1 c3
    refine qx_iload_n (pc := 46) X 1 dJ7_rangeCheck_23922_46 rfl rfl ?_
    refine qx_if_ge (tgt := 59) (pc := 47) X dJ7_rangeCheck_23922_47 (by decide) (fun c2 => ?_) (fun c2 => ?_)
    · have hw := hw.1 c2
      refine qx_iload_n (pc := 59) X 2 dJ7_rangeCheck_23922_59 rfl rfl ?_
      refine qx_iload_n (pc := 60) X 0 dJ7_rangeCheck_23922_60 rfl rfl ?_
      refine qx_icmp_le (tgt := 73) (pc := 61) X dJ7_rangeCheck_23922_61 (by decide) (fun c1 => ?_) (fun c1 => ?_)
      · have hw := hw.1 c1
        exact qx_vret (pc := 73) X hr hlk hw dJ7_rangeCheck_23922_73
      · have hw := hw.2 c1
        exact hw.elim
    · have hw := hw.2 c2
      exact hw.elim
  · have hw := hw.2 c3
    exact hw.elim
def wJ7_fill_fda19_l10 (f0 : Nat) (i0 : Nat) (n0 : Nat) (p1 : Int32) (p2 : Int32) (p3 : Int32) (post : qx_St → Prop) : Nat → Int32 → Int32 → Int32 → Int32 → qx_St → Prop
  | 0, _, _, _, _, _ => False
  | n + 1, a1, a2, a3, a4, σ => ((a2 ≤ a4 → post σ) ∧ (¬ (a2 ≤ a4) → (vp_in a4 n0 ∧ (∀ s3, s3 = qx_st σ f0 i0 a4.toNatClampNeg a3 → wJ7_fill_fda19_l10 f0 i0 n0 p1 p2 p3 post n a1 a2 a3 (a4 + 1) s3))))
def wJ7_fill_fda19 (f0 : Nat) (i0 : Nat) (n0 : Nat) (p1 : Int32) (p2 : Int32) (p3 : Int32) (σ : qx_St) (post : qx_St → Prop) : Prop := wJ7_rangeCheck_23922 (Int32.ofNat n0) p1 p2 σ (fun s1 => ∃ n, wJ7_fill_fda19_l10 f0 i0 n0 p1 p2 p3 post n p1 p2 p3 p1 s1)
set_option maxHeartbeats 4000000 in
set_option maxRecDepth 100000 in
theorem kJ7_fill_fda19 (l : Launch) (G : qx_Gx) (t1 t2 : Nat) (ad : Nat → Nat → Nat) (f0 : Nat) (i0 : Nat) (n0 : Nat) (p1 : Int32) (p2 : Int32) (p3 : Int32) (hs0 : qx_sh f0 = .inr (.inl (0, n0))) (hm0 : (f0, i0) ∈ (qx_w0 ad).1) (σ : qx_St) (post : qx_St → Prop) (hw : wJ7_fill_fda19 f0 i0 n0 p1 p2 p3 σ post) : qx_Mv l G t1 t2 (qx_w0 ad) yJ7_fill_fda19 cJ7_fill_fda19 5 none { frames := 1, cells := 0, slots := 0, locals := 22 } [.ref (ad f0 i0), .int p1, .int p2, .int p3] σ post := by
  unfold wJ7_fill_fda19 at hw
  refine qx_start qx_mcJ7_fill_fda19 (Nat.le_of_ble_eq_true rfl) (fun K hKl hR X hr hlk => ?_)
  subst hKl
  have L10 : ∀ (n : Nat) (a1 : Int32) (a2 : Int32) (a3 : Int32) (a4 : Int32) (σ : qx_St), wJ7_fill_fda19_l10 f0 i0 n0 p1 p2 p3 post n a1 a2 a3 a4 σ → qx_V K G 5 0 0 (MQ K.2.2.2.2.2.2.2.1 (va_Qv post (qx_B G (qx_w0 ad)) G.2.2) K.2.2.2.2.2.2.1 K.2.2.2.2.1 0 0 G.2.2) (qx_w0 ad) σ 10 [(0, .ref (ad f0 i0)), (1, .int a1), (2, .int a2), (3, .int a3), (4, .int a4)] [] := by
    intro n
    induction n with
    | zero => intro a1 a2 a3 a4 σ hw; exact hw.elim
    | succ n ih =>
      intro a1 a2 a3 a4 σ hw
      refine qx_iload (pc := 10) X 4 dJ7_fill_fda19_10 rfl ?_
      refine qx_iload_n (pc := 12) X 2 dJ7_fill_fda19_12 rfl rfl ?_
      refine qx_icmp_ge (tgt := 27) (pc := 13) X dJ7_fill_fda19_13 (by decide) (fun c5 => ?_) (fun c5 => ?_)
      · have hw := hw.1 c5
        exact qx_vret (pc := 27) X hr hlk hw dJ7_fill_fda19_27
      · have hw := hw.2 c5
        refine qx_aload_n (pc := 16) X 0 dJ7_fill_fda19_16 rfl rfl ?_
        refine qx_iload (pc := 17) X 4 dJ7_fill_fda19_17 rfl ?_
        refine qx_iload_n (pc := 19) X 3 dJ7_fill_fda19_19 rfl rfl ?_
        refine qx_iast1 (f := f0) (i := i0) (pc := 20) X hs0 hm0 hw.1 dJ7_fill_fda19_20 (fun s3 e4 => ?_)
        have hw := hw.2
        have hw := hw s3 e4
        refine qx_iinc (v := (a4 + 1)) (lv' := [(4, .int (a4 + 1)), (0, .ref (ad f0 i0)), (1, .int a1), (2, .int a2), (3, .int a3)]) (pc := 21) X 4 dJ7_fill_fda19_21 rfl rfl (by decide) rfl ?_
        refine qx_goto (tgt := 10) (pc := 24) X dJ7_fill_fda19_24 (by decide) ?_
        refine qx_lsub [1, 2, 3, 4, 0] rfl ?_
        exact ih a1 a2 a3 (a4 + 1) s3 hw
  refine (show qx_V K G 5 0 0 (MQ K.2.2.2.2.2.2.2.1 (va_Qv post (qx_B G (qx_w0 ad)) G.2.2) K.2.2.2.2.2.2.1 K.2.2.2.2.1 0 0 G.2.2) (qx_w0 ad) σ 0 [(0, .ref (ad f0 i0)), (1, .int p1), (2, .int p2), (3, .int p3)] [] from ?_)
  refine qx_aload_n (pc := 0) X 0 dJ7_fill_fda19_0 rfl rfl ?_
  refine qx_aleni (f := f0) (i := i0) (v := Int32.ofNat n0) (pc := 1) X hs0 hm0 rfl dJ7_fill_fda19_1 ?_
  refine qx_iload_n (pc := 2) X 1 dJ7_fill_fda19_2 rfl rfl ?_
  refine qx_iload_n (pc := 3) X 2 dJ7_fill_fda19_3 rfl rfl ?_
  refine qx_callSv (pc := 4) X [.int (Int32.ofNat n0), .int p1, .int p2] [] (kJ7_rangeCheck_23922 K.2.1 G t1 t2 ad (Int32.ofNat n0) p1 p2 σ _ hw) qx_mcJ7_rangeCheck_23922 qx_lRJ7_13 qx_sJ7_rangeCheck_23922 rfl ⟨rfl, rfl⟩ (by rw [hR]; decide) rfl (Nat.le_of_ble_eq_true rfl) dJ7_fill_fda19_4 ⟨Nat.zero_le _, Nat.zero_le _⟩ (fun s1 hw => ?_)
  refine qx_iload_n (pc := 7) X 1 dJ7_fill_fda19_7 rfl rfl ?_
  refine qx_istore (lv' := [(4, .int p1), (0, .ref (ad f0 i0)), (1, .int p1), (2, .int p2), (3, .int p3)]) (pc := 8) X dJ7_fill_fda19_8 (by decide) rfl ?_
  refine qx_lsub [1, 2, 3, 4, 0] rfl ?_
  obtain ⟨n, hw⟩ := hw
  exact L10 n p1 p2 p3 p1 s1 hw
def wX8_fillUsersPurses (σ : qx_St) (post : qx_St → Prop) : Prop := wJ7_fill_fda19 5 0 13 (8 : Int32) (12 : Int32) (10000 : Int32) σ (fun s1 => post s1)
set_option maxHeartbeats 4000000 in
set_option maxRecDepth 100000 in
theorem kX8_fillUsersPurses (l : Launch) (G : qx_Gx) (t1 t2 : Nat) (ad : Nat → Nat → Nat) (σ : qx_St) (post : qx_St → Prop) (hw : wX8_fillUsersPurses  σ post) : qx_Mv l G t1 t2 (qx_w0 ad) yX8_fillUsersPurses cX8_fillUsersPurses 1 none { frames := 2, cells := 0, slots := 0, locals := 46 } [.ref (ad 3 0)] σ post := by
  unfold wX8_fillUsersPurses at hw
  refine qx_start qx_mcX8_fillUsersPurses (Nat.le_of_ble_eq_true rfl) (fun K hKl hR X hr hlk => ?_)
  subst hKl
  refine (show qx_V K G 1 0 0 (MQ K.2.2.2.2.2.2.2.1 (va_Qv post (qx_B G (qx_w0 ad)) G.2.2) K.2.2.2.2.2.2.1 K.2.2.2.2.1 0 0 G.2.2) (qx_w0 ad) σ 0 [(0, .ref (ad 3 0))] [] from ?_)
  refine qx_aload_n (pc := 0) X 0 dX8_fillUsersPurses_0 rfl rfl ?_
  refine qx_getr (f := 3) (i := 0) (a := ad 5 0) (pc := 1) X qx_gRX8_15 qx_me3 rfl dX8_fillUsersPurses_1 ?_
  refine qx_bipush (v := 8) (pc := 4) X dX8_fillUsersPurses_4 (by decide) ?_
  refine qx_bipush (v := 12) (pc := 6) X dX8_fillUsersPurses_6 (by decide) ?_
  refine qx_sipush (v := 10000) (pc := 8) X dX8_fillUsersPurses_8 (by decide) ?_
  refine qx_callSv (pc := 11) X [.ref (ad 5 0), .int (8 : Int32), .int (12 : Int32), .int (10000 : Int32)] [] (kJ7_fill_fda19 K.2.1 G t1 t2 ad 5 0 13 (8 : Int32) (12 : Int32) (10000 : Int32) rfl qx_me5 σ _ hw) qx_mcJ7_fill_fda19 qx_lRX8_24 qx_sJ7_fill_fda19 rfl ⟨rfl, rfl⟩ (by rw [hR]; decide) rfl (Nat.le_of_ble_eq_true rfl) dX8_fillUsersPurses_11 ⟨Nat.zero_le _, Nat.zero_le _⟩ (fun s1 hw => ?_)
  exact qx_vret (pc := 14) X hr hlk hw dX8_fillUsersPurses_14
def wJ7_fill_53178_l5 (f0 : Nat) (i0 : Nat) (n0 : Nat) (p1 : Int32) (post : qx_St → Prop) : Nat → Int32 → Int32 → Int32 → qx_St → Prop
  | 0, _, _, _, _ => False
  | n + 1, a1, a2, a3, σ => ((a3 ≤ a2 → post σ) ∧ (¬ (a3 ≤ a2) → (vp_in a2 n0 ∧ (∀ s1, s1 = qx_st σ f0 i0 a2.toNatClampNeg a1 → wJ7_fill_53178_l5 f0 i0 n0 p1 post n a1 (a2 + 1) a3 s1))))
def wJ7_fill_53178 (f0 : Nat) (i0 : Nat) (n0 : Nat) (p1 : Int32) (σ : qx_St) (post : qx_St → Prop) : Prop := ∃ n, wJ7_fill_53178_l5 f0 i0 n0 p1 post n p1 (0 : Int32) (Int32.ofNat n0) σ
set_option maxHeartbeats 4000000 in
set_option maxRecDepth 100000 in
theorem kJ7_fill_53178 (l : Launch) (G : qx_Gx) (t1 t2 : Nat) (ad : Nat → Nat → Nat) (f0 : Nat) (i0 : Nat) (n0 : Nat) (p1 : Int32) (hs0 : qx_sh f0 = .inr (.inl (0, n0))) (hm0 : (f0, i0) ∈ (qx_w0 ad).1) (σ : qx_St) (post : qx_St → Prop) (hw : wJ7_fill_53178 f0 i0 n0 p1 σ post) : qx_Mv l G t1 t2 (qx_w0 ad) yJ7_fill_53178 cJ7_fill_53178 4 none { frames := 0, cells := 0, slots := 0, locals := 0 } [.ref (ad f0 i0), .int p1] σ post := by
  unfold wJ7_fill_53178 at hw
  refine qx_start qx_mcJ7_fill_53178 (Nat.le_of_ble_eq_true rfl) (fun K hKl hR X hr hlk => ?_)
  subst hKl
  have L5 : ∀ (n : Nat) (a1 : Int32) (a2 : Int32) (a3 : Int32) (σ : qx_St), wJ7_fill_53178_l5 f0 i0 n0 p1 post n a1 a2 a3 σ → qx_V K G 4 0 0 (MQ K.2.2.2.2.2.2.2.1 (va_Qv post (qx_B G (qx_w0 ad)) G.2.2) K.2.2.2.2.2.2.1 K.2.2.2.2.1 0 0 G.2.2) (qx_w0 ad) σ 5 [(0, .ref (ad f0 i0)), (1, .int a1), (2, .int a2), (3, .int a3)] [] := by
    intro n
    induction n with
    | zero => intro a1 a2 a3 σ hw; exact hw.elim
    | succ n ih =>
      intro a1 a2 a3 σ hw
      refine qx_iload_n (pc := 5) X 2 dJ7_fill_53178_5 rfl rfl ?_
      refine qx_iload_n (pc := 6) X 3 dJ7_fill_53178_6 rfl rfl ?_
      refine qx_icmp_ge (tgt := 20) (pc := 7) X dJ7_fill_53178_7 (by decide) (fun c3 => ?_) (fun c3 => ?_)
      · have hw := hw.1 c3
        exact qx_vret (pc := 20) X hr hlk hw dJ7_fill_53178_20
      · have hw := hw.2 c3
        refine qx_aload_n (pc := 10) X 0 dJ7_fill_53178_10 rfl rfl ?_
        refine qx_iload_n (pc := 11) X 2 dJ7_fill_53178_11 rfl rfl ?_
        refine qx_iload_n (pc := 12) X 1 dJ7_fill_53178_12 rfl rfl ?_
        refine qx_iast1 (f := f0) (i := i0) (pc := 13) X hs0 hm0 hw.1 dJ7_fill_53178_13 (fun s1 e2 => ?_)
        have hw := hw.2
        have hw := hw s1 e2
        refine qx_iinc (v := (a2 + 1)) (lv' := [(2, .int (a2 + 1)), (0, .ref (ad f0 i0)), (1, .int a1), (3, .int a3)]) (pc := 14) X 2 dJ7_fill_53178_14 rfl rfl (by decide) rfl ?_
        refine qx_goto (tgt := 5) (pc := 17) X dJ7_fill_53178_17 (by decide) ?_
        refine qx_lsub [1, 2, 0, 3] rfl ?_
        exact ih a1 (a2 + 1) a3 s1 hw
  refine (show qx_V K G 4 0 0 (MQ K.2.2.2.2.2.2.2.1 (va_Qv post (qx_B G (qx_w0 ad)) G.2.2) K.2.2.2.2.2.2.1 K.2.2.2.2.1 0 0 G.2.2) (qx_w0 ad) σ 0 [(0, .ref (ad f0 i0)), (1, .int p1)] [] from ?_)
  refine qx_iconst (v := 0) (pc := 0) X dJ7_fill_53178_0 (by decide) ?_
  refine qx_istore_n (lv' := [(2, .int (0 : Int32)), (0, .ref (ad f0 i0)), (1, .int p1)]) (pc := 1) X dJ7_fill_53178_1 rfl (by decide) rfl ?_
  refine qx_aload_n (pc := 2) X 1 dJ7_fill_53178_2 rfl rfl ?_
  refine qx_aleni (f := f0) (i := i0) (v := Int32.ofNat n0) (pc := 3) X hs0 hm0 rfl dJ7_fill_53178_3 ?_
  refine qx_istore_n (lv' := [(3, .int (Int32.ofNat n0)), (2, .int (0 : Int32)), (0, .ref (ad f0 i0)), (1, .int p1)]) (pc := 4) X dJ7_fill_53178_4 rfl (by decide) rfl ?_
  refine qx_lsub [2, 3, 1, 0] rfl ?_
  obtain ⟨n, hw⟩ := hw
  exact L5 n p1 (0 : Int32) (Int32.ofNat n0) σ hw
def wX8_reset (σ : qx_St) (post : qx_St → Prop) : Prop := wJ7_fill_53178 4 0 64 (0 : Int32) σ (fun s1 => wJ7_fill_53178 5 0 13 (0 : Int32) s1 (fun s3 => wX8_fillUsersPurses  s3 (fun s5 => wX8_startCall  s5 (fun s7 => post s7))))
set_option maxHeartbeats 4000000 in
set_option maxRecDepth 100000 in
theorem kX8_reset (l : Launch) (G : qx_Gx) (t1 t2 : Nat) (ad : Nat → Nat → Nat) (σ : qx_St) (post : qx_St → Prop) (hw : wX8_reset  σ post) : qx_Mv l G t1 t2 (qx_w0 ad) yX8_reset cX8_reset 1 none { frames := 3, cells := 0, slots := 0, locals := 66 } [.ref (ad 3 0)] σ post := by
  unfold wX8_reset at hw
  refine qx_start qx_mcX8_reset (Nat.le_of_ble_eq_true rfl) (fun K hKl hR X hr hlk => ?_)
  subst hKl
  refine (show qx_V K G 1 0 0 (MQ K.2.2.2.2.2.2.2.1 (va_Qv post (qx_B G (qx_w0 ad)) G.2.2) K.2.2.2.2.2.2.1 K.2.2.2.2.1 0 0 G.2.2) (qx_w0 ad) σ 0 [(0, .ref (ad 3 0))] [] from ?_)
  refine qx_aload_n (pc := 0) X 0 dX8_reset_0 rfl rfl ?_
  refine qx_getr (f := 3) (i := 0) (a := ad 4 0) (pc := 1) X qx_gRX8_11 qx_me3 rfl dX8_reset_1 ?_
  refine qx_iconst (v := 0) (pc := 4) X dX8_reset_4 (by decide) ?_
  refine qx_callSv (pc := 5) X [.ref (ad 4 0), .int (0 : Int32)] [] (kJ7_fill_53178 K.2.1 G t1 t2 ad 4 0 64 (0 : Int32) rfl qx_me4 σ _ hw) qx_mcJ7_fill_53178 qx_lRX8_30 qx_sJ7_fill_53178 rfl ⟨rfl, rfl⟩ (by rw [hR]; decide) rfl (Nat.le_of_ble_eq_true rfl) dX8_reset_5 ⟨Nat.zero_le _, Nat.zero_le _⟩ (fun s1 hw => ?_)
  refine qx_aload_n (pc := 8) X 0 dX8_reset_8 rfl rfl ?_
  refine qx_getr (f := 3) (i := 0) (a := ad 5 0) (pc := 9) X qx_gRX8_15 qx_me3 rfl dX8_reset_9 ?_
  refine qx_iconst (v := 0) (pc := 12) X dX8_reset_12 (by decide) ?_
  refine qx_callSv (pc := 13) X [.ref (ad 5 0), .int (0 : Int32)] [] (kJ7_fill_53178 K.2.1 G t1 t2 ad 5 0 13 (0 : Int32) rfl qx_me5 s1 _ hw) qx_mcJ7_fill_53178 qx_lRX8_30 qx_sJ7_fill_53178 rfl ⟨rfl, rfl⟩ (by rw [hR]; decide) rfl (Nat.le_of_ble_eq_true rfl) dX8_reset_13 ⟨Nat.zero_le _, Nat.zero_le _⟩ (fun s3 hw => ?_)
  refine qx_aload_n (pc := 16) X 0 dX8_reset_16 rfl rfl ?_
  refine qx_callVv (f := 3) (i := 0) (pc := 17) X [] [] (kX8_fillUsersPurses K.2.1 G t1 t2 ad  s3 _ hw) qx_mcX8_fillUsersPurses qx_lRX8_21 qx_iX8_fillUsersPurses qx_selX8_fillUsersPurses qx_me3 qx_rc3 rfl ⟨rfl, rfl⟩ (by rw [hR]; decide) rfl (Nat.le_of_ble_eq_true rfl) dX8_reset_17 ⟨Nat.zero_le _, Nat.zero_le _⟩ (fun s5 hw => ?_)
  refine qx_aload_n (pc := 20) X 0 dX8_reset_20 rfl rfl ?_
  refine qx_callVv (f := 3) (i := 0) (pc := 21) X [] [] (kX8_startCall K.2.1 G t1 t2 ad  s5 _ hw) qx_mcX8_startCall qx_lRX8_33 qx_iX8_startCall qx_selX8_startCall qx_me3 qx_rc3 rfl ⟨rfl, rfl⟩ (by rw [hR]; decide) rfl (Nat.le_of_ble_eq_true rfl) dX8_reset_21 ⟨Nat.zero_le _, Nat.zero_le _⟩ (fun s7 hw => ?_)
  exact qx_vret (pc := 24) X hr hlk hw dX8_reset_24
def wX9_contract (σ : qx_St) (post : Int32 → qx_St → Prop) : Prop := (((σ 1 0 1) < (8 : Int32) → (∀ s1, s1 = qx_st σ 1 0 1 ((σ 1 0 1) + (1 : Int32)) → post ((s1 1 0 1) - (1 : Int32)) s1)) ∧ (¬ ((σ 1 0 1) < (8 : Int32)) → post (-104 : Int32) σ))
set_option maxHeartbeats 4000000 in
set_option maxRecDepth 100000 in
theorem kX9_contract (l : Launch) (G : qx_Gx) (t1 t2 : Nat) (ad : Nat → Nat → Nat) (σ : qx_St) (post : Int32 → qx_St → Prop) (hw : wX9_contract  σ post) : qx_Mi l G t1 t2 (qx_w0 ad) yX9_contract cX9_contract 1 (some .int) { frames := 0, cells := 0, slots := 0, locals := 0 } [.ref (ad 0 0)] σ post := by
  unfold wX9_contract at hw
  refine qx_start qx_mcX9_contract (Nat.le_of_ble_eq_true rfl) (fun K hKl hR X hr hlk => ?_)
  subst hKl
  refine (show qx_V K G 1 0 0 (MQ K.2.2.2.2.2.2.2.1 (va_Qi post (qx_B G (qx_w0 ad)) G.2.2) K.2.2.2.2.2.2.1 K.2.2.2.2.1 0 0 G.2.2) (qx_w0 ad) σ 0 [(0, .ref (ad 0 0))] [] from ?_)
  refine qx_aload_n (pc := 0) X 0 dX9_contract_0 rfl rfl ?_
  refine qx_getr (f := 0) (i := 0) (a := ad 1 0) (pc := 1) X qx_gRX9_10 qx_me0 rfl dX9_contract_1 ?_
  refine qx_geti (f := 1) (i := 0) (pc := 4) X qx_gRX9_39 qx_me1 dX9_contract_4 ?_
  refine qx_bipush (v := 8) (pc := 7) X dX9_contract_7 (by decide) ?_
  refine qx_icmp_lt (tgt := 15) (pc := 9) X dX9_contract_9 (by decide) (fun c3 => ?_) (fun c3 => ?_)
  · have hw := hw.1 c3
    refine qx_aload_n (pc := 15) X 0 dX9_contract_15 rfl rfl ?_
    refine qx_getr (f := 0) (i := 0) (a := ad 1 0) (pc := 16) X qx_gRX9_10 qx_me0 rfl dX9_contract_16 ?_
    refine qx_dup (pc := 19) X dX9_contract_19 rfl ?_
    refine qx_geti (f := 1) (i := 0) (pc := 20) X qx_gRX9_39 qx_me1 dX9_contract_20 ?_
    refine qx_iconst (v := 1) (pc := 23) X dX9_contract_23 (by decide) ?_
    refine qx_iadd (pc := 24) X dX9_contract_24 ?_
    refine qx_puti1 (f := 1) (i := 0) (pc := 25) X qx_pRX9_39 qx_me1 dX9_contract_25 (fun s1 e2 => ?_)
    have hw := hw s1 e2
    refine qx_aload_n (pc := 28) X 0 dX9_contract_28 rfl rfl ?_
    refine qx_getr (f := 0) (i := 0) (a := ad 1 0) (pc := 29) X qx_gRX9_10 qx_me0 rfl dX9_contract_29 ?_
    refine qx_geti (f := 1) (i := 0) (pc := 32) X qx_gRX9_39 qx_me1 dX9_contract_32 ?_
    refine qx_iconst (v := 1) (pc := 35) X dX9_contract_35 (by decide) ?_
    refine qx_isub (pc := 36) X dX9_contract_36 ?_
    exact qx_iret (pc := 37) X hr hlk hw dX9_contract_37
  · have hw := hw.2 c3
    refine qx_bipush (v := -104) (pc := 12) X dX9_contract_12 (by decide) ?_
    exact qx_iret (pc := 14) X hr hlk hw dX9_contract_14
def wX9_refusedMember (p1 : Int32) (p2 : Int32) (σ : qx_St) (post : Int32 → qx_St → Prop) : Prop := wX4_has p1 σ (fun r2 s1 => ((r2 = 0 → post (-101 : Int32) s1) ∧ (¬ (r2 = 0) → wX9_within p2 (0 : Int32) (3 : Int32) s1 (fun r4 s3 => ((r4 = 0 → post (-102 : Int32) s3) ∧ (¬ (r4 = 0) → post (0 : Int32) s3))))))
set_option maxHeartbeats 4000000 in
set_option maxRecDepth 100000 in
theorem kX9_refusedMember (l : Launch) (G : qx_Gx) (t1 t2 : Nat) (ad : Nat → Nat → Nat) (p1 : Int32) (p2 : Int32) (σ : qx_St) (post : Int32 → qx_St → Prop) (hw : wX9_refusedMember p1 p2 σ post) : qx_Mi l G t1 t2 (qx_w0 ad) yX9_refusedMember cX9_refusedMember 3 (some .int) { frames := 1, cells := 0, slots := 0, locals := 22 } [.ref (ad 0 0), .int p1, .int p2] σ post := by
  unfold wX9_refusedMember at hw
  refine qx_start qx_mcX9_refusedMember (Nat.le_of_ble_eq_true rfl) (fun K hKl hR X hr hlk => ?_)
  subst hKl
  refine (show qx_V K G 3 0 0 (MQ K.2.2.2.2.2.2.2.1 (va_Qi post (qx_B G (qx_w0 ad)) G.2.2) K.2.2.2.2.2.2.1 K.2.2.2.2.1 0 0 G.2.2) (qx_w0 ad) σ 0 [(0, .ref (ad 0 0)), (1, .int p1), (2, .int p2)] [] from ?_)
  refine qx_aload_n (pc := 0) X 0 dX9_refusedMember_0 rfl rfl ?_
  refine qx_getr (f := 0) (i := 0) (a := ad 1 0) (pc := 1) X qx_gRX9_10 qx_me0 rfl dX9_refusedMember_1 ?_
  refine qx_iload_n (pc := 4) X 1 dX9_refusedMember_4 rfl rfl ?_
  refine qx_callVi (f := 1) (i := 0) (pc := 5) X [.int p1] [] (kX4_has K.2.1 G t1 t2 ad p1 σ _ hw) qx_mcX4_has qx_lRX9_116 qx_iX4_has qx_selX4_has qx_me1 qx_rc1 rfl ⟨rfl, rfl⟩ (by rw [hR]; decide) rfl (Nat.le_of_ble_eq_true rfl) dX9_refusedMember_5 ⟨Nat.zero_le _, Nat.zero_le _⟩ (fun r2 s1 hw => ?_)
  refine qx_if_ne (tgt := 14) (pc := 8) X dX9_refusedMember_8 (by decide) (fun c6 => ?_) (fun c6 => ?_)
  · have hw := hw.2 c6
    refine qx_iload_n (pc := 14) X 2 dX9_refusedMember_14 rfl rfl ?_
    refine qx_iconst (v := 0) (pc := 15) X dX9_refusedMember_15 (by decide) ?_
    refine qx_iconst (v := 3) (pc := 16) X dX9_refusedMember_16 (by decide) ?_
    refine qx_callSi (pc := 17) X [.int p2, .int (0 : Int32), .int (3 : Int32)] [] (kX9_within K.2.1 G t1 t2 ad p2 (0 : Int32) (3 : Int32) s1 _ hw) qx_mcX9_within qx_lRX9_81 qx_sX9_within rfl ⟨rfl, rfl⟩ (by rw [hR]; decide) rfl (Nat.le_of_ble_eq_true rfl) dX9_refusedMember_17 ⟨Nat.zero_le _, Nat.zero_le _⟩ (fun r4 s3 hw => ?_)
    refine qx_if_eq (tgt := 27) (pc := 20) X dX9_refusedMember_20 (by decide) (fun c5 => ?_) (fun c5 => ?_)
    · have hw := hw.1 c5
      refine qx_bipush (v := -102) (pc := 27) X dX9_refusedMember_27 (by decide) ?_
      exact qx_iret (pc := 29) X hr hlk hw dX9_refusedMember_29
    · have hw := hw.2 c5
      refine qx_iconst (v := 0) (pc := 23) X dX9_refusedMember_23 (by decide) ?_
      refine qx_goto (tgt := 29) (pc := 24) X dX9_refusedMember_24 (by decide) ?_
      exact qx_iret (pc := 29) X hr hlk hw dX9_refusedMember_29
  · have hw := hw.1 c6
    refine qx_bipush (v := -101) (pc := 11) X dX9_refusedMember_11 (by decide) ?_
    exact qx_iret (pc := 13) X hr hlk hw dX9_refusedMember_13
def wX9_step (p1 : Int32) (p2 : Int32) (p3 : Int32) (p4 : Int32) (p5 : Int32) (σ : qx_St) (post : Int32 → qx_St → Prop) : Prop := wX9_refusedMember p1 p2 σ (fun r2 s1 => ((r2 = 0 → wX0_fits p3 p4 p5 s1 (fun r4 s3 => ((r4 = 0 → post (-102 : Int32) s3) ∧ (¬ (r4 = 0) → wX4_memberOf p1 p2 s3 (fun r6 s5 => r6 < 32 ∧ (((s5 17 r6 3) < (20 : Int32) → wX3_append r6 p3 p4 p5 s5 (fun s8 => post (s8 17 r6 3) s8)) ∧ (¬ ((s5 17 r6 3) < (20 : Int32)) → post (-104 : Int32) s5))))))) ∧ (¬ (r2 = 0) → post r2 s1)))
set_option maxHeartbeats 4000000 in
set_option maxRecDepth 100000 in
theorem kX9_step (l : Launch) (G : qx_Gx) (t1 t2 : Nat) (ad : Nat → Nat → Nat) (p1 : Int32) (p2 : Int32) (p3 : Int32) (p4 : Int32) (p5 : Int32) (σ : qx_St) (post : Int32 → qx_St → Prop) (hw : wX9_step p1 p2 p3 p4 p5 σ post) : qx_Mi l G t1 t2 (qx_w0 ad) yX9_step cX9_step 8 (some .int) { frames := 2, cells := 0, slots := 0, locals := 44 } [.ref (ad 0 0), .int p1, .int p2, .int p3, .int p4, .int p5] σ post := by
  unfold wX9_step at hw
  refine qx_start qx_mcX9_step (Nat.le_of_ble_eq_true rfl) (fun K hKl hR X hr hlk => ?_)
  subst hKl
  refine (show qx_V K G 8 0 0 (MQ K.2.2.2.2.2.2.2.1 (va_Qi post (qx_B G (qx_w0 ad)) G.2.2) K.2.2.2.2.2.2.1 K.2.2.2.2.1 0 0 G.2.2) (qx_w0 ad) σ 0 [(0, .ref (ad 0 0)), (1, .int p1), (2, .int p2), (3, .int p3), (4, .int p4), (5, .int p5)] [] from ?_)
  refine qx_aload_n (pc := 0) X 0 dX9_step_0 rfl rfl ?_
  refine qx_iload_n (pc := 1) X 1 dX9_step_1 rfl rfl ?_
  refine qx_iload_n (pc := 2) X 2 dX9_step_2 rfl rfl ?_
  refine qx_callVi (f := 0) (i := 0) (pc := 3) X [.int p1, .int p2] [] (kX9_refusedMember K.2.1 G t1 t2 ad p1 p2 σ _ hw) qx_mcX9_refusedMember qx_lRX9_43 qx_iX9_refusedMember qx_selX9_refusedMember qx_me0 qx_rc0 rfl ⟨rfl, rfl⟩ (by rw [hR]; decide) rfl (Nat.le_of_ble_eq_true rfl) dX9_step_3 ⟨Nat.zero_le _, Nat.zero_le _⟩ (fun r2 s1 hw => ?_)
  refine qx_istore (lv' := [(6, .int r2), (0, .ref (ad 0 0)), (1, .int p1), (2, .int p2), (3, .int p3), (4, .int p4), (5, .int p5)]) (pc := 6) X dX9_step_6 (by decide) rfl ?_
  refine qx_iload (pc := 8) X 0 dX9_step_8 rfl ?_
  refine qx_if_eq (tgt := 16) (pc := 10) X dX9_step_10 (by decide) (fun c12 => ?_) (fun c12 => ?_)
  · have hw := hw.1 c12
    refine qx_iload_n (pc := 16) X 4 dX9_step_16 rfl rfl ?_
    refine qx_iload (pc := 17) X 5 dX9_step_17 rfl ?_
    refine qx_iload (pc := 19) X 6 dX9_step_19 rfl ?_
    refine qx_callSi (pc := 21) X [.int p3, .int p4, .int p5] [] (kX0_fits K.2.1 G t1 t2 ad p3 p4 p5 s1 _ hw) qx_mcX0_fits qx_lRX9_47 qx_sX0_fits rfl ⟨rfl, rfl⟩ (by rw [hR]; decide) rfl (Nat.le_of_ble_eq_true rfl) dX9_step_21 ⟨Nat.zero_le _, Nat.zero_le _⟩ (fun r4 s3 hw => ?_)
    refine qx_if_ne (tgt := 30) (pc := 24) X dX9_step_24 (by decide) (fun c11 => ?_) (fun c11 => ?_)
    · have hw := hw.2 c11
      refine qx_aload_n (pc := 30) X 1 dX9_step_30 rfl rfl ?_
      refine qx_getr (f := 0) (i := 0) (a := ad 1 0) (pc := 31) X qx_gRX9_10 qx_me0 rfl dX9_step_31 ?_
      refine qx_iload_n (pc := 34) X 2 dX9_step_34 rfl rfl ?_
      refine qx_iload_n (pc := 35) X 3 dX9_step_35 rfl rfl ?_
      refine qx_callVr (f := 1) (i := 0) (pc := 36) X [.int p1, .int p2] [] (kX4_memberOf K.2.1 G t1 t2 ad p1 p2 s3 _ hw) qx_mcX4_memberOf qx_lRX9_53 qx_iX4_memberOf qx_selX4_memberOf qx_me1 qx_rc1 rfl ⟨rfl, rfl⟩ (by rw [hR]; decide) rfl (Nat.le_of_ble_eq_true rfl) dX9_step_36 ⟨Nat.zero_le _, Nat.zero_le _⟩ (fun r6 s5 hw => ?_)
      have hi7 := hw.1
      have hw := hw.2
      refine qx_astore (lv' := [(7, .ref (ad 17 r6)), (6, .int r2), (0, .ref (ad 0 0)), (1, .int p1), (2, .int p2), (3, .int p3), (4, .int p4), (5, .int p5)]) (pc := 39) X dX9_step_39 (by decide) rfl ?_
      refine qx_aload (pc := 41) X 0 dX9_step_41 rfl ?_
      refine qx_geti (f := 17) (i := r6) (pc := 43) X qx_gRX9_57 (qx_me17 hi7) dX9_step_43 ?_
      refine qx_bipush (v := 20) (pc := 46) X dX9_step_46 (by decide) ?_
      refine qx_icmp_lt (tgt := 54) (pc := 48) X dX9_step_48 (by decide) (fun c10 => ?_) (fun c10 => ?_)
      · have hw := hw.1 c10
        refine qx_aload (pc := 54) X 0 dX9_step_54 rfl ?_
        refine qx_iload_n (pc := 56) X 5 dX9_step_56 rfl rfl ?_
        refine qx_iload (pc := 57) X 6 dX9_step_57 rfl ?_
        refine qx_iload (pc := 59) X 7 dX9_step_59 rfl ?_
        refine qx_callVv (f := 17) (i := r6) (pc := 61) X [.int p3, .int p4, .int p5] [] (kX3_append K.2.1 G t1 t2 ad r6 p3 p4 p5 hi7 s5 _ hw) qx_mcX3_append qx_lRX9_62 qx_iX3_append qx_selX3_append (qx_me17 hi7) qx_rc17 rfl ⟨rfl, rfl⟩ (by rw [hR]; decide) rfl (Nat.le_of_ble_eq_true rfl) dX9_step_61 ⟨Nat.zero_le _, Nat.zero_le _⟩ (fun s8 hw => ?_)
        refine qx_aload (pc := 64) X 0 dX9_step_64 rfl ?_
        refine qx_geti (f := 17) (i := r6) (pc := 66) X qx_gRX9_57 (qx_me17 hi7) dX9_step_66 ?_
        exact qx_iret (pc := 69) X hr hlk hw dX9_step_69
      · have hw := hw.2 c10
        refine qx_bipush (v := -104) (pc := 51) X dX9_step_51 (by decide) ?_
        exact qx_iret (pc := 53) X hr hlk hw dX9_step_53
    · have hw := hw.1 c11
      refine qx_bipush (v := -102) (pc := 27) X dX9_step_27 (by decide) ?_
      exact qx_iret (pc := 29) X hr hlk hw dX9_step_29
  · have hw := hw.2 c12
    refine qx_iload (pc := 13) X 0 dX9_step_13 rfl ?_
    exact qx_iret (pc := 15) X hr hlk hw dX9_step_15
def wX9_empty (p1 : Int32) (p2 : Int32) (σ : qx_St) (post : Int32 → qx_St → Prop) : Prop := wX9_refusedMember p1 p2 σ (fun r2 s1 => ((r2 = 0 → wX4_memberOf p1 p2 s1 (fun r4 s3 => r4 < 32 ∧ (∀ s6, s6 = qx_st s3 17 r4 3 (0 : Int32) → post (s3 17 r4 3) s6))) ∧ (¬ (r2 = 0) → post r2 s1)))
set_option maxHeartbeats 4000000 in
set_option maxRecDepth 100000 in
theorem kX9_empty (l : Launch) (G : qx_Gx) (t1 t2 : Nat) (ad : Nat → Nat → Nat) (p1 : Int32) (p2 : Int32) (σ : qx_St) (post : Int32 → qx_St → Prop) (hw : wX9_empty p1 p2 σ post) : qx_Mi l G t1 t2 (qx_w0 ad) yX9_empty cX9_empty 6 (some .int) { frames := 2, cells := 0, slots := 0, locals := 44 } [.ref (ad 0 0), .int p1, .int p2] σ post := by
  unfold wX9_empty at hw
  refine qx_start qx_mcX9_empty (Nat.le_of_ble_eq_true rfl) (fun K hKl hR X hr hlk => ?_)
  subst hKl
  refine (show qx_V K G 6 0 0 (MQ K.2.2.2.2.2.2.2.1 (va_Qi post (qx_B G (qx_w0 ad)) G.2.2) K.2.2.2.2.2.2.1 K.2.2.2.2.1 0 0 G.2.2) (qx_w0 ad) σ 0 [(0, .ref (ad 0 0)), (1, .int p1), (2, .int p2)] [] from ?_)
  refine qx_aload_n (pc := 0) X 0 dX9_empty_0 rfl rfl ?_
  refine qx_iload_n (pc := 1) X 1 dX9_empty_1 rfl rfl ?_
  refine qx_iload_n (pc := 2) X 2 dX9_empty_2 rfl rfl ?_
  refine qx_callVi (f := 0) (i := 0) (pc := 3) X [.int p1, .int p2] [] (kX9_refusedMember K.2.1 G t1 t2 ad p1 p2 σ _ hw) qx_mcX9_refusedMember qx_lRX9_43 qx_iX9_refusedMember qx_selX9_refusedMember qx_me0 qx_rc0 rfl ⟨rfl, rfl⟩ (by rw [hR]; decide) rfl (Nat.le_of_ble_eq_true rfl) dX9_empty_3 ⟨Nat.zero_le _, Nat.zero_le _⟩ (fun r2 s1 hw => ?_)
  refine qx_istore_n (lv' := [(3, .int r2), (0, .ref (ad 0 0)), (1, .int p1), (2, .int p2)]) (pc := 6) X dX9_empty_6 rfl (by decide) rfl ?_
  refine qx_iload_n (pc := 7) X 0 dX9_empty_7 rfl rfl ?_
  refine qx_if_eq (tgt := 13) (pc := 8) X dX9_empty_8 (by decide) (fun c8 => ?_) (fun c8 => ?_)
  · have hw := hw.1 c8
    refine qx_aload_n (pc := 13) X 1 dX9_empty_13 rfl rfl ?_
    refine qx_getr (f := 0) (i := 0) (a := ad 1 0) (pc := 14) X qx_gRX9_10 qx_me0 rfl dX9_empty_14 ?_
    refine qx_iload_n (pc := 17) X 2 dX9_empty_17 rfl rfl ?_
    refine qx_iload_n (pc := 18) X 3 dX9_empty_18 rfl rfl ?_
    refine qx_callVr (f := 1) (i := 0) (pc := 19) X [.int p1, .int p2] [] (kX4_memberOf K.2.1 G t1 t2 ad p1 p2 s1 _ hw) qx_mcX4_memberOf qx_lRX9_53 qx_iX4_memberOf qx_selX4_memberOf qx_me1 qx_rc1 rfl ⟨rfl, rfl⟩ (by rw [hR]; decide) rfl (Nat.le_of_ble_eq_true rfl) dX9_empty_19 ⟨Nat.zero_le _, Nat.zero_le _⟩ (fun r4 s3 hw => ?_)
    have hi5 := hw.1
    have hw := hw.2
    refine qx_astore (lv' := [(4, .ref (ad 17 r4)), (3, .int r2), (0, .ref (ad 0 0)), (1, .int p1), (2, .int p2)]) (pc := 22) X dX9_empty_22 (by decide) rfl ?_
    refine qx_aload (pc := 24) X 0 dX9_empty_24 rfl ?_
    refine qx_geti (f := 17) (i := r4) (pc := 26) X qx_gRX9_57 (qx_me17 hi5) dX9_empty_26 ?_
    refine qx_istore (lv' := [(5, .int (s3 17 r4 3)), (4, .ref (ad 17 r4)), (3, .int r2), (0, .ref (ad 0 0)), (1, .int p1), (2, .int p2)]) (pc := 29) X dX9_empty_29 (by decide) rfl ?_
    refine qx_aload (pc := 31) X 1 dX9_empty_31 rfl ?_
    refine qx_iconst (v := 0) (pc := 33) X dX9_empty_33 (by decide) ?_
    refine qx_puti1 (f := 17) (i := r4) (pc := 34) X qx_pRX9_57 (qx_me17 hi5) dX9_empty_34 (fun s6 e7 => ?_)
    have hw := hw s6 e7
    refine qx_iload (pc := 37) X 0 dX9_empty_37 rfl ?_
    exact qx_iret (pc := 39) X hr hlk hw dX9_empty_39
  · have hw := hw.2 c8
    refine qx_iload_n (pc := 11) X 0 dX9_empty_11 rfl rfl ?_
    exact qx_iret (pc := 12) X hr hlk hw dX9_empty_12
def wX9_guard (p1 : Int32) (p2 : Int32) (p3 : Int32) (σ : qx_St) (post : Int32 → qx_St → Prop) : Prop := wX9_refusedMember p1 p2 σ (fun r2 s1 => ((r2 = 0 → wX4_memberOf p1 p2 s1 (fun r4 s3 => r4 < 32 ∧ (((s3 17 r4 4) = 0 → (qx_vz p3 ∧ (∀ s6, s6 = qx_st s3 17 r4 4 p3 → post (0 : Int32) s6))) ∧ (¬ ((s3 17 r4 4) = 0) → (qx_vz p3 ∧ (∀ s8, s8 = qx_st s3 17 r4 4 p3 → post (1 : Int32) s8)))))) ∧ (¬ (r2 = 0) → post r2 s1)))
set_option maxHeartbeats 4000000 in
set_option maxRecDepth 100000 in
theorem kX9_guard (l : Launch) (G : qx_Gx) (t1 t2 : Nat) (ad : Nat → Nat → Nat) (p1 : Int32) (p2 : Int32) (p3 : Int32) (σ : qx_St) (post : Int32 → qx_St → Prop) (hw : wX9_guard p1 p2 p3 σ post) : qx_Mi l G t1 t2 (qx_w0 ad) yX9_guard cX9_guard 7 (some .int) { frames := 2, cells := 0, slots := 0, locals := 44 } [.ref (ad 0 0), .int p1, .int p2, .int p3] σ post := by
  unfold wX9_guard at hw
  refine qx_start qx_mcX9_guard (Nat.le_of_ble_eq_true rfl) (fun K hKl hR X hr hlk => ?_)
  subst hKl
  refine (show qx_V K G 7 0 0 (MQ K.2.2.2.2.2.2.2.1 (va_Qi post (qx_B G (qx_w0 ad)) G.2.2) K.2.2.2.2.2.2.1 K.2.2.2.2.1 0 0 G.2.2) (qx_w0 ad) σ 0 [(0, .ref (ad 0 0)), (1, .int p1), (2, .int p2), (3, .int p3)] [] from ?_)
  refine qx_aload_n (pc := 0) X 0 dX9_guard_0 rfl rfl ?_
  refine qx_iload_n (pc := 1) X 1 dX9_guard_1 rfl rfl ?_
  refine qx_iload_n (pc := 2) X 2 dX9_guard_2 rfl rfl ?_
  refine qx_callVi (f := 0) (i := 0) (pc := 3) X [.int p1, .int p2] [] (kX9_refusedMember K.2.1 G t1 t2 ad p1 p2 σ _ hw) qx_mcX9_refusedMember qx_lRX9_43 qx_iX9_refusedMember qx_selX9_refusedMember qx_me0 qx_rc0 rfl ⟨rfl, rfl⟩ (by rw [hR]; decide) rfl (Nat.le_of_ble_eq_true rfl) dX9_guard_3 ⟨Nat.zero_le _, Nat.zero_le _⟩ (fun r2 s1 hw => ?_)
  refine qx_istore (lv' := [(4, .int r2), (0, .ref (ad 0 0)), (1, .int p1), (2, .int p2), (3, .int p3)]) (pc := 6) X dX9_guard_6 (by decide) rfl ?_
  refine qx_iload (pc := 8) X 0 dX9_guard_8 rfl ?_
  refine qx_if_eq (tgt := 16) (pc := 10) X dX9_guard_10 (by decide) (fun c11 => ?_) (fun c11 => ?_)
  · have hw := hw.1 c11
    refine qx_aload_n (pc := 16) X 1 dX9_guard_16 rfl rfl ?_
    refine qx_getr (f := 0) (i := 0) (a := ad 1 0) (pc := 17) X qx_gRX9_10 qx_me0 rfl dX9_guard_17 ?_
    refine qx_iload_n (pc := 20) X 2 dX9_guard_20 rfl rfl ?_
    refine qx_iload_n (pc := 21) X 3 dX9_guard_21 rfl rfl ?_
    refine qx_callVr (f := 1) (i := 0) (pc := 22) X [.int p1, .int p2] [] (kX4_memberOf K.2.1 G t1 t2 ad p1 p2 s1 _ hw) qx_mcX4_memberOf qx_lRX9_53 qx_iX4_memberOf qx_selX4_memberOf qx_me1 qx_rc1 rfl ⟨rfl, rfl⟩ (by rw [hR]; decide) rfl (Nat.le_of_ble_eq_true rfl) dX9_guard_22 ⟨Nat.zero_le _, Nat.zero_le _⟩ (fun r4 s3 hw => ?_)
    have hi5 := hw.1
    have hw := hw.2
    refine qx_astore (lv' := [(5, .ref (ad 17 r4)), (4, .int r2), (0, .ref (ad 0 0)), (1, .int p1), (2, .int p2), (3, .int p3)]) (pc := 25) X dX9_guard_25 (by decide) rfl ?_
    refine qx_aload (pc := 27) X 0 dX9_guard_27 rfl ?_
    refine qx_geti (f := 17) (i := r4) (pc := 29) X qx_gRX9_66 (qx_me17 hi5) dX9_guard_29 ?_
    refine qx_if_eq (tgt := 39) (pc := 32) X dX9_guard_32 (by decide) (fun c10 => ?_) (fun c10 => ?_)
    · have hw := hw.1 c10
      refine qx_iconst (v := 0) (pc := 39) X dX9_guard_39 (by decide) ?_
      refine qx_istore (lv' := [(6, .int (0 : Int32)), (5, .ref (ad 17 r4)), (4, .int r2), (0, .ref (ad 0 0)), (1, .int p1), (2, .int p2), (3, .int p3)]) (pc := 40) X dX9_guard_40 (by decide) rfl ?_
      refine qx_aload (pc := 42) X 1 dX9_guard_42 rfl ?_
      refine qx_iload_n (pc := 44) X 6 dX9_guard_44 rfl rfl ?_
      refine qx_putz1 (f := 17) (i := r4) (pc := 45) X qx_pRX9_66 (qx_me17 hi5) hw.1 dX9_guard_45 (fun s6 e7 => ?_)
      have hw := hw.2
      have hw := hw s6 e7
      refine qx_iload (pc := 48) X 0 dX9_guard_48 rfl ?_
      exact qx_iret (pc := 50) X hr hlk hw dX9_guard_50
    · have hw := hw.2 c10
      refine qx_iconst (v := 1) (pc := 35) X dX9_guard_35 (by decide) ?_
      refine qx_goto (tgt := 40) (pc := 36) X dX9_guard_36 (by decide) ?_
      refine qx_istore (lv' := [(6, .int (1 : Int32)), (5, .ref (ad 17 r4)), (4, .int r2), (0, .ref (ad 0 0)), (1, .int p1), (2, .int p2), (3, .int p3)]) (pc := 40) X dX9_guard_40 (by decide) rfl ?_
      refine qx_aload (pc := 42) X 1 dX9_guard_42 rfl ?_
      refine qx_iload_n (pc := 44) X 6 dX9_guard_44 rfl rfl ?_
      refine qx_putz1 (f := 17) (i := r4) (pc := 45) X qx_pRX9_66 (qx_me17 hi5) hw.1 dX9_guard_45 (fun s8 e9 => ?_)
      have hw := hw.2
      have hw := hw s8 e9
      refine qx_iload (pc := 48) X 0 dX9_guard_48 rfl ?_
      exact qx_iret (pc := 50) X hr hlk hw dX9_guard_50
  · have hw := hw.2 c11
    refine qx_iload (pc := 13) X 0 dX9_guard_13 rfl ?_
    exact qx_iret (pc := 15) X hr hlk hw dX9_guard_15
def wX9_isUser (p0 : Int32) (σ : qx_St) (post : Int32 → qx_St → Prop) : Prop := wX9_within p0 (0 : Int32) (3 : Int32) σ (fun r2 s1 => (qx_vz r2 ∧ post r2 s1))
set_option maxHeartbeats 4000000 in
set_option maxRecDepth 100000 in
theorem kX9_isUser (l : Launch) (G : qx_Gx) (t1 t2 : Nat) (ad : Nat → Nat → Nat) (p0 : Int32) (σ : qx_St) (post : Int32 → qx_St → Prop) (hw : wX9_isUser p0 σ post) : qx_Mi l G t1 t2 (qx_w0 ad) yX9_isUser cX9_isUser 1 (some .boolean) { frames := 1, cells := 0, slots := 0, locals := 22 } [.int p0] σ post := by
  unfold wX9_isUser at hw
  refine qx_start qx_mcX9_isUser (Nat.le_of_ble_eq_true rfl) (fun K hKl hR X hr hlk => ?_)
  subst hKl
  refine (show qx_V K G 1 0 0 (MQ K.2.2.2.2.2.2.2.1 (va_Qi post (qx_B G (qx_w0 ad)) G.2.2) K.2.2.2.2.2.2.1 K.2.2.2.2.1 0 0 G.2.2) (qx_w0 ad) σ 0 [(0, .int p0)] [] from ?_)
  refine qx_iload_n (pc := 0) X 0 dX9_isUser_0 rfl rfl ?_
  refine qx_iconst (v := 0) (pc := 1) X dX9_isUser_1 (by decide) ?_
  refine qx_iconst (v := 3) (pc := 2) X dX9_isUser_2 (by decide) ?_
  refine qx_callSi (pc := 3) X [.int p0, .int (0 : Int32), .int (3 : Int32)] [] (kX9_within K.2.1 G t1 t2 ad p0 (0 : Int32) (3 : Int32) σ _ hw) qx_mcX9_within qx_lRX9_81 qx_sX9_within rfl ⟨rfl, rfl⟩ (by rw [hR]; decide) rfl (Nat.le_of_ble_eq_true rfl) dX9_isUser_3 ⟨Nat.zero_le _, Nat.zero_le _⟩ (fun r2 s1 hw => ?_)
  exact qx_zret (pc := 6) X hr hlk hw.1 hw.2 dX9_isUser_6
def wX9_refusedCall_j78 (p1 : Int32) (p2 : Int32) (p3 : Int32) (p4 : Int32) (p5 : Int32) (post : Int32 → qx_St → Prop) (a1 : Int32) (a2 : Int32) (a3 : Int32) (a4 : Int32) (a5 : Int32) (a6 : Int32) (b0 : Int32) (σ : qx_St) : Prop := ((b0 = 0 → wX4_memberOf a2 a3 σ (fun r10 s9 => r10 < 32 ∧ (((s9 17 r10 3) = 0 → post (-103 : Int32) s9) ∧ (¬ ((s9 17 r10 3) = 0) → post (0 : Int32) s9)))) ∧ (¬ (b0 = 0) → post (-103 : Int32) σ))
def wX9_refusedCall (p1 : Int32) (p2 : Int32) (p3 : Int32) (p4 : Int32) (p5 : Int32) (σ : qx_St) (post : Int32 → qx_St → Prop) : Prop := wX9_isUser p1 σ (fun r2 s1 => ((r2 = 0 → post (-101 : Int32) s1) ∧ (¬ (r2 = 0) → wX9_refusedMember p2 p3 s1 (fun r4 s3 => ((r4 = 0 → wX9_within p4 (0 : Int32) (10000 : Int32) s3 (fun r6 s5 => ((r6 = 0 → post (-102 : Int32) s5) ∧ (¬ (r6 = 0) → wX9_within p5 (1 : Int32) (1000 : Int32) s5 (fun r8 s7 => ((r8 = 0 → post (-102 : Int32) s7) ∧ (¬ (r8 = 0) → (vp_in ((8 : Int32) + p1) 13 ∧ (((p4 + p5) ≤ (s7 5 0 ((8 : Int32) + p1).toNatClampNeg) → wX9_refusedCall_j78 p1 p2 p3 p4 p5 post p1 p2 p3 p4 p5 r4 (0 : Int32) s7) ∧ (¬ ((p4 + p5) ≤ (s7 5 0 ((8 : Int32) + p1).toNatClampNeg)) → wX9_refusedCall_j78 p1 p2 p3 p4 p5 post p1 p2 p3 p4 p5 r4 (1 : Int32) s7)))))))))) ∧ (¬ (r4 = 0) → post r4 s3))))))
set_option maxHeartbeats 4000000 in
set_option maxRecDepth 100000 in
theorem kX9_refusedCall (l : Launch) (G : qx_Gx) (t1 t2 : Nat) (ad : Nat → Nat → Nat) (p1 : Int32) (p2 : Int32) (p3 : Int32) (p4 : Int32) (p5 : Int32) (σ : qx_St) (post : Int32 → qx_St → Prop) (hw : wX9_refusedCall p1 p2 p3 p4 p5 σ post) : qx_Mi l G t1 t2 (qx_w0 ad) yX9_refusedCall cX9_refusedCall 8 (some .int) { frames := 2, cells := 0, slots := 0, locals := 44 } [.ref (ad 0 0), .int p1, .int p2, .int p3, .int p4, .int p5] σ post := by
  unfold wX9_refusedCall at hw
  refine qx_start qx_mcX9_refusedCall (Nat.le_of_ble_eq_true rfl) (fun K hKl hR X hr hlk => ?_)
  subst hKl
  have J78 : ∀ (a1 : Int32) (a2 : Int32) (a3 : Int32) (a4 : Int32) (a5 : Int32) (a6 : Int32) (b0 : Int32) (σ : qx_St), wX9_refusedCall_j78 p1 p2 p3 p4 p5 post a1 a2 a3 a4 a5 a6 b0 σ → qx_V K G 8 0 0 (MQ K.2.2.2.2.2.2.2.1 (va_Qi post (qx_B G (qx_w0 ad)) G.2.2) K.2.2.2.2.2.2.1 K.2.2.2.2.1 0 0 G.2.2) (qx_w0 ad) σ 78 [(0, .ref (ad 0 0)), (1, .int a1), (2, .int a2), (3, .int a3), (4, .int a4), (5, .int a5), (6, .int a6)] [.int b0] := by
    intro a1 a2 a3 a4 a5 a6 b0 σ hw
    unfold wX9_refusedCall_j78 at hw
    refine qx_istore (lv' := [(7, .int b0), (0, .ref (ad 0 0)), (1, .int a1), (2, .int a2), (3, .int a3), (4, .int a4), (5, .int a5), (6, .int a6)]) (pc := 78) X dX9_refusedCall_78 (by decide) rfl ?_
    refine qx_iload (pc := 80) X 0 dX9_refusedCall_80 rfl ?_
    refine qx_if_ne (tgt := 100) (pc := 82) X dX9_refusedCall_82 (by decide) (fun c13 => ?_) (fun c13 => ?_)
    · have hw := hw.2 c13
      refine qx_bipush (v := -103) (pc := 100) X dX9_refusedCall_100 (by decide) ?_
      refine qx_goto (tgt := 106) (pc := 102) X dX9_refusedCall_102 (by decide) ?_
      exact qx_iret (pc := 106) X hr hlk hw dX9_refusedCall_106
    · have hw := hw.1 c13
      refine qx_aload_n (pc := 85) X 1 dX9_refusedCall_85 rfl rfl ?_
      refine qx_getr (f := 0) (i := 0) (a := ad 1 0) (pc := 86) X qx_gRX9_10 qx_me0 rfl dX9_refusedCall_86 ?_
      refine qx_iload_n (pc := 89) X 3 dX9_refusedCall_89 rfl rfl ?_
      refine qx_iload_n (pc := 90) X 4 dX9_refusedCall_90 rfl rfl ?_
      refine qx_callVr (f := 1) (i := 0) (pc := 91) X [.int a2, .int a3] [] (kX4_memberOf K.2.1 G t1 t2 ad a2 a3 σ _ hw) qx_mcX4_memberOf qx_lRX9_53 qx_iX4_memberOf qx_selX4_memberOf qx_me1 qx_rc1 rfl ⟨rfl, rfl⟩ (by rw [hR]; decide) rfl (Nat.le_of_ble_eq_true rfl) dX9_refusedCall_91 ⟨Nat.zero_le _, Nat.zero_le _⟩ (fun r10 s9 hw => ?_)
      have hi11 := hw.1
      have hw := hw.2
      refine qx_geti (f := 17) (i := r10) (pc := 94) X qx_gRX9_57 (qx_me17 hi11) dX9_refusedCall_94 ?_
      refine qx_if_ne (tgt := 105) (pc := 97) X dX9_refusedCall_97 (by decide) (fun c12 => ?_) (fun c12 => ?_)
      · have hw := hw.2 c12
        refine qx_iconst (v := 0) (pc := 105) X dX9_refusedCall_105 (by decide) ?_
        exact qx_iret (pc := 106) X hr hlk hw dX9_refusedCall_106
      · have hw := hw.1 c12
        refine qx_bipush (v := -103) (pc := 100) X dX9_refusedCall_100 (by decide) ?_
        refine qx_goto (tgt := 106) (pc := 102) X dX9_refusedCall_102 (by decide) ?_
        exact qx_iret (pc := 106) X hr hlk hw dX9_refusedCall_106
  refine (show qx_V K G 8 0 0 (MQ K.2.2.2.2.2.2.2.1 (va_Qi post (qx_B G (qx_w0 ad)) G.2.2) K.2.2.2.2.2.2.1 K.2.2.2.2.1 0 0 G.2.2) (qx_w0 ad) σ 0 [(0, .ref (ad 0 0)), (1, .int p1), (2, .int p2), (3, .int p3), (4, .int p4), (5, .int p5)] [] from ?_)
  refine qx_iload_n (pc := 0) X 1 dX9_refusedCall_0 rfl rfl ?_
  refine qx_callSi (pc := 1) X [.int p1] [] (kX9_isUser K.2.1 G t1 t2 ad p1 σ _ hw) qx_mcX9_isUser qx_lRX9_126 qx_sX9_isUser rfl ⟨rfl, rfl⟩ (by rw [hR]; decide) rfl (Nat.le_of_ble_eq_true rfl) dX9_refusedCall_1 ⟨Nat.zero_le _, Nat.zero_le _⟩ (fun r2 s1 hw => ?_)
  refine qx_if_ne (tgt := 10) (pc := 4) X dX9_refusedCall_4 (by decide) (fun c18 => ?_) (fun c18 => ?_)
  · have hw := hw.2 c18
    refine qx_aload_n (pc := 10) X 0 dX9_refusedCall_10 rfl rfl ?_
    refine qx_iload_n (pc := 11) X 2 dX9_refusedCall_11 rfl rfl ?_
    refine qx_iload_n (pc := 12) X 3 dX9_refusedCall_12 rfl rfl ?_
    refine qx_callVi (f := 0) (i := 0) (pc := 13) X [.int p2, .int p3] [] (kX9_refusedMember K.2.1 G t1 t2 ad p2 p3 s1 _ hw) qx_mcX9_refusedMember qx_lRX9_43 qx_iX9_refusedMember qx_selX9_refusedMember qx_me0 qx_rc0 rfl ⟨rfl, rfl⟩ (by rw [hR]; decide) rfl (Nat.le_of_ble_eq_true rfl) dX9_refusedCall_13 ⟨Nat.zero_le _, Nat.zero_le _⟩ (fun r4 s3 hw => ?_)
    refine qx_istore (lv' := [(6, .int r4), (0, .ref (ad 0 0)), (1, .int p1), (2, .int p2), (3, .int p3), (4, .int p4), (5, .int p5)]) (pc := 16) X dX9_refusedCall_16 (by decide) rfl ?_
    refine qx_iload (pc := 18) X 0 dX9_refusedCall_18 rfl ?_
    refine qx_if_eq (tgt := 26) (pc := 20) X dX9_refusedCall_20 (by decide) (fun c17 => ?_) (fun c17 => ?_)
    · have hw := hw.1 c17
      refine qx_iload (pc := 26) X 5 dX9_refusedCall_26 rfl ?_
      refine qx_iconst (v := 0) (pc := 28) X dX9_refusedCall_28 (by decide) ?_
      refine qx_sipush (v := 10000) (pc := 29) X dX9_refusedCall_29 (by decide) ?_
      refine qx_callSi (pc := 32) X [.int p4, .int (0 : Int32), .int (10000 : Int32)] [] (kX9_within K.2.1 G t1 t2 ad p4 (0 : Int32) (10000 : Int32) s3 _ hw) qx_mcX9_within qx_lRX9_81 qx_sX9_within rfl ⟨rfl, rfl⟩ (by rw [hR]; decide) rfl (Nat.le_of_ble_eq_true rfl) dX9_refusedCall_32 ⟨Nat.zero_le _, Nat.zero_le _⟩ (fun r6 s5 hw => ?_)
      refine qx_if_eq (tgt := 50) (pc := 35) X dX9_refusedCall_35 (by decide) (fun c16 => ?_) (fun c16 => ?_)
      · have hw := hw.1 c16
        refine qx_bipush (v := -102) (pc := 50) X dX9_refusedCall_50 (by decide) ?_
        exact qx_iret (pc := 52) X hr hlk hw dX9_refusedCall_52
      · have hw := hw.2 c16
        refine qx_iload (pc := 38) X 6 dX9_refusedCall_38 rfl ?_
        refine qx_iconst (v := 1) (pc := 40) X dX9_refusedCall_40 (by decide) ?_
        refine qx_sipush (v := 1000) (pc := 41) X dX9_refusedCall_41 (by decide) ?_
        refine qx_callSi (pc := 44) X [.int p5, .int (1 : Int32), .int (1000 : Int32)] [] (kX9_within K.2.1 G t1 t2 ad p5 (1 : Int32) (1000 : Int32) s5 _ hw) qx_mcX9_within qx_lRX9_81 qx_sX9_within rfl ⟨rfl, rfl⟩ (by rw [hR]; decide) rfl (Nat.le_of_ble_eq_true rfl) dX9_refusedCall_44 ⟨Nat.zero_le _, Nat.zero_le _⟩ (fun r8 s7 hw => ?_)
        refine qx_if_ne (tgt := 53) (pc := 47) X dX9_refusedCall_47 (by decide) (fun c15 => ?_) (fun c15 => ?_)
        · have hw := hw.2 c15
          refine qx_aload_n (pc := 53) X 1 dX9_refusedCall_53 rfl rfl ?_
          refine qx_getr (f := 0) (i := 0) (a := ad 3 0) (pc := 54) X qx_gRX9_19 qx_me0 rfl dX9_refusedCall_54 ?_
          refine qx_getr (f := 3) (i := 0) (a := ad 5 0) (pc := 57) X qx_gRX9_123 qx_me3 rfl dX9_refusedCall_57 ?_
          refine qx_bipush (v := 8) (pc := 60) X dX9_refusedCall_60 (by decide) ?_
          refine qx_iload_n (pc := 62) X 2 dX9_refusedCall_62 rfl rfl ?_
          refine qx_iadd (pc := 63) X dX9_refusedCall_63 ?_
          refine qx_iald (f := 5) (i := 0) (pc := 64) X rfl qx_me5 hw.1 dX9_refusedCall_64 ?_
          have hw := hw.2
          refine qx_iload (pc := 65) X 5 dX9_refusedCall_65 rfl ?_
          refine qx_iload (pc := 67) X 6 dX9_refusedCall_67 rfl ?_
          refine qx_iadd (pc := 69) X dX9_refusedCall_69 ?_
          refine qx_icmp_ge (tgt := 77) (pc := 70) X dX9_refusedCall_70 (by decide) (fun c14 => ?_) (fun c14 => ?_)
          · have hw := hw.1 c14
            refine qx_iconst (v := 0) (pc := 77) X dX9_refusedCall_77 (by decide) ?_
            refine qx_lsub [1, 2, 3, 4, 5, 6, 0] rfl ?_
            exact J78 p1 p2 p3 p4 p5 r4 (0 : Int32) s7 hw
          · have hw := hw.2 c14
            refine qx_iconst (v := 1) (pc := 73) X dX9_refusedCall_73 (by decide) ?_
            refine qx_goto (tgt := 78) (pc := 74) X dX9_refusedCall_74 (by decide) ?_
            refine qx_lsub [1, 2, 3, 4, 5, 6, 0] rfl ?_
            exact J78 p1 p2 p3 p4 p5 r4 (1 : Int32) s7 hw
        · have hw := hw.1 c15
          refine qx_bipush (v := -102) (pc := 50) X dX9_refusedCall_50 (by decide) ?_
          exact qx_iret (pc := 52) X hr hlk hw dX9_refusedCall_52
    · have hw := hw.2 c17
      refine qx_iload (pc := 23) X 0 dX9_refusedCall_23 rfl ?_
      exact qx_iret (pc := 25) X hr hlk hw dX9_refusedCall_25
  · have hw := hw.1 c18
    refine qx_bipush (v := -101) (pc := 7) X dX9_refusedCall_7 (by decide) ?_
    exact qx_iret (pc := 9) X hr hlk hw dX9_refusedCall_9
def wX9_call (p1 : Int32) (p2 : Int32) (p3 : Int32) (p4 : Int32) (p5 : Int32) (p6 : Int32) (σ : qx_St) (post : Int32 → qx_St → Prop) : Prop := wX9_refusedCall p1 p2 p3 p5 p6 σ (fun r2 s1 => ((r2 = 0 → wX2_runForUser p1 p2 p3 p4 p5 p6 s1 (fun s3 => (((s3 7 0 2) = 0 → post (1 : Int32) s3) ∧ (¬ ((s3 7 0 2) = 0) → post (0 : Int32) s3)))) ∧ (¬ (r2 = 0) → post r2 s1)))
set_option maxHeartbeats 4000000 in
set_option maxRecDepth 100000 in
theorem kX9_call (l : Launch) (G : qx_Gx) (t1 t2 : Nat) (ad : Nat → Nat → Nat) (p1 : Int32) (p2 : Int32) (p3 : Int32) (p4 : Int32) (p5 : Int32) (p6 : Int32) (σ : qx_St) (post : Int32 → qx_St → Prop) (hw : wX9_call p1 p2 p3 p4 p5 p6 σ post) : qx_Mi l G t1 t2 (qx_w0 ad) yX9_call cX9_call 8 (some .int) { frames := 44, cells := 0, slots := 0, locals := 1956 } [.ref (ad 0 0), .int p1, .int p2, .int p3, .int p4, .int p5, .int p6] σ post := by
  unfold wX9_call at hw
  refine qx_start qx_mcX9_call (Nat.le_of_ble_eq_true rfl) (fun K hKl hR X hr hlk => ?_)
  subst hKl
  refine (show qx_V K G 8 0 0 (MQ K.2.2.2.2.2.2.2.1 (va_Qi post (qx_B G (qx_w0 ad)) G.2.2) K.2.2.2.2.2.2.1 K.2.2.2.2.1 0 0 G.2.2) (qx_w0 ad) σ 0 [(0, .ref (ad 0 0)), (1, .int p1), (2, .int p2), (3, .int p3), (4, .int p4), (5, .int p5), (6, .int p6)] [] from ?_)
  refine qx_aload_n (pc := 0) X 0 dX9_call_0 rfl rfl ?_
  refine qx_iload_n (pc := 1) X 1 dX9_call_1 rfl rfl ?_
  refine qx_iload_n (pc := 2) X 2 dX9_call_2 rfl rfl ?_
  refine qx_iload_n (pc := 3) X 3 dX9_call_3 rfl rfl ?_
  refine qx_iload (pc := 4) X 5 dX9_call_4 rfl ?_
  refine qx_iload (pc := 6) X 6 dX9_call_6 rfl ?_
  refine qx_callVi (f := 0) (i := 0) (pc := 8) X [.int p1, .int p2, .int p3, .int p5, .int p6] [] (kX9_refusedCall K.2.1 G t1 t2 ad p1 p2 p3 p5 p6 σ _ hw) qx_mcX9_refusedCall qx_lRX9_70 qx_iX9_refusedCall qx_selX9_refusedCall qx_me0 qx_rc0 rfl ⟨rfl, rfl⟩ (by rw [hR]; decide) rfl (Nat.le_of_ble_eq_true rfl) dX9_call_8 ⟨Nat.zero_le _, Nat.zero_le _⟩ (fun r2 s1 hw => ?_)
  refine qx_istore (lv' := [(7, .int r2), (0, .ref (ad 0 0)), (1, .int p1), (2, .int p2), (3, .int p3), (4, .int p4), (5, .int p5), (6, .int p6)]) (pc := 11) X dX9_call_11 (by decide) rfl ?_
  refine qx_iload (pc := 13) X 0 dX9_call_13 rfl ?_
  refine qx_if_eq (tgt := 21) (pc := 15) X dX9_call_15 (by decide) (fun c6 => ?_) (fun c6 => ?_)
  · have hw := hw.1 c6
    refine qx_aload_n (pc := 21) X 1 dX9_call_21 rfl rfl ?_
    refine qx_getr (f := 0) (i := 0) (a := ad 9 0) (pc := 22) X qx_gRX9_35 qx_me0 rfl dX9_call_22 ?_
    refine qx_iload_n (pc := 25) X 2 dX9_call_25 rfl rfl ?_
    refine qx_iload_n (pc := 26) X 3 dX9_call_26 rfl rfl ?_
    refine qx_iload_n (pc := 27) X 4 dX9_call_27 rfl rfl ?_
    refine qx_iload (pc := 28) X 5 dX9_call_28 rfl ?_
    refine qx_iload (pc := 30) X 6 dX9_call_30 rfl ?_
    refine qx_iload (pc := 32) X 7 dX9_call_32 rfl ?_
    refine qx_callVv (f := 9) (i := 0) (pc := 34) X [.int p1, .int p2, .int p3, .int p4, .int p5, .int p6] [] (kX2_runForUser K.2.1 G t1 t2 ad p1 p2 p3 p4 p5 p6 s1 _ hw) qx_mcX2_runForUser qx_lRX9_74 qx_iX2_runForUser qx_selX2_runForUser qx_me9 qx_rc9 rfl ⟨rfl, rfl⟩ (by rw [hR]; decide) rfl (Nat.le_of_ble_eq_true rfl) dX9_call_34 ⟨Nat.zero_le _, Nat.zero_le _⟩ (fun s3 hw => ?_)
    refine qx_aload_n (pc := 37) X 1 dX9_call_37 rfl rfl ?_
    refine qx_getr (f := 0) (i := 0) (a := ad 7 0) (pc := 38) X qx_gRX9_26 qx_me0 rfl dX9_call_38 ?_
    refine qx_geti (f := 7) (i := 0) (pc := 41) X qx_gRX9_78 qx_me7 dX9_call_41 ?_
    refine qx_if_eq (tgt := 51) (pc := 44) X dX9_call_44 (by decide) (fun c5 => ?_) (fun c5 => ?_)
    · have hw := hw.1 c5
      refine qx_iconst (v := 1) (pc := 51) X dX9_call_51 (by decide) ?_
      exact qx_iret (pc := 52) X hr hlk hw dX9_call_52
    · have hw := hw.2 c5
      refine qx_iconst (v := 0) (pc := 47) X dX9_call_47 (by decide) ?_
      refine qx_goto (tgt := 52) (pc := 48) X dX9_call_48 (by decide) ?_
      exact qx_iret (pc := 52) X hr hlk hw dX9_call_52
  · have hw := hw.2 c6
    refine qx_iload (pc := 18) X 0 dX9_call_18 rfl ?_
    exact qx_iret (pc := 20) X hr hlk hw dX9_call_20
def wX9_told (p1 : Int32) (σ : qx_St) (post : Int32 → qx_St → Prop) : Prop := wX9_within p1 (0 : Int32) (5 : Int32) σ (fun r2 s1 => ((r2 = 0 → post (-102 : Int32) s1) ∧ (¬ (r2 = 0) → (((s1 7 0 1) = 0 → post (-103 : Int32) s1) ∧ (¬ ((s1 7 0 1) = 0) → ((p1 = (0 : Int32) → post (s1 7 0 3) s1) ∧ (p1 = (1 : Int32) → post (s1 7 0 4) s1) ∧ (p1 = (2 : Int32) → post (s1 7 0 5) s1) ∧ (p1 = (3 : Int32) → post (s1 7 0 6) s1) ∧ (p1 = (4 : Int32) → post (s1 7 0 7) s1) ∧ ((∀ i : Nat, i < 5 → ¬ p1 = Int32.ofInt (0 + i)) → post (s1 3 0 3) s1)))))))
set_option maxHeartbeats 4000000 in
set_option maxRecDepth 100000 in
theorem kX9_told (l : Launch) (G : qx_Gx) (t1 t2 : Nat) (ad : Nat → Nat → Nat) (p1 : Int32) (σ : qx_St) (post : Int32 → qx_St → Prop) (hw : wX9_told p1 σ post) : qx_Mi l G t1 t2 (qx_w0 ad) yX9_told cX9_told 2 (some .int) { frames := 1, cells := 0, slots := 0, locals := 22 } [.ref (ad 0 0), .int p1] σ post := by
  unfold wX9_told at hw
  refine qx_start qx_mcX9_told (Nat.le_of_ble_eq_true rfl) (fun K hKl hR X hr hlk => ?_)
  subst hKl
  refine (show qx_V K G 2 0 0 (MQ K.2.2.2.2.2.2.2.1 (va_Qi post (qx_B G (qx_w0 ad)) G.2.2) K.2.2.2.2.2.2.1 K.2.2.2.2.1 0 0 G.2.2) (qx_w0 ad) σ 0 [(0, .ref (ad 0 0)), (1, .int p1)] [] from ?_)
  refine qx_iload_n (pc := 0) X 1 dX9_told_0 rfl rfl ?_
  refine qx_iconst (v := 0) (pc := 1) X dX9_told_1 (by decide) ?_
  refine qx_iconst (v := 5) (pc := 2) X dX9_told_2 (by decide) ?_
  refine qx_callSi (pc := 3) X [.int p1, .int (0 : Int32), .int (5 : Int32)] [] (kX9_within K.2.1 G t1 t2 ad p1 (0 : Int32) (5 : Int32) σ _ hw) qx_mcX9_within qx_lRX9_81 qx_sX9_within rfl ⟨rfl, rfl⟩ (by rw [hR]; decide) rfl (Nat.le_of_ble_eq_true rfl) dX9_told_3 ⟨Nat.zero_le _, Nat.zero_le _⟩ (fun r2 s1 hw => ?_)
  refine qx_if_ne (tgt := 12) (pc := 6) X dX9_told_6 (by decide) (fun c5 => ?_) (fun c5 => ?_)
  · have hw := hw.2 c5
    refine qx_aload_n (pc := 12) X 0 dX9_told_12 rfl rfl ?_
    refine qx_getr (f := 0) (i := 0) (a := ad 7 0) (pc := 13) X qx_gRX9_26 qx_me0 rfl dX9_told_13 ?_
    refine qx_geti (f := 7) (i := 0) (pc := 16) X qx_gRX9_84 qx_me7 dX9_told_16 ?_
    refine qx_if_ne (tgt := 25) (pc := 19) X dX9_told_19 (by decide) (fun c4 => ?_) (fun c4 => ?_)
    · have hw := hw.2 c4
      refine qx_iload_n (pc := 25) X 1 dX9_told_25 rfl rfl ?_
      refine qx_switch (pc := 26) X (tgt := 100) (fun i => ([60, 68, 76, 84, 92] : List Nat).getD i 0) dX9_told_26 (by decide) (by decide) (by decide) (by decide) ?_ ?_
      · intro i hi s3
        have hi2 : i < 5 := hi
        rcases (show i = 0 ∨ i = 1 ∨ i = 2 ∨ i = 3 ∨ i = 4 by omega) with rfl | rfl | rfl | rfl | rfl
        · have hw := hw.1 (s3.trans (by decide))
          refine qx_aload_n (pc := 60) X 0 dX9_told_60 rfl rfl ?_
          refine qx_getr (f := 0) (i := 0) (a := ad 7 0) (pc := 61) X qx_gRX9_26 qx_me0 rfl dX9_told_61 ?_
          refine qx_geti (f := 7) (i := 0) (pc := 64) X qx_gRX9_87 qx_me7 dX9_told_64 ?_
          exact qx_iret (pc := 67) X hr hlk hw dX9_told_67
        · have hw := hw.2.1 (s3.trans (by decide))
          refine qx_aload_n (pc := 68) X 0 dX9_told_68 rfl rfl ?_
          refine qx_getr (f := 0) (i := 0) (a := ad 7 0) (pc := 69) X qx_gRX9_26 qx_me0 rfl dX9_told_69 ?_
          refine qx_geti (f := 7) (i := 0) (pc := 72) X qx_gRX9_90 qx_me7 dX9_told_72 ?_
          exact qx_iret (pc := 75) X hr hlk hw dX9_told_75
        · have hw := hw.2.2.1 (s3.trans (by decide))
          refine qx_aload_n (pc := 76) X 0 dX9_told_76 rfl rfl ?_
          refine qx_getr (f := 0) (i := 0) (a := ad 7 0) (pc := 77) X qx_gRX9_26 qx_me0 rfl dX9_told_77 ?_
          refine qx_geti (f := 7) (i := 0) (pc := 80) X qx_gRX9_93 qx_me7 dX9_told_80 ?_
          exact qx_iret (pc := 83) X hr hlk hw dX9_told_83
        · have hw := hw.2.2.2.1 (s3.trans (by decide))
          refine qx_aload_n (pc := 84) X 0 dX9_told_84 rfl rfl ?_
          refine qx_getr (f := 0) (i := 0) (a := ad 7 0) (pc := 85) X qx_gRX9_26 qx_me0 rfl dX9_told_85 ?_
          refine qx_geti (f := 7) (i := 0) (pc := 88) X qx_gRX9_96 qx_me7 dX9_told_88 ?_
          exact qx_iret (pc := 91) X hr hlk hw dX9_told_91
        · have hw := hw.2.2.2.2.1 (s3.trans (by decide))
          refine qx_aload_n (pc := 92) X 0 dX9_told_92 rfl rfl ?_
          refine qx_getr (f := 0) (i := 0) (a := ad 7 0) (pc := 93) X qx_gRX9_26 qx_me0 rfl dX9_told_93 ?_
          refine qx_geti (f := 7) (i := 0) (pc := 96) X qx_gRX9_99 qx_me7 dX9_told_96 ?_
          exact qx_iret (pc := 99) X hr hlk hw dX9_told_99
      · intro s3
        have hw := hw.2.2.2.2.2 s3
        refine qx_aload_n (pc := 100) X 0 dX9_told_100 rfl rfl ?_
        refine qx_getr (f := 0) (i := 0) (a := ad 3 0) (pc := 101) X qx_gRX9_19 qx_me0 rfl dX9_told_101 ?_
        refine qx_geti (f := 3) (i := 0) (pc := 104) X qx_gRX9_102 qx_me3 dX9_told_104 ?_
        exact qx_iret (pc := 107) X hr hlk hw dX9_told_107
    · have hw := hw.1 c4
      refine qx_bipush (v := -103) (pc := 22) X dX9_told_22 (by decide) ?_
      exact qx_iret (pc := 24) X hr hlk hw dX9_told_24
  · have hw := hw.1 c5
    refine qx_bipush (v := -102) (pc := 9) X dX9_told_9 (by decide) ?_
    exact qx_iret (pc := 11) X hr hlk hw dX9_told_11
def wX9_frame (p1 : Int32) (p2 : Int32) (σ : qx_St) (post : Int32 → qx_St → Prop) : Prop := wX9_within p2 (0 : Int32) (6 : Int32) σ (fun r2 s1 => ((r2 = 0 → post (-102 : Int32) s1) ∧ (¬ (r2 = 0) → wX5_rowsKept  s1 (fun r4 s3 => wX9_within p1 (0 : Int32) (r4 - (1 : Int32)) s3 (fun r6 s5 => ((r6 = 0 → post (-109 : Int32) s5) ∧ (¬ (r6 = 0) → (vp_in ((p1 * (7 : Int32)) + p2) 280 ∧ post (s5 8 0 ((p1 * (7 : Int32)) + p2).toNatClampNeg) s5))))))))
set_option maxHeartbeats 4000000 in
set_option maxRecDepth 100000 in
theorem kX9_frame (l : Launch) (G : qx_Gx) (t1 t2 : Nat) (ad : Nat → Nat → Nat) (p1 : Int32) (p2 : Int32) (σ : qx_St) (post : Int32 → qx_St → Prop) (hw : wX9_frame p1 p2 σ post) : qx_Mi l G t1 t2 (qx_w0 ad) yX9_frame cX9_frame 3 (some .int) { frames := 2, cells := 0, slots := 0, locals := 44 } [.ref (ad 0 0), .int p1, .int p2] σ post := by
  unfold wX9_frame at hw
  refine qx_start qx_mcX9_frame (Nat.le_of_ble_eq_true rfl) (fun K hKl hR X hr hlk => ?_)
  subst hKl
  refine (show qx_V K G 3 0 0 (MQ K.2.2.2.2.2.2.2.1 (va_Qi post (qx_B G (qx_w0 ad)) G.2.2) K.2.2.2.2.2.2.1 K.2.2.2.2.1 0 0 G.2.2) (qx_w0 ad) σ 0 [(0, .ref (ad 0 0)), (1, .int p1), (2, .int p2)] [] from ?_)
  refine qx_iload_n (pc := 0) X 2 dX9_frame_0 rfl rfl ?_
  refine qx_iconst (v := 0) (pc := 1) X dX9_frame_1 (by decide) ?_
  refine qx_bipush (v := 6) (pc := 2) X dX9_frame_2 (by decide) ?_
  refine qx_callSi (pc := 4) X [.int p2, .int (0 : Int32), .int (6 : Int32)] [] (kX9_within K.2.1 G t1 t2 ad p2 (0 : Int32) (6 : Int32) σ _ hw) qx_mcX9_within qx_lRX9_81 qx_sX9_within rfl ⟨rfl, rfl⟩ (by rw [hR]; decide) rfl (Nat.le_of_ble_eq_true rfl) dX9_frame_4 ⟨Nat.zero_le _, Nat.zero_le _⟩ (fun r2 s1 hw => ?_)
  refine qx_if_ne (tgt := 13) (pc := 7) X dX9_frame_7 (by decide) (fun c8 => ?_) (fun c8 => ?_)
  · have hw := hw.2 c8
    refine qx_iload_n (pc := 13) X 1 dX9_frame_13 rfl rfl ?_
    refine qx_iconst (v := 0) (pc := 14) X dX9_frame_14 (by decide) ?_
    refine qx_aload_n (pc := 15) X 0 dX9_frame_15 rfl rfl ?_
    refine qx_getr (f := 0) (i := 0) (a := ad 7 0) (pc := 16) X qx_gRX9_26 qx_me0 rfl dX9_frame_16 ?_
    refine qx_callVi (f := 7) (i := 0) (pc := 19) X [] [.int (0 : Int32), .int p1] (kX5_rowsKept K.2.1 G t1 t2 ad  s1 _ hw) qx_mcX5_rowsKept qx_lRX9_105 qx_iX5_rowsKept qx_selX5_rowsKept qx_me7 qx_rc7 rfl ⟨rfl, rfl⟩ (by rw [hR]; decide) rfl (Nat.le_of_ble_eq_true rfl) dX9_frame_19 ⟨Nat.zero_le _, Nat.zero_le _⟩ (fun r4 s3 hw => ?_)
    refine qx_iconst (v := 1) (pc := 22) X dX9_frame_22 (by decide) ?_
    refine qx_isub (pc := 23) X dX9_frame_23 ?_
    refine qx_callSi (pc := 24) X [.int p1, .int (0 : Int32), .int (r4 - (1 : Int32))] [] (kX9_within K.2.1 G t1 t2 ad p1 (0 : Int32) (r4 - (1 : Int32)) s3 _ hw) qx_mcX9_within qx_lRX9_81 qx_sX9_within rfl ⟨rfl, rfl⟩ (by rw [hR]; decide) rfl (Nat.le_of_ble_eq_true rfl) dX9_frame_24 ⟨Nat.zero_le _, Nat.zero_le _⟩ (fun r6 s5 hw => ?_)
    refine qx_if_ne (tgt := 33) (pc := 27) X dX9_frame_27 (by decide) (fun c7 => ?_) (fun c7 => ?_)
    · have hw := hw.2 c7
      refine qx_aload_n (pc := 33) X 0 dX9_frame_33 rfl rfl ?_
      refine qx_getr (f := 0) (i := 0) (a := ad 7 0) (pc := 34) X qx_gRX9_26 qx_me0 rfl dX9_frame_34 ?_
      refine qx_getr (f := 7) (i := 0) (a := ad 8 0) (pc := 37) X qx_gRX9_109 qx_me7 rfl dX9_frame_37 ?_
      refine qx_iload_n (pc := 40) X 1 dX9_frame_40 rfl rfl ?_
      refine qx_bipush (v := 7) (pc := 41) X dX9_frame_41 (by decide) ?_
      refine qx_imul (pc := 43) X dX9_frame_43 ?_
      refine qx_iload_n (pc := 44) X 2 dX9_frame_44 rfl rfl ?_
      refine qx_iadd (pc := 45) X dX9_frame_45 ?_
      refine qx_iald (f := 8) (i := 0) (pc := 46) X rfl qx_me8 hw.1 dX9_frame_46 ?_
      have hw := hw.2
      exact qx_iret (pc := 47) X hr hlk hw dX9_frame_47
    · have hw := hw.1 c7
      refine qx_bipush (v := -109) (pc := 30) X dX9_frame_30 (by decide) ?_
      exact qx_iret (pc := 32) X hr hlk hw dX9_frame_32
  · have hw := hw.1 c8
    refine qx_bipush (v := -102) (pc := 10) X dX9_frame_10 (by decide) ?_
    exact qx_iret (pc := 12) X hr hlk hw dX9_frame_12
def wX9_event (p1 : Int32) (p2 : Int32) (σ : qx_St) (post : Int32 → qx_St → Prop) : Prop := wX9_within p2 (0 : Int32) (3 : Int32) σ (fun r2 s1 => ((r2 = 0 → post (-102 : Int32) s1) ∧ (¬ (r2 = 0) → wX9_within p1 (0 : Int32) ((s1 3 0 3) - (1 : Int32)) s1 (fun r4 s3 => ((r4 = 0 → post (-109 : Int32) s3) ∧ (¬ (r4 = 0) → (vp_in ((p1 * (4 : Int32)) + p2) 240 ∧ post (s3 6 0 ((p1 * (4 : Int32)) + p2).toNatClampNeg) s3)))))))
set_option maxHeartbeats 4000000 in
set_option maxRecDepth 100000 in
theorem kX9_event (l : Launch) (G : qx_Gx) (t1 t2 : Nat) (ad : Nat → Nat → Nat) (p1 : Int32) (p2 : Int32) (σ : qx_St) (post : Int32 → qx_St → Prop) (hw : wX9_event p1 p2 σ post) : qx_Mi l G t1 t2 (qx_w0 ad) yX9_event cX9_event 3 (some .int) { frames := 1, cells := 0, slots := 0, locals := 22 } [.ref (ad 0 0), .int p1, .int p2] σ post := by
  unfold wX9_event at hw
  refine qx_start qx_mcX9_event (Nat.le_of_ble_eq_true rfl) (fun K hKl hR X hr hlk => ?_)
  subst hKl
  refine (show qx_V K G 3 0 0 (MQ K.2.2.2.2.2.2.2.1 (va_Qi post (qx_B G (qx_w0 ad)) G.2.2) K.2.2.2.2.2.2.1 K.2.2.2.2.1 0 0 G.2.2) (qx_w0 ad) σ 0 [(0, .ref (ad 0 0)), (1, .int p1), (2, .int p2)] [] from ?_)
  refine qx_iload_n (pc := 0) X 2 dX9_event_0 rfl rfl ?_
  refine qx_iconst (v := 0) (pc := 1) X dX9_event_1 (by decide) ?_
  refine qx_iconst (v := 3) (pc := 2) X dX9_event_2 (by decide) ?_
  refine qx_callSi (pc := 3) X [.int p2, .int (0 : Int32), .int (3 : Int32)] [] (kX9_within K.2.1 G t1 t2 ad p2 (0 : Int32) (3 : Int32) σ _ hw) qx_mcX9_within qx_lRX9_81 qx_sX9_within rfl ⟨rfl, rfl⟩ (by rw [hR]; decide) rfl (Nat.le_of_ble_eq_true rfl) dX9_event_3 ⟨Nat.zero_le _, Nat.zero_le _⟩ (fun r2 s1 hw => ?_)
  refine qx_if_ne (tgt := 12) (pc := 6) X dX9_event_6 (by decide) (fun c6 => ?_) (fun c6 => ?_)
  · have hw := hw.2 c6
    refine qx_iload_n (pc := 12) X 1 dX9_event_12 rfl rfl ?_
    refine qx_iconst (v := 0) (pc := 13) X dX9_event_13 (by decide) ?_
    refine qx_aload_n (pc := 14) X 0 dX9_event_14 rfl rfl ?_
    refine qx_getr (f := 0) (i := 0) (a := ad 3 0) (pc := 15) X qx_gRX9_19 qx_me0 rfl dX9_event_15 ?_
    refine qx_geti (f := 3) (i := 0) (pc := 18) X qx_gRX9_102 qx_me3 dX9_event_18 ?_
    refine qx_iconst (v := 1) (pc := 21) X dX9_event_21 (by decide) ?_
    refine qx_isub (pc := 22) X dX9_event_22 ?_
    refine qx_callSi (pc := 23) X [.int p1, .int (0 : Int32), .int ((s1 3 0 3) - (1 : Int32))] [] (kX9_within K.2.1 G t1 t2 ad p1 (0 : Int32) ((s1 3 0 3) - (1 : Int32)) s1 _ hw) qx_mcX9_within qx_lRX9_81 qx_sX9_within rfl ⟨rfl, rfl⟩ (by rw [hR]; decide) rfl (Nat.le_of_ble_eq_true rfl) dX9_event_23 ⟨Nat.zero_le _, Nat.zero_le _⟩ (fun r4 s3 hw => ?_)
    refine qx_if_ne (tgt := 32) (pc := 26) X dX9_event_26 (by decide) (fun c5 => ?_) (fun c5 => ?_)
    · have hw := hw.2 c5
      refine qx_aload_n (pc := 32) X 0 dX9_event_32 rfl rfl ?_
      refine qx_getr (f := 0) (i := 0) (a := ad 3 0) (pc := 33) X qx_gRX9_19 qx_me0 rfl dX9_event_33 ?_
      refine qx_getr (f := 3) (i := 0) (a := ad 6 0) (pc := 36) X qx_gRX9_113 qx_me3 rfl dX9_event_36 ?_
      refine qx_iload_n (pc := 39) X 1 dX9_event_39 rfl rfl ?_
      refine qx_iconst (v := 4) (pc := 40) X dX9_event_40 (by decide) ?_
      refine qx_imul (pc := 41) X dX9_event_41 ?_
      refine qx_iload_n (pc := 42) X 2 dX9_event_42 rfl rfl ?_
      refine qx_iadd (pc := 43) X dX9_event_43 ?_
      refine qx_iald (f := 6) (i := 0) (pc := 44) X rfl qx_me6 hw.1 dX9_event_44 ?_
      have hw := hw.2
      exact qx_iret (pc := 45) X hr hlk hw dX9_event_45
    · have hw := hw.1 c5
      refine qx_bipush (v := -109) (pc := 29) X dX9_event_29 (by decide) ?_
      exact qx_iret (pc := 31) X hr hlk hw dX9_event_31
  · have hw := hw.1 c6
    refine qx_bipush (v := -102) (pc := 9) X dX9_event_9 (by decide) ?_
    exact qx_iret (pc := 11) X hr hlk hw dX9_event_11
def wX9_store (p1 : Int32) (p2 : Int32) (σ : qx_St) (post : Int32 → qx_St → Prop) : Prop := wX4_has p1 σ (fun r2 s1 => ((r2 = 0 → post (-101 : Int32) s1) ∧ (¬ (r2 = 0) → wX9_within p2 (0 : Int32) (7 : Int32) s1 (fun r4 s3 => ((r4 = 0 → post (-109 : Int32) s3) ∧ (¬ (r4 = 0) → (vp_in ((p1 * (8 : Int32)) + p2) 64 ∧ post (s3 4 0 ((p1 * (8 : Int32)) + p2).toNatClampNeg) s3)))))))
set_option maxHeartbeats 4000000 in
set_option maxRecDepth 100000 in
theorem kX9_store (l : Launch) (G : qx_Gx) (t1 t2 : Nat) (ad : Nat → Nat → Nat) (p1 : Int32) (p2 : Int32) (σ : qx_St) (post : Int32 → qx_St → Prop) (hw : wX9_store p1 p2 σ post) : qx_Mi l G t1 t2 (qx_w0 ad) yX9_store cX9_store 3 (some .int) { frames := 1, cells := 0, slots := 0, locals := 22 } [.ref (ad 0 0), .int p1, .int p2] σ post := by
  unfold wX9_store at hw
  refine qx_start qx_mcX9_store (Nat.le_of_ble_eq_true rfl) (fun K hKl hR X hr hlk => ?_)
  subst hKl
  refine (show qx_V K G 3 0 0 (MQ K.2.2.2.2.2.2.2.1 (va_Qi post (qx_B G (qx_w0 ad)) G.2.2) K.2.2.2.2.2.2.1 K.2.2.2.2.1 0 0 G.2.2) (qx_w0 ad) σ 0 [(0, .ref (ad 0 0)), (1, .int p1), (2, .int p2)] [] from ?_)
  refine qx_aload_n (pc := 0) X 0 dX9_store_0 rfl rfl ?_
  refine qx_getr (f := 0) (i := 0) (a := ad 1 0) (pc := 1) X qx_gRX9_10 qx_me0 rfl dX9_store_1 ?_
  refine qx_iload_n (pc := 4) X 1 dX9_store_4 rfl rfl ?_
  refine qx_callVi (f := 1) (i := 0) (pc := 5) X [.int p1] [] (kX4_has K.2.1 G t1 t2 ad p1 σ _ hw) qx_mcX4_has qx_lRX9_116 qx_iX4_has qx_selX4_has qx_me1 qx_rc1 rfl ⟨rfl, rfl⟩ (by rw [hR]; decide) rfl (Nat.le_of_ble_eq_true rfl) dX9_store_5 ⟨Nat.zero_le _, Nat.zero_le _⟩ (fun r2 s1 hw => ?_)
  refine qx_if_ne (tgt := 14) (pc := 8) X dX9_store_8 (by decide) (fun c6 => ?_) (fun c6 => ?_)
  · have hw := hw.2 c6
    refine qx_iload_n (pc := 14) X 2 dX9_store_14 rfl rfl ?_
    refine qx_iconst (v := 0) (pc := 15) X dX9_store_15 (by decide) ?_
    refine qx_bipush (v := 7) (pc := 16) X dX9_store_16 (by decide) ?_
    refine qx_callSi (pc := 18) X [.int p2, .int (0 : Int32), .int (7 : Int32)] [] (kX9_within K.2.1 G t1 t2 ad p2 (0 : Int32) (7 : Int32) s1 _ hw) qx_mcX9_within qx_lRX9_81 qx_sX9_within rfl ⟨rfl, rfl⟩ (by rw [hR]; decide) rfl (Nat.le_of_ble_eq_true rfl) dX9_store_18 ⟨Nat.zero_le _, Nat.zero_le _⟩ (fun r4 s3 hw => ?_)
    refine qx_if_ne (tgt := 27) (pc := 21) X dX9_store_21 (by decide) (fun c5 => ?_) (fun c5 => ?_)
    · have hw := hw.2 c5
      refine qx_aload_n (pc := 27) X 0 dX9_store_27 rfl rfl ?_
      refine qx_getr (f := 0) (i := 0) (a := ad 3 0) (pc := 28) X qx_gRX9_19 qx_me0 rfl dX9_store_28 ?_
      refine qx_getr (f := 3) (i := 0) (a := ad 4 0) (pc := 31) X qx_gRX9_120 qx_me3 rfl dX9_store_31 ?_
      refine qx_iload_n (pc := 34) X 1 dX9_store_34 rfl rfl ?_
      refine qx_bipush (v := 8) (pc := 35) X dX9_store_35 (by decide) ?_
      refine qx_imul (pc := 37) X dX9_store_37 ?_
      refine qx_iload_n (pc := 38) X 2 dX9_store_38 rfl rfl ?_
      refine qx_iadd (pc := 39) X dX9_store_39 ?_
      refine qx_iald (f := 4) (i := 0) (pc := 40) X rfl qx_me4 hw.1 dX9_store_40 ?_
      have hw := hw.2
      exact qx_iret (pc := 41) X hr hlk hw dX9_store_41
    · have hw := hw.1 c5
      refine qx_bipush (v := -109) (pc := 24) X dX9_store_24 (by decide) ?_
      exact qx_iret (pc := 26) X hr hlk hw dX9_store_26
  · have hw := hw.1 c6
    refine qx_bipush (v := -101) (pc := 11) X dX9_store_11 (by decide) ?_
    exact qx_iret (pc := 13) X hr hlk hw dX9_store_13
def wX9_coins (p1 : Int32) (p2 : Int32) (σ : qx_St) (post : Int32 → qx_St → Prop) : Prop := ((p1 = (0 : Int32) → wX4_has p2 σ (fun r3 s2 => ((r3 = 0 → post (-101 : Int32) s2) ∧ (¬ (r3 = 0) → (vp_in p2 13 ∧ post (s2 5 0 p2.toNatClampNeg) s2))))) ∧ (p1 = (1 : Int32) → wX9_isUser p2 σ (fun r6 s5 => ((r6 = 0 → post (-101 : Int32) s5) ∧ (¬ (r6 = 0) → (vp_in ((8 : Int32) + p2) 13 ∧ post (s5 5 0 ((8 : Int32) + p2).toNatClampNeg) s5))))) ∧ (p1 = (2 : Int32) → post (σ 5 0 (12 : Int32).toNatClampNeg) σ) ∧ ((∀ i : Nat, i < 3 → ¬ p1 = Int32.ofInt (0 + i)) → post (-102 : Int32) σ))
set_option maxHeartbeats 4000000 in
set_option maxRecDepth 100000 in
theorem kX9_coins (l : Launch) (G : qx_Gx) (t1 t2 : Nat) (ad : Nat → Nat → Nat) (p1 : Int32) (p2 : Int32) (σ : qx_St) (post : Int32 → qx_St → Prop) (hw : wX9_coins p1 p2 σ post) : qx_Mi l G t1 t2 (qx_w0 ad) yX9_coins cX9_coins 3 (some .int) { frames := 2, cells := 0, slots := 0, locals := 42 } [.ref (ad 0 0), .int p1, .int p2] σ post := by
  unfold wX9_coins at hw
  refine qx_start qx_mcX9_coins (Nat.le_of_ble_eq_true rfl) (fun K hKl hR X hr hlk => ?_)
  subst hKl
  refine (show qx_V K G 3 0 0 (MQ K.2.2.2.2.2.2.2.1 (va_Qi post (qx_B G (qx_w0 ad)) G.2.2) K.2.2.2.2.2.2.1 K.2.2.2.2.1 0 0 G.2.2) (qx_w0 ad) σ 0 [(0, .ref (ad 0 0)), (1, .int p1), (2, .int p2)] [] from ?_)
  refine qx_iload_n (pc := 0) X 1 dX9_coins_0 rfl rfl ?_
  refine qx_switch (pc := 1) X (tgt := 90) (fun i => ([28, 54, 79] : List Nat).getD i 0) dX9_coins_1 (by decide) (by decide) (by decide) (by decide) ?_ ?_
  · intro i hi s1
    have hi2 : i < 3 := hi
    rcases (show i = 0 ∨ i = 1 ∨ i = 2 by omega) with rfl | rfl | rfl
    · have hw := hw.1 (s1.trans (by decide))
      refine qx_aload_n (pc := 28) X 0 dX9_coins_28 rfl rfl ?_
      refine qx_getr (f := 0) (i := 0) (a := ad 1 0) (pc := 29) X qx_gRX9_10 qx_me0 rfl dX9_coins_29 ?_
      refine qx_iload_n (pc := 32) X 2 dX9_coins_32 rfl rfl ?_
      refine qx_callVi (f := 1) (i := 0) (pc := 33) X [.int p2] [] (kX4_has K.2.1 G t1 t2 ad p2 σ _ hw) qx_mcX4_has qx_lRX9_116 qx_iX4_has qx_selX4_has qx_me1 qx_rc1 rfl ⟨rfl, rfl⟩ (by rw [hR]; decide) rfl (Nat.le_of_ble_eq_true rfl) dX9_coins_33 ⟨Nat.zero_le _, Nat.zero_le _⟩ (fun r3 s2 hw => ?_)
      refine qx_if_eq (tgt := 51) (pc := 36) X dX9_coins_36 (by decide) (fun c4 => ?_) (fun c4 => ?_)
      · have hw := hw.1 c4
        refine qx_bipush (v := -101) (pc := 51) X dX9_coins_51 (by decide) ?_
        exact qx_iret (pc := 53) X hr hlk hw dX9_coins_53
      · have hw := hw.2 c4
        refine qx_aload_n (pc := 39) X 0 dX9_coins_39 rfl rfl ?_
        refine qx_getr (f := 0) (i := 0) (a := ad 3 0) (pc := 40) X qx_gRX9_19 qx_me0 rfl dX9_coins_40 ?_
        refine qx_getr (f := 3) (i := 0) (a := ad 5 0) (pc := 43) X qx_gRX9_123 qx_me3 rfl dX9_coins_43 ?_
        refine qx_iload_n (pc := 46) X 2 dX9_coins_46 rfl rfl ?_
        refine qx_iald (f := 5) (i := 0) (pc := 47) X rfl qx_me5 hw.1 dX9_coins_47 ?_
        have hw := hw.2
        refine qx_goto (tgt := 53) (pc := 48) X dX9_coins_48 (by decide) ?_
        exact qx_iret (pc := 53) X hr hlk hw dX9_coins_53
    · have hw := hw.2.1 (s1.trans (by decide))
      refine qx_iload_n (pc := 54) X 2 dX9_coins_54 rfl rfl ?_
      refine qx_callSi (pc := 55) X [.int p2] [] (kX9_isUser K.2.1 G t1 t2 ad p2 σ _ hw) qx_mcX9_isUser qx_lRX9_126 qx_sX9_isUser rfl ⟨rfl, rfl⟩ (by rw [hR]; decide) rfl (Nat.le_of_ble_eq_true rfl) dX9_coins_55 ⟨Nat.zero_le _, Nat.zero_le _⟩ (fun r6 s5 hw => ?_)
      refine qx_if_eq (tgt := 76) (pc := 58) X dX9_coins_58 (by decide) (fun c7 => ?_) (fun c7 => ?_)
      · have hw := hw.1 c7
        refine qx_bipush (v := -101) (pc := 76) X dX9_coins_76 (by decide) ?_
        exact qx_iret (pc := 78) X hr hlk hw dX9_coins_78
      · have hw := hw.2 c7
        refine qx_aload_n (pc := 61) X 0 dX9_coins_61 rfl rfl ?_
        refine qx_getr (f := 0) (i := 0) (a := ad 3 0) (pc := 62) X qx_gRX9_19 qx_me0 rfl dX9_coins_62 ?_
        refine qx_getr (f := 3) (i := 0) (a := ad 5 0) (pc := 65) X qx_gRX9_123 qx_me3 rfl dX9_coins_65 ?_
        refine qx_bipush (v := 8) (pc := 68) X dX9_coins_68 (by decide) ?_
        refine qx_iload_n (pc := 70) X 2 dX9_coins_70 rfl rfl ?_
        refine qx_iadd (pc := 71) X dX9_coins_71 ?_
        refine qx_iald (f := 5) (i := 0) (pc := 72) X rfl qx_me5 hw.1 dX9_coins_72 ?_
        have hw := hw.2
        refine qx_goto (tgt := 78) (pc := 73) X dX9_coins_73 (by decide) ?_
        exact qx_iret (pc := 78) X hr hlk hw dX9_coins_78
    · have hw := hw.2.2.1 (s1.trans (by decide))
      refine qx_aload_n (pc := 79) X 0 dX9_coins_79 rfl rfl ?_
      refine qx_getr (f := 0) (i := 0) (a := ad 3 0) (pc := 80) X qx_gRX9_19 qx_me0 rfl dX9_coins_80 ?_
      refine qx_getr (f := 3) (i := 0) (a := ad 5 0) (pc := 83) X qx_gRX9_123 qx_me3 rfl dX9_coins_83 ?_
      refine qx_bipush (v := 12) (pc := 86) X dX9_coins_86 (by decide) ?_
      refine qx_iald (f := 5) (i := 0) (pc := 88) X rfl qx_me5 (by show ¬ (_ ∨ _); decide) dX9_coins_88 ?_
      exact qx_iret (pc := 89) X hr hlk hw dX9_coins_89
  · intro s1
    have hw := hw.2.2.2 s1
    refine qx_bipush (v := -102) (pc := 90) X dX9_coins_90 (by decide) ?_
    exact qx_iret (pc := 92) X hr hlk hw dX9_coins_92
def wX9_count (p1 : Int32) (σ : qx_St) (post : Int32 → qx_St → Prop) : Prop := ((p1 = (0 : Int32) → post (σ 1 0 1) σ) ∧ (p1 = (1 : Int32) → post (σ 7 0 8) σ) ∧ (p1 = (2 : Int32) → post (σ 7 0 9) σ) ∧ (p1 = (3 : Int32) → wX4_stepsInAll  σ (fun r3 s2 => post r3 s2)) ∧ ((∀ i : Nat, i < 4 → ¬ p1 = Int32.ofInt (0 + i)) → post (-102 : Int32) σ))
set_option maxHeartbeats 4000000 in
set_option maxRecDepth 100000 in
theorem kX9_count (l : Launch) (G : qx_Gx) (t1 t2 : Nat) (ad : Nat → Nat → Nat) (p1 : Int32) (σ : qx_St) (post : Int32 → qx_St → Prop) (hw : wX9_count p1 σ post) : qx_Mi l G t1 t2 (qx_w0 ad) yX9_count cX9_count 2 (some .int) { frames := 1, cells := 0, slots := 0, locals := 22 } [.ref (ad 0 0), .int p1] σ post := by
  unfold wX9_count at hw
  refine qx_start qx_mcX9_count (Nat.le_of_ble_eq_true rfl) (fun K hKl hR X hr hlk => ?_)
  subst hKl
  refine (show qx_V K G 2 0 0 (MQ K.2.2.2.2.2.2.2.1 (va_Qi post (qx_B G (qx_w0 ad)) G.2.2) K.2.2.2.2.2.2.1 K.2.2.2.2.1 0 0 G.2.2) (qx_w0 ad) σ 0 [(0, .ref (ad 0 0)), (1, .int p1)] [] from ?_)
  refine qx_iload_n (pc := 0) X 1 dX9_count_0 rfl rfl ?_
  refine qx_switch (pc := 1) X (tgt := 64) (fun i => ([32, 40, 48, 56] : List Nat).getD i 0) dX9_count_1 (by decide) (by decide) (by decide) (by decide) ?_ ?_
  · intro i hi s1
    have hi2 : i < 4 := hi
    rcases (show i = 0 ∨ i = 1 ∨ i = 2 ∨ i = 3 by omega) with rfl | rfl | rfl | rfl
    · have hw := hw.1 (s1.trans (by decide))
      refine qx_aload_n (pc := 32) X 0 dX9_count_32 rfl rfl ?_
      refine qx_getr (f := 0) (i := 0) (a := ad 1 0) (pc := 33) X qx_gRX9_10 qx_me0 rfl dX9_count_33 ?_
      refine qx_geti (f := 1) (i := 0) (pc := 36) X qx_gRX9_39 qx_me1 dX9_count_36 ?_
      exact qx_iret (pc := 39) X hr hlk hw dX9_count_39
    · have hw := hw.2.1 (s1.trans (by decide))
      refine qx_aload_n (pc := 40) X 0 dX9_count_40 rfl rfl ?_
      refine qx_getr (f := 0) (i := 0) (a := ad 7 0) (pc := 41) X qx_gRX9_26 qx_me0 rfl dX9_count_41 ?_
      refine qx_geti (f := 7) (i := 0) (pc := 44) X qx_gRX9_129 qx_me7 dX9_count_44 ?_
      exact qx_iret (pc := 47) X hr hlk hw dX9_count_47
    · have hw := hw.2.2.1 (s1.trans (by decide))
      refine qx_aload_n (pc := 48) X 0 dX9_count_48 rfl rfl ?_
      refine qx_getr (f := 0) (i := 0) (a := ad 7 0) (pc := 49) X qx_gRX9_26 qx_me0 rfl dX9_count_49 ?_
      refine qx_geti (f := 7) (i := 0) (pc := 52) X qx_gRX9_132 qx_me7 dX9_count_52 ?_
      exact qx_iret (pc := 55) X hr hlk hw dX9_count_55
    · have hw := hw.2.2.2.1 (s1.trans (by decide))
      refine qx_aload_n (pc := 56) X 0 dX9_count_56 rfl rfl ?_
      refine qx_getr (f := 0) (i := 0) (a := ad 1 0) (pc := 57) X qx_gRX9_10 qx_me0 rfl dX9_count_57 ?_
      refine qx_callVi (f := 1) (i := 0) (pc := 60) X [] [] (kX4_stepsInAll K.2.1 G t1 t2 ad  σ _ hw) qx_mcX4_stepsInAll qx_lRX9_135 qx_iX4_stepsInAll qx_selX4_stepsInAll qx_me1 qx_rc1 rfl ⟨rfl, rfl⟩ (by rw [hR]; decide) rfl (Nat.le_of_ble_eq_true rfl) dX9_count_60 ⟨Nat.zero_le _, Nat.zero_le _⟩ (fun r3 s2 hw => ?_)
      exact qx_iret (pc := 63) X hr hlk hw dX9_count_63
  · intro s1
    have hw := hw.2.2.2.2 s1
    refine qx_bipush (v := -102) (pc := 64) X dX9_count_64 (by decide) ?_
    exact qx_iret (pc := 66) X hr hlk hw dX9_count_66
def wX9_clear (σ : qx_St) (post : Int32 → qx_St → Prop) : Prop := wX4_reset  σ (fun s1 => wX8_reset  s1 (fun s3 => wX5_reset  s3 (fun s5 => post (σ 1 0 1) s5)))
set_option maxHeartbeats 4000000 in
set_option maxRecDepth 100000 in
theorem kX9_clear (l : Launch) (G : qx_Gx) (t1 t2 : Nat) (ad : Nat → Nat → Nat) (σ : qx_St) (post : Int32 → qx_St → Prop) (hw : wX9_clear  σ post) : qx_Mi l G t1 t2 (qx_w0 ad) yX9_clear cX9_clear 2 (some .int) { frames := 4, cells := 0, slots := 0, locals := 86 } [.ref (ad 0 0)] σ post := by
  unfold wX9_clear at hw
  refine qx_start qx_mcX9_clear (Nat.le_of_ble_eq_true rfl) (fun K hKl hR X hr hlk => ?_)
  subst hKl
  refine (show qx_V K G 2 0 0 (MQ K.2.2.2.2.2.2.2.1 (va_Qi post (qx_B G (qx_w0 ad)) G.2.2) K.2.2.2.2.2.2.1 K.2.2.2.2.1 0 0 G.2.2) (qx_w0 ad) σ 0 [(0, .ref (ad 0 0))] [] from ?_)
  refine qx_aload_n (pc := 0) X 0 dX9_clear_0 rfl rfl ?_
  refine qx_getr (f := 0) (i := 0) (a := ad 1 0) (pc := 1) X qx_gRX9_10 qx_me0 rfl dX9_clear_1 ?_
  refine qx_geti (f := 1) (i := 0) (pc := 4) X qx_gRX9_39 qx_me1 dX9_clear_4 ?_
  refine qx_istore_n (lv' := [(1, .int (σ 1 0 1)), (0, .ref (ad 0 0))]) (pc := 7) X dX9_clear_7 rfl (by decide) rfl ?_
  refine qx_aload_n (pc := 8) X 1 dX9_clear_8 rfl rfl ?_
  refine qx_getr (f := 0) (i := 0) (a := ad 1 0) (pc := 9) X qx_gRX9_10 qx_me0 rfl dX9_clear_9 ?_
  refine qx_callVv (f := 1) (i := 0) (pc := 12) X [] [] (kX4_reset K.2.1 G t1 t2 ad  σ _ hw) qx_mcX4_reset qx_lRX9_138 qx_iX4_reset qx_selX4_reset qx_me1 qx_rc1 rfl ⟨rfl, rfl⟩ (by rw [hR]; decide) rfl (Nat.le_of_ble_eq_true rfl) dX9_clear_12 ⟨Nat.zero_le _, Nat.zero_le _⟩ (fun s1 hw => ?_)
  refine qx_aload_n (pc := 15) X 1 dX9_clear_15 rfl rfl ?_
  refine qx_getr (f := 0) (i := 0) (a := ad 3 0) (pc := 16) X qx_gRX9_19 qx_me0 rfl dX9_clear_16 ?_
  refine qx_callVv (f := 3) (i := 0) (pc := 19) X [] [] (kX8_reset K.2.1 G t1 t2 ad  s1 _ hw) qx_mcX8_reset qx_lRX9_141 qx_iX8_reset qx_selX8_reset qx_me3 qx_rc3 rfl ⟨rfl, rfl⟩ (by rw [hR]; decide) rfl (Nat.le_of_ble_eq_true rfl) dX9_clear_19 ⟨Nat.zero_le _, Nat.zero_le _⟩ (fun s3 hw => ?_)
  refine qx_aload_n (pc := 22) X 1 dX9_clear_22 rfl rfl ?_
  refine qx_getr (f := 0) (i := 0) (a := ad 7 0) (pc := 23) X qx_gRX9_26 qx_me0 rfl dX9_clear_23 ?_
  refine qx_callVv (f := 7) (i := 0) (pc := 26) X [] [] (kX5_reset K.2.1 G t1 t2 ad  s3 _ hw) qx_mcX5_reset qx_lRX9_142 qx_iX5_reset qx_selX5_reset qx_me7 qx_rc7 rfl ⟨rfl, rfl⟩ (by rw [hR]; decide) rfl (Nat.le_of_ble_eq_true rfl) dX9_clear_26 ⟨Nat.zero_le _, Nat.zero_le _⟩ (fun s5 hw => ?_)
  refine qx_iload_n (pc := 29) X 0 dX9_clear_29 rfl rfl ?_
  exact qx_iret (pc := 30) X hr hlk hw dX9_clear_30
