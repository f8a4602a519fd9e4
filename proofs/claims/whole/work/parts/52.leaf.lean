/-! constructors: those that make arrays alone -/
set_option maxHeartbeats 4000000 in
set_option maxRecDepth 100000 in
theorem kwJ7_rangeCheck_23922 (l : Launch) (G : qx_Gx) (t1 t2 : Nat) (w : qx_Wx) (p0 : Int32) (p1 : Int32) (p2 : Int32) (σ : qx_St) (post : qx_St → Prop) (hw : wJ7_rangeCheck_23922 p0 p1 p2 σ post) : qx_Mv l G t1 t2 w yJ7_rangeCheck_23922 cJ7_rangeCheck_23922 3 none { frames := 0, cells := 0, slots := 0, locals := 0 } [.int p0, .int p1, .int p2] σ post := by
  unfold wJ7_rangeCheck_23922 at hw
  refine qx_start qx_mcJ7_rangeCheck_23922 (Nat.le_of_ble_eq_true rfl) (fun K hKl hR X hr hlk => ?_)
  subst hKl
  refine (show qx_V K G 3 0 0 (MQ K.2.2.2.2.2.2.2.1 (va_Qv post (qx_B G w) G.2.2) K.2.2.2.2.2.2.1 K.2.2.2.2.1 0 0 G.2.2) w σ 0 [(0, .int p0), (1, .int p1), (2, .int p2)] [] from ?_)
  refine qx_iload_n (pc := 0) X 1 dJ7_rangeCheck_23922_0 rfl rfl ?_
  refine qx_iload_n (pc := 1) X 2 dJ7_rangeCheck_23922_1 rfl rfl ?_
  refine qx_icmp_le (tgt := 46) (pc := 2) X dJ7_rangeCheck_23922_2 (by decide) (fun c3 => ?_) (fun c3 => ?_)
  · have hw := hw.1 c3
    refine qx_iload_n (pc := 46) X 1 dJ7_rangeCheck_23922_46 rfl rfl ?_
    refine qx_if_ge (tgt := 59) (pc := 47) X dJ7_rangeCheck_23922_47 (by decide) (fun c2 => ?_) (fun c2 => ?_)
    · have hw := hw.1 c2
      refine qx_iload_n (pc := 59) X 2 dJ7_rangeCheck_23922_59 rfl rfl ?_
      refine qx_iload_n (pc := 60) X 0 dJ7_rangeCheck_23922_60 rfl rfl ?_
      refine qx_icmp_le (tgt := 73) (pc := 61) X dJ7_rangeCheck_23922_61 (by decide) (fun c1 => ?_) (fun c1 => ?_)
      · have hw := hw.1 c1
        exact qx_vret (pc := 73) X hr hlk hw dJ7_rangeCheck_23922_73
      · have hw := hw.2 c1
        exact hw.elim
    · have hw := hw.2 c2
      exact hw.elim
  · have hw := hw.2 c3
    exact hw.elim
set_option maxHeartbeats 4000000 in
set_option maxRecDepth 100000 in
theorem kwJ7_fill_fda19 (l : Launch) (G : qx_Gx) (t1 t2 : Nat) (w : qx_Wx) (f0 : Nat) (i0 : Nat) (n0 : Nat) (p1 : Int32) (p2 : Int32) (p3 : Int32) (hs0 : qx_sh f0 = .inr (.inl (0, n0))) (hm0 : (f0, i0) ∈ w.1) (σ : qx_St) (post : qx_St → Prop) (hw : wJ7_fill_fda19 f0 i0 n0 p1 p2 p3 σ post) : qx_Mv l G t1 t2 w yJ7_fill_fda19 cJ7_fill_fda19 5 none { frames := 1, cells := 0, slots := 0, locals := 22 } [.ref (w.2.1 f0 i0), .int p1, .int p2, .int p3] σ post := by
  unfold wJ7_fill_fda19 at hw
  refine qx_start qx_mcJ7_fill_fda19 (Nat.le_of_ble_eq_true rfl) (fun K hKl hR X hr hlk => ?_)
  subst hKl
  have L10 : ∀ (n : Nat) (a1 : Int32) (a2 : Int32) (a3 : Int32) (a4 : Int32) (σ : qx_St), wJ7_fill_fda19_l10 f0 i0 n0 p1 p2 p3 post n a1 a2 a3 a4 σ → qx_V K G 5 0 0 (MQ K.2.2.2.2.2.2.2.1 (va_Qv post (qx_B G w) G.2.2) K.2.2.2.2.2.2.1 K.2.2.2.2.1 0 0 G.2.2) w σ 10 [(0, .ref (w.2.1 f0 i0)), (1, .int a1), (2, .int a2), (3, .int a3), (4, .int a4)] [] := by
    intro n
    induction n with
    | zero => intro a1 a2 a3 a4 σ hw; exact hw.elim
    | succ n ih =>
      intro a1 a2 a3 a4 σ hw
      refine qx_iload (pc := 10) X 4 dJ7_fill_fda19_10 rfl ?_
      refine qx_iload_n (pc := 12) X 2 dJ7_fill_fda19_12 rfl rfl ?_
      refine qx_icmp_ge (tgt := 27) (pc := 13) X dJ7_fill_fda19_13 (by decide) (fun c5 => ?_) (fun c5 => ?_)
      · have hw := hw.1 c5
        exact qx_vret (pc := 27) X hr hlk hw dJ7_fill_fda19_27
      · have hw := hw.2 c5
        refine qx_aload_n (pc := 16) X 0 dJ7_fill_fda19_16 rfl rfl ?_
        refine qx_iload (pc := 17) X 4 dJ7_fill_fda19_17 rfl ?_
        refine qx_iload_n (pc := 19) X 3 dJ7_fill_fda19_19 rfl rfl ?_
        refine qx_iast1 (f := f0) (i := i0) (pc := 20) X hs0 hm0 hw.1 dJ7_fill_fda19_20 (fun s3 e4 => ?_)
        have hw := hw.2
        have hw := hw s3 e4
        refine qx_iinc (v := (a4 + 1)) (lv' := [(4, .int (a4 + 1)), (0, .ref (w.2.1 f0 i0)), (1, .int a1), (2, .int a2), (3, .int a3)]) (pc := 21) X 4 dJ7_fill_fda19_21 rfl rfl (by decide) rfl ?_
        refine qx_goto (tgt := 10) (pc := 24) X dJ7_fill_fda19_24 (by decide) ?_
        refine qx_lsub [1, 2, 3, 4, 0] rfl ?_
        exact ih a1 a2 a3 (a4 + 1) s3 hw
  refine (show qx_V K G 5 0 0 (MQ K.2.2.2.2.2.2.2.1 (va_Qv post (qx_B G w) G.2.2) K.2.2.2.2.2.2.1 K.2.2.2.2.1 0 0 G.2.2) w σ 0 [(0, .ref (w.2.1 f0 i0)), (1, .int p1), (2, .int p2), (3, .int p3)] [] from ?_)
  refine qx_aload_n (pc := 0) X 0 dJ7_fill_fda19_0 rfl rfl ?_
  refine qx_aleni (f := f0) (i := i0) (v := Int32.ofNat n0) (pc := 1) X hs0 hm0 rfl dJ7_fill_fda19_1 ?_
  refine qx_iload_n (pc := 2) X 1 dJ7_fill_fda19_2 rfl rfl ?_
  refine qx_iload_n (pc := 3) X 2 dJ7_fill_fda19_3 rfl rfl ?_
  refine qx_callSv (pc := 4) X [.int (Int32.ofNat n0), .int p1, .int p2] [] (kwJ7_rangeCheck_23922 K.2.1 G t1 t2 w (Int32.ofNat n0) p1 p2 σ _ hw) qx_mcJ7_rangeCheck_23922 qx_lRJ7_13 qx_sJ7_rangeCheck_23922 rfl ⟨rfl, rfl⟩ (by rw [hR]; decide) rfl (Nat.le_of_ble_eq_true rfl) dJ7_fill_fda19_4 ⟨Nat.zero_le _, Nat.zero_le _⟩ (fun s1 hw => ?_)
  refine qx_iload_n (pc := 7) X 1 dJ7_fill_fda19_7 rfl rfl ?_
  refine qx_istore (lv' := [(4, .int p1), (0, .ref (w.2.1 f0 i0)), (1, .int p1), (2, .int p2), (3, .int p3)]) (pc := 8) X dJ7_fill_fda19_8 (by decide) rfl ?_
  refine qx_lsub [1, 2, 3, 4, 0] rfl ?_
  obtain ⟨n, hw⟩ := hw
  exact L10 n p1 p2 p3 p1 s1 hw
set_option maxHeartbeats 4000000 in
set_option maxRecDepth 100000 in
theorem kwX8_fillUsersPurses (l : Launch) (G : qx_Gx) (t1 t2 : Nat) (w : qx_Wx) (hm3 : (3, 0) ∈ w.1) (hm5 : (5, 0) ∈ w.1) (h35 : w.2.2 3 0 1 = some (w.2.1 5 0)) (σ : qx_St) (post : qx_St → Prop) (hw : wX8_fillUsersPurses  σ post) : qx_Mv l G t1 t2 w yX8_fillUsersPurses cX8_fillUsersPurses 1 none { frames := 2, cells := 0, slots := 0, locals := 46 } [.ref (w.2.1 3 0)] σ post := by
  unfold wX8_fillUsersPurses at hw
  refine qx_start qx_mcX8_fillUsersPurses (Nat.le_of_ble_eq_true rfl) (fun K hKl hR X hr hlk => ?_)
  subst hKl
  refine (show qx_V K G 1 0 0 (MQ K.2.2.2.2.2.2.2.1 (va_Qv post (qx_B G w) G.2.2) K.2.2.2.2.2.2.1 K.2.2.2.2.1 0 0 G.2.2) w σ 0 [(0, .ref (w.2.1 3 0))] [] from ?_)
  refine qx_aload_n (pc := 0) X 0 dX8_fillUsersPurses_0 rfl rfl ?_
  refine qx_getr (f := 3) (i := 0) (a := w.2.1 5 0) (pc := 1) X qx_gRX8_15 hm3 h35 dX8_fillUsersPurses_1 ?_
  refine qx_bipush (v := 8) (pc := 4) X dX8_fillUsersPurses_4 (by decide) ?_
  refine qx_bipush (v := 12) (pc := 6) X dX8_fillUsersPurses_6 (by decide) ?_
  refine qx_sipush (v := 10000) (pc := 8) X dX8_fillUsersPurses_8 (by decide) ?_
  refine qx_callSv (pc := 11) X [.ref (w.2.1 5 0), .int (8 : Int32), .int (12 : Int32), .int (10000 : Int32)] [] (kwJ7_fill_fda19 K.2.1 G t1 t2 w 5 0 13 (8 : Int32) (12 : Int32) (10000 : Int32) rfl hm5 σ _ hw) qx_mcJ7_fill_fda19 qx_lRX8_24 qx_sJ7_fill_fda19 rfl ⟨rfl, rfl⟩ (by rw [hR]; decide) rfl (Nat.le_of_ble_eq_true rfl) dX8_fillUsersPurses_11 ⟨Nat.zero_le _, Nat.zero_le _⟩ (fun s1 hw => ?_)
  exact qx_vret (pc := 14) X hr hlk hw dX8_fillUsersPurses_14
theorem fill_at {σ : qx_St} {post : qx_St → Prop} (hp : post (iF 5 0 10000 4 8 σ)) : wX8_fillUsersPurses σ post := by
  unfold wX8_fillUsersPurses wJ7_fill_fda19 wJ7_rangeCheck_23922
  refine ⟨fun _ => ⟨fun _ => ⟨fun _ => ?_, fun h => absurd ?_ h⟩, fun h => absurd ?_ h⟩, fun h => absurd ?_ h⟩
  · exact ⟨_, l_fillr (N := 13) (hi := 12) (by omega) (by omega) 4 8 _ (by omega) hp⟩
  · decide
  · decide
  · decide
set_option maxRecDepth 100000 in
theorem nX1 (l : Launch) (G : qx_Gx) (t1 t2 : Nat) (w : qx_Wx) (σ : qx_St) (i : Nat) (hm : (12, i) ∈ w.1) (n13 : (13, i) ∉ w.1) (hz : ∀ f i j, f ≠ 5 → σ f i j = 0) : qx_Mc l G t1 t2 w yX1_init cX1_init 1 { frames := 1, cells := 1, slots := 8, locals := 20 } [.ref (w.2.1 12 i)] σ (fun w1 σ1 => σ1 = σ ∧ Gw (fun f' i' _ => f' = 12 ∧ i' = i) (fun f' i' => (f' = 13) ∧ i' = i) w w1 ∧ PT w1 12 i 0 13 i) 1 8 := by
  refine cx_start qx_mcX1_init (Nat.le_of_ble_eq_true rfl) (fun K hKl hR X hr hlk hin hA => ?_)
  subst hKl
  refine (show qx_V K G 1 0 0 (MQ K.2.2.2.2.2.2.2.1 (qx_Qc G _) K.2.2.2.2.2.2.1 K.2.2.2.2.1 1 8 G.2.2) w σ 0 [(0, .ref (w.2.1 12 i))] [] from ?_)
  refine qx_aload_n (pc := 0) X 0 dX1_init_0 rfl rfl ?_
  refine cx_oinit (pc := 1) X qx_lRX1_1 (by rw [hR]; decide) (by rw [hR]; decide) dX1_init_1 ?_
  refine qx_aload_n (pc := 4) X 0 dX1_init_4 rfl rfl ?_
  refine qx_bipush (v := 8) (pc := 5) X dX1_init_5 (by decide) ?_
  refine cx_mki (pc := 7) X hA hin qx_fRX1_9 rfl hm rfl n13 (fun j => hz 13 i j (by decide)) (by decide) (by decide) (by decide) (by rw [hR]; decide) (by rw [hR]; decide) dX1_init_7 dX1_init_9 (fun w1 G1 P1 => ?_)
  have H1 : Gw (fun f' i' _ => f' = 12 ∧ i' = i) (fun f' i' => (f' = 13) ∧ i' = i) w w1 := ⟨fun f' i' => G1.1 f' i', G1.2.1, fun f' i' h j q => G1.2.2 f' i' h j (fun z => q ⟨z.1, z.2.1⟩)⟩
  exact cx_vret (pc := 12) X hr hlk ⟨rfl, H1, P1⟩ dX1_init_12
set_option maxRecDepth 100000 in
theorem nX6 (l : Launch) (G : qx_Gx) (t1 t2 : Nat) (w : qx_Wx) (σ : qx_St) (i : Nat) (hm : (14, i) ∈ w.1) (n15 : (15, i) ∉ w.1) (n16 : (16, i) ∉ w.1) (hz : ∀ f i j, f ≠ 5 → σ f i j = 0) : qx_Mc l G t1 t2 w yX6_init cX6_init 1 { frames := 1, cells := 2, slots := 77, locals := 20 } [.ref (w.2.1 14 i)] σ (fun w1 σ1 => σ1 = σ ∧ Gw (fun f' i' _ => f' = 14 ∧ i' = i) (fun f' i' => (f' = 15 ∨ f' = 16) ∧ i' = i) w w1 ∧ PT w1 14 i 0 15 i ∧ PT w1 14 i 1 16 i) 2 77 := by
  refine cx_start qx_mcX6_init (Nat.le_of_ble_eq_true rfl) (fun K hKl hR X hr hlk hin hA => ?_)
  subst hKl
  refine (show qx_V K G 1 0 0 (MQ K.2.2.2.2.2.2.2.1 (qx_Qc G _) K.2.2.2.2.2.2.1 K.2.2.2.2.1 2 77 G.2.2) w σ 0 [(0, .ref (w.2.1 14 i))] [] from ?_)
  refine qx_aload_n (pc := 0) X 0 dX6_init_0 rfl rfl ?_
  refine cx_oinit (pc := 1) X qx_lRX6_3 (by rw [hR]; decide) (by rw [hR]; decide) dX6_init_1 ?_
  refine qx_aload_n (pc := 4) X 0 dX6_init_4 rfl rfl ?_
  refine qx_bipush (v := 64) (pc := 5) X dX6_init_5 (by decide) ?_
  refine cx_mki (pc := 7) X hA hin qx_fRX6_9 rfl hm rfl n15 (fun j => hz 15 i j (by decide)) (by decide) (by decide) (by decide) (by rw [hR]; decide) (by rw [hR]; decide) dX6_init_7 dX6_init_9 (fun w1 G1 P1 => ?_)
  have H1 : Gw (fun f' i' _ => f' = 14 ∧ i' = i) (fun f' i' => (f' = 15) ∧ i' = i) w w1 := ⟨fun f' i' => G1.1 f' i', G1.2.1, fun f' i' h j q => G1.2.2 f' i' h j (fun z => q ⟨z.1, z.2.1⟩)⟩
  refine qx_aload_n (pc := 12) X 0 dX6_init_12 rfl rfl ?_
  refine qx_bipush (v := 13) (pc := 13) X dX6_init_13 (by decide) ?_
  refine cx_mki (pc := 15) X hA hin qx_fRX6_17 rfl ((H1.1 14 i).mpr (Or.inl hm)) (H1.2.1 14 i hm) (fun h => by rcases (H1.1 16 i).mp h with h | h <;> first | exact n16 h | omega) (fun j => hz 16 i j (by decide)) (by decide) (by decide) (by decide) (by rw [hR]; decide) (by rw [hR]; decide) dX6_init_15 dX6_init_17 (fun w2 G2 P2 => ?_)
  have H2 : Gw (fun f' i' _ => f' = 14 ∧ i' = i) (fun f' i' => (f' = 15 ∨ f' = 16) ∧ i' = i) w w2 := H1.trans G2 (fun f' i' j h _ => h.elim id (fun q => ⟨q.1, q.2.1⟩)) (fun f' i' => by omega)
  have P1 := P1.mono G2 (fun h => absurd h.2.2 (by decide))
  exact cx_vret (pc := 20) X hr hlk ⟨rfl, H2, P1, P2⟩ dX6_init_20
set_option maxRecDepth 100000 in
theorem nX3 (l : Launch) (G : qx_Gx) (t1 t2 : Nat) (w : qx_Wx) (σ : qx_St) (i : Nat) (hm : (17, i) ∈ w.1) (n18 : (18, i) ∉ w.1) (n19 : (19, i) ∉ w.1) (n20 : (20, i) ∉ w.1) (hz : ∀ f i j, f ≠ 5 → σ f i j = 0) : qx_Mc l G t1 t2 w yX3_init cX3_init 1 { frames := 1, cells := 3, slots := 60, locals := 20 } [.ref (w.2.1 17 i)] σ (fun w1 σ1 => σ1 = σ ∧ Gw (fun f' i' _ => f' = 17 ∧ i' = i) (fun f' i' => (f' = 18 ∨ f' = 19 ∨ f' = 20) ∧ i' = i) w w1 ∧ PT w1 17 i 0 18 i ∧ PT w1 17 i 1 19 i ∧ PT w1 17 i 2 20 i) 3 60 := by
  refine cx_start qx_mcX3_init (Nat.le_of_ble_eq_true rfl) (fun K hKl hR X hr hlk hin hA => ?_)
  subst hKl
  refine (show qx_V K G 1 0 0 (MQ K.2.2.2.2.2.2.2.1 (qx_Qc G _) K.2.2.2.2.2.2.1 K.2.2.2.2.1 3 60 G.2.2) w σ 0 [(0, .ref (w.2.1 17 i))] [] from ?_)
  refine qx_aload_n (pc := 0) X 0 dX3_init_0 rfl rfl ?_
  refine cx_oinit (pc := 1) X qx_lRX3_3 (by rw [hR]; decide) (by rw [hR]; decide) dX3_init_1 ?_
  refine qx_aload_n (pc := 4) X 0 dX3_init_4 rfl rfl ?_
  refine qx_bipush (v := 20) (pc := 5) X dX3_init_5 (by decide) ?_
  refine cx_mki (pc := 7) X hA hin qx_fRX3_9 rfl hm rfl n18 (fun j => hz 18 i j (by decide)) (by decide) (by decide) (by decide) (by rw [hR]; decide) (by rw [hR]; decide) dX3_init_7 dX3_init_9 (fun w1 G1 P1 => ?_)
  have H1 : Gw (fun f' i' _ => f' = 17 ∧ i' = i) (fun f' i' => (f' = 18) ∧ i' = i) w w1 := ⟨fun f' i' => G1.1 f' i', G1.2.1, fun f' i' h j q => G1.2.2 f' i' h j (fun z => q ⟨z.1, z.2.1⟩)⟩
  refine qx_aload_n (pc := 12) X 0 dX3_init_12 rfl rfl ?_
  refine qx_bipush (v := 20) (pc := 13) X dX3_init_13 (by decide) ?_
  refine cx_mki (pc := 15) X hA hin qx_fRX3_15 rfl ((H1.1 17 i).mpr (Or.inl hm)) (H1.2.1 17 i hm) (fun h => by rcases (H1.1 19 i).mp h with h | h <;> first | exact n19 h | omega) (fun j => hz 19 i j (by decide)) (by decide) (by decide) (by decide) (by rw [hR]; decide) (by rw [hR]; decide) dX3_init_15 dX3_init_17 (fun w2 G2 P2 => ?_)
  have H2 : Gw (fun f' i' _ => f' = 17 ∧ i' = i) (fun f' i' => (f' = 18 ∨ f' = 19) ∧ i' = i) w w2 := H1.trans G2 (fun f' i' j h _ => h.elim id (fun q => ⟨q.1, q.2.1⟩)) (fun f' i' => by omega)
  have P1 := P1.mono G2 (fun h => absurd h.2.2 (by decide))
  refine qx_aload_n (pc := 20) X 0 dX3_init_20 rfl rfl ?_
  refine qx_bipush (v := 20) (pc := 21) X dX3_init_21 (by decide) ?_
  refine cx_mki (pc := 23) X hA hin qx_fRX3_18 rfl ((H2.1 17 i).mpr (Or.inl hm)) (H2.2.1 17 i hm) (fun h => by rcases (H2.1 20 i).mp h with h | h <;> first | exact n20 h | omega) (fun j => hz 20 i j (by decide)) (by decide) (by decide) (by decide) (by rw [hR]; decide) (by rw [hR]; decide) dX3_init_23 dX3_init_25 (fun w3 G3 P3 => ?_)
  have H3 : Gw (fun f' i' _ => f' = 17 ∧ i' = i) (fun f' i' => (f' = 18 ∨ f' = 19 ∨ f' = 20) ∧ i' = i) w w3 := H2.trans G3 (fun f' i' j h _ => h.elim id (fun q => ⟨q.1, q.2.1⟩)) (fun f' i' => by omega)
  have P1 := P1.mono G3 (fun h => absurd h.2.2 (by decide))
  have P2 := P2.mono G3 (fun h => absurd h.2.2 (by decide))
  exact cx_vret (pc := 28) X hr hlk ⟨rfl, H3, P1, P2, P3⟩ dX3_init_28
set_option maxRecDepth 100000 in
theorem nX5 (l : Launch) (G : qx_Gx) (t1 t2 : Nat) (w : qx_Wx) (σ : qx_St) (hm : (7, 0) ∈ w.1) (n8 : (8, 0) ∉ w.1) (hz : ∀ f i j, f ≠ 5 → σ f i j = 0) : qx_Mc l G t1 t2 w yX5_init cX5_init 1 { frames := 1, cells := 1, slots := 280, locals := 20 } [.ref (w.2.1 7 0)] σ (fun w1 σ1 => σ1 = σ ∧ Gw (fun f' i' _ => f' = 7 ∧ i' = 0) (fun f' i' => (f' = 8) ∧ i' = 0) w w1 ∧ PT w1 7 0 0 8 0) 1 280 := by
  refine cx_start qx_mcX5_init (Nat.le_of_ble_eq_true rfl) (fun K hKl hR X hr hlk hin hA => ?_)
  subst hKl
  refine (show qx_V K G 1 0 0 (MQ K.2.2.2.2.2.2.2.1 (qx_Qc G _) K.2.2.2.2.2.2.1 K.2.2.2.2.1 1 280 G.2.2) w σ 0 [(0, .ref (w.2.1 7 0))] [] from ?_)
  refine qx_aload_n (pc := 0) X 0 dX5_init_0 rfl rfl ?_
  refine cx_oinit (pc := 1) X qx_lRX5_1 (by rw [hR]; decide) (by rw [hR]; decide) dX5_init_1 ?_
  refine qx_aload_n (pc := 4) X 0 dX5_init_4 rfl rfl ?_
  refine qx_sipush (v := 280) (pc := 5) X dX5_init_5 (by decide) ?_
  refine cx_mki (pc := 8) X hA hin qx_fRX5_9 rfl hm rfl n8 (fun j => hz 8 0 j (by decide)) (by decide) (by decide) (by decide) (by rw [hR]; decide) (by rw [hR]; decide) dX5_init_8 dX5_init_10 (fun w1 G1 P1 => ?_)
  have H1 : Gw (fun f' i' _ => f' = 7 ∧ i' = 0) (fun f' i' => (f' = 8) ∧ i' = 0) w w1 := ⟨fun f' i' => G1.1 f' i', G1.2.1, fun f' i' h j q => G1.2.2 f' i' h j (fun z => q ⟨z.1, z.2.1⟩)⟩
  exact cx_vret (pc := 13) X hr hlk ⟨rfl, H1, P1⟩ dX5_init_13
set_option maxRecDepth 100000 in
theorem nX8 (l : Launch) (G : qx_Gx) (t1 t2 : Nat) (w : qx_Wx) (σ : qx_St) (hm : (3, 0) ∈ w.1) (n4 : (4, 0) ∉ w.1) (n5 : (5, 0) ∉ w.1) (n6 : (6, 0) ∉ w.1) (hz : ∀ f i j, σ f i j = 0) : qx_Mc l G t1 t2 w yX8_init cX8_init 1 { frames := 3, cells := 3, slots := 317, locals := 66 } [.ref (w.2.1 3 0)] σ (fun w1 σ1 => σ1 = iF 5 0 10000 4 8 σ ∧ Gw (fun f' i' _ => f' = 3 ∧ i' = 0) (fun f' i' => (f' = 4 ∨ f' = 5 ∨ f' = 6) ∧ i' = 0) w w1 ∧ PT w1 3 0 0 4 0 ∧ PT w1 3 0 1 5 0 ∧ PT w1 3 0 2 6 0) 3 317 := by
  refine cx_start qx_mcX8_init (Nat.le_of_ble_eq_true rfl) (fun K hKl hR X hr hlk hin hA => ?_)
  subst hKl
  refine (show qx_V K G 1 0 0 (MQ K.2.2.2.2.2.2.2.1 (qx_Qc G _) K.2.2.2.2.2.2.1 K.2.2.2.2.1 3 317 G.2.2) w σ 0 [(0, .ref (w.2.1 3 0))] [] from ?_)
  refine qx_aload_n (pc := 0) X 0 dX8_init_0 rfl rfl ?_
  refine cx_oinit (pc := 1) X qx_lRX8_5 (by rw [hR]; decide) (by rw [hR]; decide) dX8_init_1 ?_
  refine qx_aload_n (pc := 4) X 0 dX8_init_4 rfl rfl ?_
  refine qx_bipush (v := 64) (pc := 5) X dX8_init_5 (by decide) ?_
  refine cx_mki (pc := 7) X hA hin qx_fRX8_11 rfl hm rfl n4 (fun j => hz 4 0 j) (by decide) (by decide) (by decide) (by rw [hR]; decide) (by rw [hR]; decide) dX8_init_7 dX8_init_9 (fun w1 G1 P1 => ?_)
  have H1 : Gw (fun f' i' _ => f' = 3 ∧ i' = 0) (fun f' i' => (f' = 4) ∧ i' = 0) w w1 := ⟨fun f' i' => G1.1 f' i', G1.2.1, fun f' i' h j q => G1.2.2 f' i' h j (fun z => q ⟨z.1, z.2.1⟩)⟩
  refine qx_aload_n (pc := 12) X 0 dX8_init_12 rfl rfl ?_
  refine qx_bipush (v := 13) (pc := 13) X dX8_init_13 (by decide) ?_
  refine cx_mki (pc := 15) X hA hin qx_fRX8_15 rfl ((H1.1 3 0).mpr (Or.inl hm)) (H1.2.1 3 0 hm) (fun h => by rcases (H1.1 5 0).mp h with h | h <;> first | exact n5 h | omega) (fun j => hz 5 0 j) (by decide) (by decide) (by decide) (by rw [hR]; decide) (by rw [hR]; decide) dX8_init_15 dX8_init_17 (fun w2 G2 P2 => ?_)
  have H2 : Gw (fun f' i' _ => f' = 3 ∧ i' = 0) (fun f' i' => (f' = 4 ∨ f' = 5) ∧ i' = 0) w w2 := H1.trans G2 (fun f' i' j h _ => h.elim id (fun q => ⟨q.1, q.2.1⟩)) (fun f' i' => by omega)
  have P1 := P1.mono G2 (fun h => absurd h.2.2 (by decide))
  refine qx_aload_n (pc := 20) X 0 dX8_init_20 rfl rfl ?_
  refine qx_sipush (v := 240) (pc := 21) X dX8_init_21 (by decide) ?_
  refine cx_mki (pc := 24) X hA hin qx_fRX8_18 rfl ((H2.1 3 0).mpr (Or.inl hm)) (H2.2.1 3 0 hm) (fun h => by rcases (H2.1 6 0).mp h with h | h <;> first | exact n6 h | omega) (fun j => hz 6 0 j) (by decide) (by decide) (by decide) (by rw [hR]; decide) (by rw [hR]; decide) dX8_init_24 dX8_init_26 (fun w3 G3 P3 => ?_)
  have H3 : Gw (fun f' i' _ => f' = 3 ∧ i' = 0) (fun f' i' => (f' = 4 ∨ f' = 5 ∨ f' = 6) ∧ i' = 0) w w3 := H2.trans G3 (fun f' i' j h _ => h.elim id (fun q => ⟨q.1, q.2.1⟩)) (fun f' i' => by omega)
  have P1 := P1.mono G3 (fun h => absurd h.2.2 (by decide))
  have P2 := P2.mono G3 (fun h => absurd h.2.2 (by decide))
  refine qx_aload_n (pc := 29) X 0 dX8_init_29 rfl rfl ?_
  refine qx_callVv (f := 3) (i := 0) (pc := 30) X [] [] (kwX8_fillUsersPurses K.2.1 G t1 t2 w3 ((H3.1 3 0).mpr (Or.inl hm)) P2.2.1 P2.2.2 σ (fun s => s = iF 5 0 10000 4 8 σ) (fill_at rfl)) qx_mcX8_fillUsersPurses qx_lRX8_21 qx_iX8_fillUsersPurses qx_selX8_fillUsersPurses ((H3.1 3 0).mpr (Or.inl hm)) qx_rc3 rfl ⟨rfl, rfl⟩ (by rw [hR]; decide) (by rw [H3.2.1 3 0 hm]; rfl) (Nat.le_of_ble_eq_true rfl) dX8_init_30 (by rw [hR]; decide) (fun s1 e1 => ?_)
  exact cx_vret (pc := 33) X hr hlk ⟨e1, H3, P1, P2, P3⟩ dX8_init_33
