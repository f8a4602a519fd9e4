def wX10_in (p0 : Int32) (p1 : Int32) (p2 : Int32) (σ : qx_St) (post : Int32 → qx_St → Prop) : Prop := ((p0 < p1 → post (0 : Int32) σ) ∧ (¬ (p0 < p1) → ((p2 < p0 → post (0 : Int32) σ) ∧ (¬ (p2 < p0) → post (1 : Int32) σ))))
set_option maxHeartbeats 4000000 in
set_option maxRecDepth 100000 in
theorem kX10_in (l : Launch) (G : qx_Gx) (t1 t2 : Nat) (ad : Nat → Nat → Nat) (p0 : Int32) (p1 : Int32) (p2 : Int32) (σ : qx_St) (post : Int32 → qx_St → Prop) (hw : wX10_in p0 p1 p2 σ post) : qx_Mi l G t1 t2 (qx_w0 ad) yX10_in cX10_in 3 (some .boolean) { frames := 0, cells := 0, slots := 0, locals := 0 } [.int p0, .int p1, .int p2] σ post := by
  unfold wX10_in at hw
  refine qx_start qx_mcX10_in (Nat.le_of_ble_eq_true rfl) (fun K hKl hR X hr hlk => ?_)
  subst hKl
  refine (show qx_V K G 3 0 0 (MQ K.2.2.2.2.2.2.2.1 (va_Qi post (qx_B G (qx_w0 ad)) G.2.2) K.2.2.2.2.2.2.1 K.2.2.2.2.1 0 0 G.2.2) (qx_w0 ad) σ 0 [(0, .int p0), (1, .int p1), (2, .int p2)] [] from ?_)
  refine qx_iload_n (pc := 0) X 0 dX10_in_0 rfl rfl ?_
  refine qx_iload_n (pc := 1) X 1 dX10_in_1 rfl rfl ?_
  refine qx_icmp_lt (tgt := 14) (pc := 2) X dX10_in_2 (by decide) (fun c2 => ?_) (fun c2 => ?_)
  · have hw := hw.1 c2
    refine qx_iconst (v := 0) (pc := 14) X dX10_in_14 (by decide) ?_
    exact qx_zret (pc := 15) X hr hlk (Or.inl rfl) hw dX10_in_15
  · have hw := hw.2 c2
    refine qx_iload_n (pc := 5) X 0 dX10_in_5 rfl rfl ?_
    refine qx_iload_n (pc := 6) X 2 dX10_in_6 rfl rfl ?_
    refine qx_icmp_gt (tgt := 14) (pc := 7) X dX10_in_7 (by decide) (fun c1 => ?_) (fun c1 => ?_)
    · have hw := hw.1 c1
      refine qx_iconst (v := 0) (pc := 14) X dX10_in_14 (by decide) ?_
      exact qx_zret (pc := 15) X hr hlk (Or.inl rfl) hw dX10_in_15
    · have hw := hw.2 c1
      refine qx_iconst (v := 1) (pc := 10) X dX10_in_10 (by decide) ?_
      refine qx_goto (tgt := 15) (pc := 11) X dX10_in_11 (by decide) ?_
      exact qx_zret (pc := 15) X hr hlk (Or.inr rfl) hw dX10_in_15
def wX10_begin_l37 (post : qx_St → Prop) : Nat → Int32 → qx_St → Prop
  | 0, _, _ => False
  | n + 1, a1, σ => (((4 : Int32) ≤ a1 → post σ) ∧ (¬ ((4 : Int32) ≤ a1) → (vp_in a1 4 ∧ (∀ s15, s15 = qx_st σ 31 0 a1.toNatClampNeg (10000 : Int32) → wX10_begin_l37 post n (a1 + 1) s15))))
def wX10_begin (σ : qx_St) (post : qx_St → Prop) : Prop := (∀ s1, s1 = qx_st σ 30 0 0 (0 : Int32) → (∀ s3, s3 = qx_st s1 30 0 3 (0 : Int32) → (∀ s5, s5 = qx_st s3 30 0 10 (0 : Int32) → (∀ s7, s7 = qx_st s5 30 0 11 (0 : Int32) → (∀ s9, s9 = qx_st s7 30 0 44 (0 : Int32) → (∀ s11, s11 = qx_st s9 30 0 30 (0 : Int32) → (∀ s13, s13 = qx_st s11 30 0 36 (0 : Int32) → ∃ n, wX10_begin_l37 post n (0 : Int32) s13)))))))
set_option maxHeartbeats 4000000 in
set_option maxRecDepth 100000 in
theorem kX10_begin (l : Launch) (G : qx_Gx) (t1 t2 : Nat) (ad : Nat → Nat → Nat) (σ : qx_St) (post : qx_St → Prop) (hw : wX10_begin  σ post) : qx_Mv l G t1 t2 (qx_w0 ad) yX10_begin cX10_begin 2 none { frames := 0, cells := 0, slots := 0, locals := 0 } [.ref (ad 30 0)] σ post := by
  unfold wX10_begin at hw
  refine qx_start qx_mcX10_begin (Nat.le_of_ble_eq_true rfl) (fun K hKl hR X hr hlk => ?_)
  subst hKl
  have L37 : ∀ (n : Nat) (a1 : Int32) (σ : qx_St), wX10_begin_l37 post n a1 σ → qx_V K G 2 0 0 (MQ K.2.2.2.2.2.2.2.1 (va_Qv post (qx_B G (qx_w0 ad)) G.2.2) K.2.2.2.2.2.2.1 K.2.2.2.2.1 0 0 G.2.2) (qx_w0 ad) σ 37 [(0, .ref (ad 30 0)), (1, .int a1)] [] := by
    intro n
    induction n with
    | zero => intro a1 σ hw; exact hw.elim
    | succ n ih =>
      intro a1 σ hw
      refine qx_iload_n (pc := 37) X 1 dX10_begin_37 rfl rfl ?_
      refine qx_iconst (v := 4) (pc := 38) X dX10_begin_38 (by decide) ?_
      refine qx_icmp_ge (tgt := 57) (pc := 39) X dX10_begin_39 (by decide) (fun c17 => ?_) (fun c17 => ?_)
      · have hw := hw.1 c17
        exact qx_vret (pc := 57) X hr hlk hw dX10_begin_57
      · have hw := hw.2 c17
        refine qx_aload_n (pc := 42) X 0 dX10_begin_42 rfl rfl ?_
        refine qx_getr (f := 30) (i := 0) (a := ad 31 0) (pc := 43) X qx_gRX10_7 qx_me30 rfl dX10_begin_43 ?_
        refine qx_iload_n (pc := 46) X 1 dX10_begin_46 rfl rfl ?_
        refine qx_sipush (v := 10000) (pc := 47) X dX10_begin_47 (by decide) ?_
        refine qx_iast1 (f := 31) (i := 0) (pc := 50) X rfl qx_me31 hw.1 dX10_begin_50 (fun s15 e16 => ?_)
        have hw := hw.2
        have hw := hw s15 e16
        refine qx_iinc (v := (a1 + 1)) (lv' := [(1, .int (a1 + 1)), (0, .ref (ad 30 0))]) (pc := 51) X 1 dX10_begin_51 rfl rfl (by decide) rfl ?_
        refine qx_goto (tgt := 37) (pc := 54) X dX10_begin_54 (by decide) ?_
        refine qx_lsub [1, 0] rfl ?_
        exact ih (a1 + 1) s15 hw
  refine (show qx_V K G 2 0 0 (MQ K.2.2.2.2.2.2.2.1 (va_Qv post (qx_B G (qx_w0 ad)) G.2.2) K.2.2.2.2.2.2.1 K.2.2.2.2.1 0 0 G.2.2) (qx_w0 ad) σ 0 [(0, .ref (ad 30 0))] [] from ?_)
  refine qx_aload_n (pc := 0) X 0 dX10_begin_0 rfl rfl ?_
  refine qx_iconst (v := 0) (pc := 1) X dX10_begin_1 (by decide) ?_
  refine qx_puti1 (f := 30) (i := 0) (pc := 2) X qx_pRX10_119 qx_me30 dX10_begin_2 (fun s1 e2 => ?_)
  have hw := hw s1 e2
  refine qx_aload_n (pc := 5) X 0 dX10_begin_5 rfl rfl ?_
  refine qx_iconst (v := 0) (pc := 6) X dX10_begin_6 (by decide) ?_
  refine qx_puti1 (f := 30) (i := 0) (pc := 7) X qx_pRX10_123 qx_me30 dX10_begin_7 (fun s3 e4 => ?_)
  have hw := hw s3 e4
  refine qx_aload_n (pc := 10) X 0 dX10_begin_10 rfl rfl ?_
  refine qx_iconst (v := 0) (pc := 11) X dX10_begin_11 (by decide) ?_
  refine qx_puti1 (f := 30) (i := 0) (pc := 12) X qx_pRX10_126 qx_me30 dX10_begin_12 (fun s5 e6 => ?_)
  have hw := hw s5 e6
  refine qx_aload_n (pc := 15) X 0 dX10_begin_15 rfl rfl ?_
  refine qx_iconst (v := 0) (pc := 16) X dX10_begin_16 (by decide) ?_
  refine qx_puti1 (f := 30) (i := 0) (pc := 17) X qx_pRX10_129 qx_me30 dX10_begin_17 (fun s7 e8 => ?_)
  have hw := hw s7 e8
  refine qx_aload_n (pc := 20) X 0 dX10_begin_20 rfl rfl ?_
  refine qx_iconst (v := 0) (pc := 21) X dX10_begin_21 (by decide) ?_
  refine qx_putz1 (f := 30) (i := 0) (pc := 22) X qx_pRX10_132 qx_me30 (Or.inl rfl) dX10_begin_22 (fun s9 e10 => ?_)
  have hw := hw s9 e10
  refine qx_aload_n (pc := 25) X 0 dX10_begin_25 rfl rfl ?_
  refine qx_iconst (v := 0) (pc := 26) X dX10_begin_26 (by decide) ?_
  refine qx_puti1 (f := 30) (i := 0) (pc := 27) X qx_pRX10_136 qx_me30 dX10_begin_27 (fun s11 e12 => ?_)
  have hw := hw s11 e12
  refine qx_aload_n (pc := 30) X 0 dX10_begin_30 rfl rfl ?_
  refine qx_iconst (v := 0) (pc := 31) X dX10_begin_31 (by decide) ?_
  refine qx_puti1 (f := 30) (i := 0) (pc := 32) X qx_pRX10_139 qx_me30 dX10_begin_32 (fun s13 e14 => ?_)
  have hw := hw s13 e14
  refine qx_iconst (v := 0) (pc := 35) X dX10_begin_35 (by decide) ?_
  refine qx_istore_n (lv' := [(1, .int (0 : Int32)), (0, .ref (ad 30 0))]) (pc := 36) X dX10_begin_36 rfl (by decide) rfl ?_
  refine qx_lsub [1, 0] rfl ?_
  obtain ⟨n, hw⟩ := hw
  exact L37 n (0 : Int32) s13 hw
def wX10_contract_l52 (post : Int32 → qx_St → Prop) : Nat → Int32 → Int32 → qx_St → Prop
  | 0, _, _, _ => False
  | n + 1, a1, a2, σ => (((4 : Int32) ≤ a2 → (∀ s3, s3 = qx_st σ 30 0 0 ((σ 30 0 0) + (1 : Int32)) → post a1 s3)) ∧ (¬ ((4 : Int32) ≤ a2) → (vp_in (((4 : Int32) * a1) + a2) 32 ∧ (∀ s5, s5 = qx_st σ 34 0 (((4 : Int32) * a1) + a2).toNatClampNeg (0 : Int32) → (vp_in (((4 : Int32) * a1) + a2) 32 ∧ (∀ s7, s7 = qx_st s5 35 0 (((4 : Int32) * a1) + a2).toNatClampNeg (vp_nar .boolean (0 : Int32)) → wX10_contract_l52 post n a1 (a2 + 1) s7))))))
def wX10_contract_l26 (post : Int32 → qx_St → Prop) : Nat → Int32 → Int32 → qx_St → Prop
  | 0, _, _, _ => False
  | n + 1, a1, a2, σ => (((8 : Int32) ≤ a2 → ∃ n, wX10_contract_l52 post n a1 (0 : Int32) σ) ∧ (¬ ((8 : Int32) ≤ a2) → (vp_in (((8 : Int32) * a1) + a2) 64 ∧ (∀ s10, s10 = qx_st σ 33 0 (((8 : Int32) * a1) + a2).toNatClampNeg (0 : Int32) → wX10_contract_l26 post n a1 (a2 + 1) s10))))
def wX10_contract (σ : qx_St) (post : Int32 → qx_St → Prop) : Prop := (((σ 30 0 0) = (8 : Int32) → post (-104 : Int32) σ) ∧ (¬ ((σ 30 0 0) = (8 : Int32)) → (vp_in (σ 30 0 0) 8 ∧ (∀ s1, s1 = qx_st σ 32 0 (σ 30 0 0).toNatClampNeg (0 : Int32) → ∃ n, wX10_contract_l26 post n (σ 30 0 0) (0 : Int32) s1))))
set_option maxHeartbeats 4000000 in
set_option maxRecDepth 100000 in
theorem kX10_contract (l : Launch) (G : qx_Gx) (t1 t2 : Nat) (ad : Nat → Nat → Nat) (σ : qx_St) (post : Int32 → qx_St → Prop) (hw : wX10_contract  σ post) : qx_Mi l G t1 t2 (qx_w0 ad) yX10_contract cX10_contract 3 (some .int) { frames := 0, cells := 0, slots := 0, locals := 0 } [.ref (ad 30 0)] σ post := by
  unfold wX10_contract at hw
  refine qx_start qx_mcX10_contract (Nat.le_of_ble_eq_true rfl) (fun K hKl hR X hr hlk => ?_)
  subst hKl
  have L52 : ∀ (n : Nat) (a1 : Int32) (a2 : Int32) (σ : qx_St), wX10_contract_l52 post n a1 a2 σ → qx_V K G 3 0 0 (MQ K.2.2.2.2.2.2.2.1 (va_Qi post (qx_B G (qx_w0 ad)) G.2.2) K.2.2.2.2.2.2.1 K.2.2.2.2.1 0 0 G.2.2) (qx_w0 ad) σ 52 [(0, .ref (ad 30 0)), (1, .int a1), (2, .int a2)] [] := by
    intro n
    induction n with
    | zero => intro a1 a2 σ hw; exact hw.elim
    | succ n ih =>
      intro a1 a2 σ hw
      refine qx_iload_n (pc := 52) X 2 dX10_contract_52 rfl rfl ?_
      refine qx_iconst (v := 4) (pc := 53) X dX10_contract_53 (by decide) ?_
      refine qx_icmp_ge (tgt := 85) (pc := 54) X dX10_contract_54 (by decide) (fun c9 => ?_) (fun c9 => ?_)
      · have hw := hw.1 c9
        refine qx_aload_n (pc := 85) X 0 dX10_contract_85 rfl rfl ?_
        refine qx_dup (pc := 86) X dX10_contract_86 rfl ?_
        refine qx_geti (f := 30) (i := 0) (pc := 87) X qx_gRX10_119 qx_me30 dX10_contract_87 ?_
        refine qx_iconst (v := 1) (pc := 90) X dX10_contract_90 (by decide) ?_
        refine qx_iadd (pc := 91) X dX10_contract_91 ?_
        refine qx_puti1 (f := 30) (i := 0) (pc := 92) X qx_pRX10_119 qx_me30 dX10_contract_92 (fun s3 e4 => ?_)
        have hw := hw s3 e4
        refine qx_iload_n (pc := 95) X 1 dX10_contract_95 rfl rfl ?_
        exact qx_iret (pc := 96) X hr hlk hw dX10_contract_96
      · have hw := hw.2 c9
        refine qx_aload_n (pc := 57) X 0 dX10_contract_57 rfl rfl ?_
        refine qx_getr (f := 30) (i := 0) (a := ad 34 0) (pc := 58) X qx_gRX10_19 qx_me30 rfl dX10_contract_58 ?_
        refine qx_iconst (v := 4) (pc := 61) X dX10_contract_61 (by decide) ?_
        refine qx_iload_n (pc := 62) X 1 dX10_contract_62 rfl rfl ?_
        refine qx_imul (pc := 63) X dX10_contract_63 ?_
        refine qx_iload_n (pc := 64) X 2 dX10_contract_64 rfl rfl ?_
        refine qx_iadd (pc := 65) X dX10_contract_65 ?_
        refine qx_iconst (v := 0) (pc := 66) X dX10_contract_66 (by decide) ?_
        refine qx_iast1 (f := 34) (i := 0) (pc := 67) X rfl qx_me34 hw.1 dX10_contract_67 (fun s5 e6 => ?_)
        have hw := hw.2
        have hw := hw s5 e6
        refine qx_aload_n (pc := 68) X 0 dX10_contract_68 rfl rfl ?_
        refine qx_getr (f := 30) (i := 0) (a := ad 35 0) (pc := 69) X qx_gRX10_22 qx_me30 rfl dX10_contract_69 ?_
        refine qx_iconst (v := 4) (pc := 72) X dX10_contract_72 (by decide) ?_
        refine qx_iload_n (pc := 73) X 1 dX10_contract_73 rfl rfl ?_
        refine qx_imul (pc := 74) X dX10_contract_74 ?_
        refine qx_iload_n (pc := 75) X 2 dX10_contract_75 rfl rfl ?_
        refine qx_iadd (pc := 76) X dX10_contract_76 ?_
        refine qx_iconst (v := 0) (pc := 77) X dX10_contract_77 (by decide) ?_
        refine qx_zast1 (f := 35) (i := 0) (pc := 78) X rfl qx_me35 hw.1 dX10_contract_78 (fun s7 e8 => ?_)
        have hw := hw.2
        have hw := hw s7 e8
        refine qx_iinc (v := (a2 + 1)) (lv' := [(2, .int (a2 + 1)), (0, .ref (ad 30 0)), (1, .int a1)]) (pc := 79) X 2 dX10_contract_79 rfl rfl (by decide) rfl ?_
        refine qx_goto (tgt := 52) (pc := 82) X dX10_contract_82 (by decide) ?_
        refine qx_lsub [1, 2, 0] rfl ?_
        exact ih a1 (a2 + 1) s7 hw
  have L26 : ∀ (n : Nat) (a1 : Int32) (a2 : Int32) (σ : qx_St), wX10_contract_l26 post n a1 a2 σ → qx_V K G 3 0 0 (MQ K.2.2.2.2.2.2.2.1 (va_Qi post (qx_B G (qx_w0 ad)) G.2.2) K.2.2.2.2.2.2.1 K.2.2.2.2.1 0 0 G.2.2) (qx_w0 ad) σ 26 [(0, .ref (ad 30 0)), (1, .int a1), (2, .int a2)] [] := by
    intro n
    induction n with
    | zero => intro a1 a2 σ hw; exact hw.elim
    | succ n ih =>
      intro a1 a2 σ hw
      refine qx_iload_n (pc := 26) X 2 dX10_contract_26 rfl rfl ?_
      refine qx_bipush (v := 8) (pc := 27) X dX10_contract_27 (by decide) ?_
      refine qx_icmp_ge (tgt := 50) (pc := 29) X dX10_contract_29 (by decide) (fun c12 => ?_) (fun c12 => ?_)
      · have hw := hw.1 c12
        refine qx_iconst (v := 0) (pc := 50) X dX10_contract_50 (by decide) ?_
        refine qx_istore_n (lv' := [(2, .int (0 : Int32)), (0, .ref (ad 30 0)), (1, .int a1)]) (pc := 51) X dX10_contract_51 rfl (by decide) rfl ?_
        refine qx_lsub [1, 2, 0] rfl ?_
        obtain ⟨n, hw⟩ := hw
        exact L52 n a1 (0 : Int32) σ hw
      · have hw := hw.2 c12
        refine qx_aload_n (pc := 32) X 0 dX10_contract_32 rfl rfl ?_
        refine qx_getr (f := 30) (i := 0) (a := ad 33 0) (pc := 33) X qx_gRX10_16 qx_me30 rfl dX10_contract_33 ?_
        refine qx_bipush (v := 8) (pc := 36) X dX10_contract_36 (by decide) ?_
        refine qx_iload_n (pc := 38) X 1 dX10_contract_38 rfl rfl ?_
        refine qx_imul (pc := 39) X dX10_contract_39 ?_
        refine qx_iload_n (pc := 40) X 2 dX10_contract_40 rfl rfl ?_
        refine qx_iadd (pc := 41) X dX10_contract_41 ?_
        refine qx_iconst (v := 0) (pc := 42) X dX10_contract_42 (by decide) ?_
        refine qx_iast1 (f := 33) (i := 0) (pc := 43) X rfl qx_me33 hw.1 dX10_contract_43 (fun s10 e11 => ?_)
        have hw := hw.2
        have hw := hw s10 e11
        refine qx_iinc (v := (a2 + 1)) (lv' := [(2, .int (a2 + 1)), (0, .ref (ad 30 0)), (1, .int a1)]) (pc := 44) X 2 dX10_contract_44 rfl rfl (by decide) rfl ?_
        refine qx_goto (tgt := 26) (pc := 47) X dX10_contract_47 (by decide) ?_
        refine qx_lsub [1, 2, 0] rfl ?_
        exact ih a1 (a2 + 1) s10 hw
  refine (show qx_V K G 3 0 0 (MQ K.2.2.2.2.2.2.2.1 (va_Qi post (qx_B G (qx_w0 ad)) G.2.2) K.2.2.2.2.2.2.1 K.2.2.2.2.1 0 0 G.2.2) (qx_w0 ad) σ 0 [(0, .ref (ad 30 0))] [] from ?_)
  refine qx_aload_n (pc := 0) X 0 dX10_contract_0 rfl rfl ?_
  refine qx_geti (f := 30) (i := 0) (pc := 1) X qx_gRX10_119 qx_me30 dX10_contract_1 ?_
  refine qx_bipush (v := 8) (pc := 4) X dX10_contract_4 (by decide) ?_
  refine qx_icmp_ne (tgt := 12) (pc := 6) X dX10_contract_6 (by decide) (fun c13 => ?_) (fun c13 => ?_)
  · have hw := hw.2 c13
    refine qx_aload_n (pc := 12) X 0 dX10_contract_12 rfl rfl ?_
    refine qx_geti (f := 30) (i := 0) (pc := 13) X qx_gRX10_119 qx_me30 dX10_contract_13 ?_
    refine qx_istore_n (lv' := [(1, .int (σ 30 0 0)), (0, .ref (ad 30 0))]) (pc := 16) X dX10_contract_16 rfl (by decide) rfl ?_
    refine qx_aload_n (pc := 17) X 1 dX10_contract_17 rfl rfl ?_
    refine qx_getr (f := 30) (i := 0) (a := ad 32 0) (pc := 18) X qx_gRX10_13 qx_me30 rfl dX10_contract_18 ?_
    refine qx_iload_n (pc := 21) X 0 dX10_contract_21 rfl rfl ?_
    refine qx_iconst (v := 0) (pc := 22) X dX10_contract_22 (by decide) ?_
    refine qx_iast1 (f := 32) (i := 0) (pc := 23) X rfl qx_me32 hw.1 dX10_contract_23 (fun s1 e2 => ?_)
    have hw := hw.2
    have hw := hw s1 e2
    refine qx_iconst (v := 0) (pc := 24) X dX10_contract_24 (by decide) ?_
    refine qx_istore_n (lv' := [(2, .int (0 : Int32)), (1, .int (σ 30 0 0)), (0, .ref (ad 30 0))]) (pc := 25) X dX10_contract_25 rfl (by decide) rfl ?_
    refine qx_lsub [2, 1, 0] rfl ?_
    obtain ⟨n, hw⟩ := hw
    exact L26 n (σ 30 0 0) (0 : Int32) s1 hw
  · have hw := hw.1 c13
    refine qx_bipush (v := -104) (pc := 9) X dX10_contract_9 (by decide) ?_
    exact qx_iret (pc := 11) X hr hlk hw dX10_contract_11
def wX10_noContract (p1 : Int32) (σ : qx_St) (post : Int32 → qx_St → Prop) : Prop := wX10_in p1 (0 : Int32) ((σ 30 0 0) - (1 : Int32)) σ (fun r2 s1 => ((r2 = 0 → post (1 : Int32) s1) ∧ (¬ (r2 = 0) → post (0 : Int32) s1)))
set_option maxHeartbeats 4000000 in
set_option maxRecDepth 100000 in
theorem kX10_noContract (l : Launch) (G : qx_Gx) (t1 t2 : Nat) (ad : Nat → Nat → Nat) (p1 : Int32) (σ : qx_St) (post : Int32 → qx_St → Prop) (hw : wX10_noContract p1 σ post) : qx_Mi l G t1 t2 (qx_w0 ad) yX10_noContract cX10_noContract 2 (some .boolean) { frames := 1, cells := 0, slots := 0, locals := 22 } [.ref (ad 30 0), .int p1] σ post := by
  unfold wX10_noContract at hw
  refine qx_start qx_mcX10_noContract (Nat.le_of_ble_eq_true rfl) (fun K hKl hR X hr hlk => ?_)
  subst hKl
  refine (show qx_V K G 2 0 0 (MQ K.2.2.2.2.2.2.2.1 (va_Qi post (qx_B G (qx_w0 ad)) G.2.2) K.2.2.2.2.2.2.1 K.2.2.2.2.1 0 0 G.2.2) (qx_w0 ad) σ 0 [(0, .ref (ad 30 0)), (1, .int p1)] [] from ?_)
  refine qx_iload_n (pc := 0) X 1 dX10_noContract_0 rfl rfl ?_
  refine qx_iconst (v := 0) (pc := 1) X dX10_noContract_1 (by decide) ?_
  refine qx_aload_n (pc := 2) X 0 dX10_noContract_2 rfl rfl ?_
  refine qx_geti (f := 30) (i := 0) (pc := 3) X qx_gRX10_119 qx_me30 dX10_noContract_3 ?_
  refine qx_iconst (v := 1) (pc := 6) X dX10_noContract_6 (by decide) ?_
  refine qx_isub (pc := 7) X dX10_noContract_7 ?_
  refine qx_callSi (pc := 8) X [.int p1, .int (0 : Int32), .int ((σ 30 0 0) - (1 : Int32))] [] (kX10_in K.2.1 G t1 t2 ad p1 (0 : Int32) ((σ 30 0 0) - (1 : Int32)) σ _ hw) qx_mcX10_in qx_lRX10_142 qx_sX10_in rfl ⟨rfl, rfl⟩ (by rw [hR]; decide) rfl (Nat.le_of_ble_eq_true rfl) dX10_noContract_8 ⟨Nat.zero_le _, Nat.zero_le _⟩ (fun r2 s1 hw => ?_)
  refine qx_if_ne (tgt := 18) (pc := 11) X dX10_noContract_11 (by decide) (fun c3 => ?_) (fun c3 => ?_)
  · have hw := hw.2 c3
    refine qx_iconst (v := 0) (pc := 18) X dX10_noContract_18 (by decide) ?_
    exact qx_zret (pc := 19) X hr hlk (Or.inl rfl) hw dX10_noContract_19
  · have hw := hw.1 c3
    refine qx_iconst (v := 1) (pc := 14) X dX10_noContract_14 (by decide) ?_
    refine qx_goto (tgt := 19) (pc := 15) X dX10_noContract_15 (by decide) ?_
    exact qx_zret (pc := 19) X hr hlk (Or.inr rfl) hw dX10_noContract_19
def wX10_isCode (p0 : Int32) (p1 : Int32) (p2 : Int32) (σ : qx_St) (post : Int32 → qx_St → Prop) : Prop := wX10_in p0 (0 : Int32) (25 : Int32) σ (fun r2 s1 => ((r2 = 0 → post (0 : Int32) s1) ∧ (¬ (r2 = 0) → ((p0 = (6 : Int32) → wX10_in p1 (0 : Int32) (7 : Int32) s1 (fun r4 s3 => (qx_vz r4 ∧ post r4 s3))) ∧ (¬ (p0 = (6 : Int32)) → ((p0 = (7 : Int32) → wX10_in p1 (0 : Int32) (7 : Int32) s1 (fun r28 s27 => (qx_vz r28 ∧ post r28 s27))) ∧ (¬ (p0 = (7 : Int32)) → ((p0 = (14 : Int32) → wX10_in p1 (1 : Int32) (20 : Int32) s1 (fun r6 s5 => (qx_vz r6 ∧ post r6 s5))) ∧ (¬ (p0 = (14 : Int32)) → ((p0 = (15 : Int32) → wX10_in p1 (1 : Int32) (20 : Int32) s1 (fun r24 s23 => (qx_vz r24 ∧ post r24 s23))) ∧ (¬ (p0 = (15 : Int32)) → wX10_in p0 (19 : Int32) (21 : Int32) s1 (fun r8 s7 => ((r8 = 0 → ((p0 = (23 : Int32) → wX10_in p1 (0 : Int32) (3 : Int32) s7 (fun r14 s13 => (qx_vz r14 ∧ post r14 s13))) ∧ (¬ (p0 = (23 : Int32)) → ((p0 = (25 : Int32) → wX10_in p1 (10 : Int32) (99 : Int32) s7 (fun r10 s9 => ((r10 = 0 → post (0 : Int32) s9) ∧ (¬ (r10 = 0) → post (1 : Int32) s9)))) ∧ (¬ (p0 = (25 : Int32)) → post (1 : Int32) s7))))) ∧ (¬ (r8 = 0) → wX10_in p1 (0 : Int32) (7 : Int32) s7 (fun r17 s16 => ((r17 = 0 → post (0 : Int32) s16) ∧ (¬ (r17 = 0) → wX10_in p2 (0 : Int32) (3 : Int32) s16 (fun r19 s18 => ((r19 = 0 → post (0 : Int32) s18) ∧ (¬ (r19 = 0) → post (1 : Int32) s18))))))))))))))))))))
set_option maxHeartbeats 4000000 in
set_option maxRecDepth 100000 in
theorem kX10_isCode (l : Launch) (G : qx_Gx) (t1 t2 : Nat) (ad : Nat → Nat → Nat) (p0 : Int32) (p1 : Int32) (p2 : Int32) (σ : qx_St) (post : Int32 → qx_St → Prop) (hw : wX10_isCode p0 p1 p2 σ post) : qx_Mi l G t1 t2 (qx_w0 ad) yX10_isCode cX10_isCode 3 (some .boolean) { frames := 1, cells := 0, slots := 0, locals := 22 } [.int p0, .int p1, .int p2] σ post := by
  unfold wX10_isCode at hw
  refine qx_start qx_mcX10_isCode (Nat.le_of_ble_eq_true rfl) (fun K hKl hR X hr hlk => ?_)
  subst hKl
  refine (show qx_V K G 3 0 0 (MQ K.2.2.2.2.2.2.2.1 (va_Qi post (qx_B G (qx_w0 ad)) G.2.2) K.2.2.2.2.2.2.1 K.2.2.2.2.1 0 0 G.2.2) (qx_w0 ad) σ 0 [(0, .int p0), (1, .int p1), (2, .int p2)] [] from ?_)
  refine qx_iload_n (pc := 0) X 0 dX10_isCode_0 rfl rfl ?_
  refine qx_iconst (v := 0) (pc := 1) X dX10_isCode_1 (by decide) ?_
  refine qx_bipush (v := 25) (pc := 2) X dX10_isCode_2 (by decide) ?_
  refine qx_callSi (pc := 4) X [.int p0, .int (0 : Int32), .int (25 : Int32)] [] (kX10_in K.2.1 G t1 t2 ad p0 (0 : Int32) (25 : Int32) σ _ hw) qx_mcX10_in qx_lRX10_142 qx_sX10_in rfl ⟨rfl, rfl⟩ (by rw [hR]; decide) rfl (Nat.le_of_ble_eq_true rfl) dX10_isCode_4 ⟨Nat.zero_le _, Nat.zero_le _⟩ (fun r2 s1 hw => ?_)
  refine qx_if_ne (tgt := 12) (pc := 7) X dX10_isCode_7 (by decide) (fun c31 => ?_) (fun c31 => ?_)
  · have hw := hw.2 c31
    refine qx_iload_n (pc := 12) X 0 dX10_isCode_12 rfl rfl ?_
    refine qx_bipush (v := 6) (pc := 13) X dX10_isCode_13 (by decide) ?_
    refine qx_icmp_eq (tgt := 24) (pc := 15) X dX10_isCode_15 (by decide) (fun c30 => ?_) (fun c30 => ?_)
    · have hw := hw.1 c30
      refine qx_iload_n (pc := 24) X 1 dX10_isCode_24 rfl rfl ?_
      refine qx_iconst (v := 0) (pc := 25) X dX10_isCode_25 (by decide) ?_
      refine qx_bipush (v := 7) (pc := 26) X dX10_isCode_26 (by decide) ?_
      refine qx_callSi (pc := 28) X [.int p1, .int (0 : Int32), .int (7 : Int32)] [] (kX10_in K.2.1 G t1 t2 ad p1 (0 : Int32) (7 : Int32) s1 _ hw) qx_mcX10_in qx_lRX10_142 qx_sX10_in rfl ⟨rfl, rfl⟩ (by rw [hR]; decide) rfl (Nat.le_of_ble_eq_true rfl) dX10_isCode_28 ⟨Nat.zero_le _, Nat.zero_le _⟩ (fun r4 s3 hw => ?_)
      exact qx_zret (pc := 31) X hr hlk hw.1 hw.2 dX10_isCode_31
    · have hw := hw.2 c30
      refine qx_iload_n (pc := 18) X 0 dX10_isCode_18 rfl rfl ?_
      refine qx_bipush (v := 7) (pc := 19) X dX10_isCode_19 (by decide) ?_
      refine qx_icmp_ne (tgt := 32) (pc := 21) X dX10_isCode_21 (by decide) (fun c29 => ?_) (fun c29 => ?_)
      · have hw := hw.2 c29
        refine qx_iload_n (pc := 32) X 0 dX10_isCode_32 rfl rfl ?_
        refine qx_bipush (v := 14) (pc := 33) X dX10_isCode_33 (by decide) ?_
        refine qx_icmp_eq (tgt := 44) (pc := 35) X dX10_isCode_35 (by decide) (fun c26 => ?_) (fun c26 => ?_)
        · have hw := hw.1 c26
          refine qx_iload_n (pc := 44) X 1 dX10_isCode_44 rfl rfl ?_
          refine qx_iconst (v := 1) (pc := 45) X dX10_isCode_45 (by decide) ?_
          refine qx_bipush (v := 20) (pc := 46) X dX10_isCode_46 (by decide) ?_
          refine qx_callSi (pc := 48) X [.int p1, .int (1 : Int32), .int (20 : Int32)] [] (kX10_in K.2.1 G t1 t2 ad p1 (1 : Int32) (20 : Int32) s1 _ hw) qx_mcX10_in qx_lRX10_142 qx_sX10_in rfl ⟨rfl, rfl⟩ (by rw [hR]; decide) rfl (Nat.le_of_ble_eq_true rfl) dX10_isCode_48 ⟨Nat.zero_le _, Nat.zero_le _⟩ (fun r6 s5 hw => ?_)
          exact qx_zret (pc := 51) X hr hlk hw.1 hw.2 dX10_isCode_51
        · have hw := hw.2 c26
          refine qx_iload_n (pc := 38) X 0 dX10_isCode_38 rfl rfl ?_
          refine qx_bipush (v := 15) (pc := 39) X dX10_isCode_39 (by decide) ?_
          refine qx_icmp_ne (tgt := 52) (pc := 41) X dX10_isCode_41 (by decide) (fun c25 => ?_) (fun c25 => ?_)
          · have hw := hw.2 c25
            refine qx_iload_n (pc := 52) X 0 dX10_isCode_52 rfl rfl ?_
            refine qx_bipush (v := 19) (pc := 53) X dX10_isCode_53 (by decide) ?_
            refine qx_bipush (v := 21) (pc := 55) X dX10_isCode_55 (by decide) ?_
            refine qx_callSi (pc := 57) X [.int p0, .int (19 : Int32), .int (21 : Int32)] [] (kX10_in K.2.1 G t1 t2 ad p0 (19 : Int32) (21 : Int32) s1 _ hw) qx_mcX10_in qx_lRX10_142 qx_sX10_in rfl ⟨rfl, rfl⟩ (by rw [hR]; decide) rfl (Nat.le_of_ble_eq_true rfl) dX10_isCode_57 ⟨Nat.zero_le _, Nat.zero_le _⟩ (fun r8 s7 hw => ?_)
            refine qx_if_eq (tgt := 88) (pc := 60) X dX10_isCode_60 (by decide) (fun c22 => ?_) (fun c22 => ?_)
            · have hw := hw.1 c22
              refine qx_iload_n (pc := 88) X 0 dX10_isCode_88 rfl rfl ?_
              refine qx_bipush (v := 23) (pc := 89) X dX10_isCode_89 (by decide) ?_
              refine qx_icmp_ne (tgt := 103) (pc := 91) X dX10_isCode_91 (by decide) (fun c15 => ?_) (fun c15 => ?_)
              · have hw := hw.2 c15
                refine qx_iload_n (pc := 103) X 0 dX10_isCode_103 rfl rfl ?_
                refine qx_bipush (v := 25) (pc := 104) X dX10_isCode_104 (by decide) ?_
                refine qx_icmp_ne (tgt := 120) (pc := 106) X dX10_isCode_106 (by decide) (fun c12 => ?_) (fun c12 => ?_)
                · have hw := hw.2 c12
                  refine qx_iconst (v := 1) (pc := 120) X dX10_isCode_120 (by decide) ?_
                  refine qx_goto (tgt := 125) (pc := 121) X dX10_isCode_121 (by decide) ?_
                  exact qx_zret (pc := 125) X hr hlk (Or.inr rfl) hw dX10_isCode_125
                · have hw := hw.1 c12
                  refine qx_iload_n (pc := 109) X 1 dX10_isCode_109 rfl rfl ?_
                  refine qx_bipush (v := 10) (pc := 110) X dX10_isCode_110 (by decide) ?_
                  refine qx_bipush (v := 99) (pc := 112) X dX10_isCode_112 (by decide) ?_
                  refine qx_callSi (pc := 114) X [.int p1, .int (10 : Int32), .int (99 : Int32)] [] (kX10_in K.2.1 G t1 t2 ad p1 (10 : Int32) (99 : Int32) s7 _ hw) qx_mcX10_in qx_lRX10_142 qx_sX10_in rfl ⟨rfl, rfl⟩ (by rw [hR]; decide) rfl (Nat.le_of_ble_eq_true rfl) dX10_isCode_114 ⟨Nat.zero_le _, Nat.zero_le _⟩ (fun r10 s9 hw => ?_)
                  refine qx_if_eq (tgt := 124) (pc := 117) X dX10_isCode_117 (by decide) (fun c11 => ?_) (fun c11 => ?_)
                  · have hw := hw.1 c11
                    refine qx_iconst (v := 0) (pc := 124) X dX10_isCode_124 (by decide) ?_
                    exact qx_zret (pc := 125) X hr hlk (Or.inl rfl) hw dX10_isCode_125
                  · have hw := hw.2 c11
                    refine qx_iconst (v := 1) (pc := 120) X dX10_isCode_120 (by decide) ?_
                    refine qx_goto (tgt := 125) (pc := 121) X dX10_isCode_121 (by decide) ?_
                    exact qx_zret (pc := 125) X hr hlk (Or.inr rfl) hw dX10_isCode_125
              · have hw := hw.1 c15
                refine qx_iload_n (pc := 94) X 1 dX10_isCode_94 rfl rfl ?_
                refine qx_iconst (v := 0) (pc := 95) X dX10_isCode_95 (by decide) ?_
                refine qx_iconst (v := 3) (pc := 96) X dX10_isCode_96 (by decide) ?_
                refine qx_callSi (pc := 97) X [.int p1, .int (0 : Int32), .int (3 : Int32)] [] (kX10_in K.2.1 G t1 t2 ad p1 (0 : Int32) (3 : Int32) s7 _ hw) qx_mcX10_in qx_lRX10_142 qx_sX10_in rfl ⟨rfl, rfl⟩ (by rw [hR]; decide) rfl (Nat.le_of_ble_eq_true rfl) dX10_isCode_97 ⟨Nat.zero_le _, Nat.zero_le _⟩ (fun r14 s13 hw => ?_)
                refine qx_goto (tgt := 125) (pc := 100) X dX10_isCode_100 (by decide) ?_
                exact qx_zret (pc := 125) X hr hlk hw.1 hw.2 dX10_isCode_125
            · have hw := hw.2 c22
              refine qx_iload_n (pc := 63) X 1 dX10_isCode_63 rfl rfl ?_
              refine qx_iconst (v := 0) (pc := 64) X dX10_isCode_64 (by decide) ?_
              refine qx_bipush (v := 7) (pc := 65) X dX10_isCode_65 (by decide) ?_
              refine qx_callSi (pc := 67) X [.int p1, .int (0 : Int32), .int (7 : Int32)] [] (kX10_in K.2.1 G t1 t2 ad p1 (0 : Int32) (7 : Int32) s7 _ hw) qx_mcX10_in qx_lRX10_142 qx_sX10_in rfl ⟨rfl, rfl⟩ (by rw [hR]; decide) rfl (Nat.le_of_ble_eq_true rfl) dX10_isCode_67 ⟨Nat.zero_le _, Nat.zero_le _⟩ (fun r17 s16 hw => ?_)
              refine qx_if_eq (tgt := 86) (pc := 70) X dX10_isCode_70 (by decide) (fun c21 => ?_) (fun c21 => ?_)
              · have hw := hw.1 c21
                refine qx_iconst (v := 0) (pc := 86) X dX10_isCode_86 (by decide) ?_
                exact qx_zret (pc := 87) X hr hlk (Or.inl rfl) hw dX10_isCode_87
              · have hw := hw.2 c21
                refine qx_iload_n (pc := 73) X 2 dX10_isCode_73 rfl rfl ?_
                refine qx_iconst (v := 0) (pc := 74) X dX10_isCode_74 (by decide) ?_
                refine qx_iconst (v := 3) (pc := 75) X dX10_isCode_75 (by decide) ?_
                refine qx_callSi (pc := 76) X [.int p2, .int (0 : Int32), .int (3 : Int32)] [] (kX10_in K.2.1 G t1 t2 ad p2 (0 : Int32) (3 : Int32) s16 _ hw) qx_mcX10_in qx_lRX10_142 qx_sX10_in rfl ⟨rfl, rfl⟩ (by rw [hR]; decide) rfl (Nat.le_of_ble_eq_true rfl) dX10_isCode_76 ⟨Nat.zero_le _, Nat.zero_le _⟩ (fun r19 s18 hw => ?_)
                refine qx_if_eq (tgt := 86) (pc := 79) X dX10_isCode_79 (by decide) (fun c20 => ?_) (fun c20 => ?_)
                · have hw := hw.1 c20
                  refine qx_iconst (v := 0) (pc := 86) X dX10_isCode_86 (by decide) ?_
                  exact qx_zret (pc := 87) X hr hlk (Or.inl rfl) hw dX10_isCode_87
                · have hw := hw.2 c20
                  refine qx_iconst (v := 1) (pc := 82) X dX10_isCode_82 (by decide) ?_
                  refine qx_goto (tgt := 87) (pc := 83) X dX10_isCode_83 (by decide) ?_
                  exact qx_zret (pc := 87) X hr hlk (Or.inr rfl) hw dX10_isCode_87
          · have hw := hw.1 c25
            refine qx_iload_n (pc := 44) X 1 dX10_isCode_44 rfl rfl ?_
            refine qx_iconst (v := 1) (pc := 45) X dX10_isCode_45 (by decide) ?_
            refine qx_bipush (v := 20) (pc := 46) X dX10_isCode_46 (by decide) ?_
            refine qx_callSi (pc := 48) X [.int p1, .int (1 : Int32), .int (20 : Int32)] [] (kX10_in K.2.1 G t1 t2 ad p1 (1 : Int32) (20 : Int32) s1 _ hw) qx_mcX10_in qx_lRX10_142 qx_sX10_in rfl ⟨rfl, rfl⟩ (by rw [hR]; decide) rfl (Nat.le_of_ble_eq_true rfl) dX10_isCode_48 ⟨Nat.zero_le _, Nat.zero_le _⟩ (fun r24 s23 hw => ?_)
            exact qx_zret (pc := 51) X hr hlk hw.1 hw.2 dX10_isCode_51
      · have hw := hw.1 c29
        refine qx_iload_n (pc := 24) X 1 dX10_isCode_24 rfl rfl ?_
        refine qx_iconst (v := 0) (pc := 25) X dX10_isCode_25 (by decide) ?_
        refine qx_bipush (v := 7) (pc := 26) X dX10_isCode_26 (by decide) ?_
        refine qx_callSi (pc := 28) X [.int p1, .int (0 : Int32), .int (7 : Int32)] [] (kX10_in K.2.1 G t1 t2 ad p1 (0 : Int32) (7 : Int32) s1 _ hw) qx_mcX10_in qx_lRX10_142 qx_sX10_in rfl ⟨rfl, rfl⟩ (by rw [hR]; decide) rfl (Nat.le_of_ble_eq_true rfl) dX10_isCode_28 ⟨Nat.zero_le _, Nat.zero_le _⟩ (fun r28 s27 hw => ?_)
        exact qx_zret (pc := 31) X hr hlk hw.1 hw.2 dX10_isCode_31
  · have hw := hw.1 c31
    refine qx_iconst (v := 0) (pc := 10) X dX10_isCode_10 (by decide) ?_
    exact qx_zret (pc := 11) X hr hlk (Or.inl rfl) hw dX10_isCode_11
def wX10_step (p1 : Int32) (p2 : Int32) (p3 : Int32) (p4 : Int32) (p5 : Int32) (σ : qx_St) (post : Int32 → qx_St → Prop) : Prop := wX10_noContract p1 σ (fun r2 s1 => ((r2 = 0 → wX10_in p2 (0 : Int32) (3 : Int32) s1 (fun r4 s3 => ((r4 = 0 → post (-102 : Int32) s3) ∧ (¬ (r4 = 0) → wX10_isCode p3 p4 p5 s3 (fun r6 s5 => ((r6 = 0 → post (-102 : Int32) s5) ∧ (¬ (r6 = 0) → (vp_in (((4 : Int32) * p1) + p2) 32 ∧ (((s5 34 0 (((4 : Int32) * p1) + p2).toNatClampNeg) = (20 : Int32) → post (-104 : Int32) s5) ∧ (¬ ((s5 34 0 (((4 : Int32) * p1) + p2).toNatClampNeg) = (20 : Int32)) → (vp_in (((4 : Int32) * p1) + p2) 32 ∧ (vp_in (((20 : Int32) * (((4 : Int32) * p1) + p2)) + (s5 34 0 (((4 : Int32) * p1) + p2).toNatClampNeg)) 640 ∧ (∀ s7, s7 = qx_st s5 36 0 (((20 : Int32) * (((4 : Int32) * p1) + p2)) + (s5 34 0 (((4 : Int32) * p1) + p2).toNatClampNeg)).toNatClampNeg p3 → (vp_in (((20 : Int32) * (((4 : Int32) * p1) + p2)) + (s5 34 0 (((4 : Int32) * p1) + p2).toNatClampNeg)) 640 ∧ (∀ s9, s9 = qx_st s7 37 0 (((20 : Int32) * (((4 : Int32) * p1) + p2)) + (s5 34 0 (((4 : Int32) * p1) + p2).toNatClampNeg)).toNatClampNeg p4 → (vp_in (((20 : Int32) * (((4 : Int32) * p1) + p2)) + (s5 34 0 (((4 : Int32) * p1) + p2).toNatClampNeg)) 640 ∧ (∀ s11, s11 = qx_st s9 38 0 (((20 : Int32) * (((4 : Int32) * p1) + p2)) + (s5 34 0 (((4 : Int32) * p1) + p2).toNatClampNeg)).toNatClampNeg p5 → (vp_in (((4 : Int32) * p1) + p2) 32 ∧ (vp_in (((4 : Int32) * p1) + p2) 32 ∧ (∀ s13, s13 = qx_st s11 34 0 (((4 : Int32) * p1) + p2).toNatClampNeg ((s11 34 0 (((4 : Int32) * p1) + p2).toNatClampNeg) + (1 : Int32)) → (vp_in (((4 : Int32) * p1) + p2) 32 ∧ post (s13 34 0 (((4 : Int32) * p1) + p2).toNatClampNeg) s13))))))))))))))))))))) ∧ (¬ (r2 = 0) → post (-101 : Int32) s1)))
set_option maxHeartbeats 4000000 in
set_option maxRecDepth 100000 in
theorem kX10_step (l : Launch) (G : qx_Gx) (t1 t2 : Nat) (ad : Nat → Nat → Nat) (p1 : Int32) (p2 : Int32) (p3 : Int32) (p4 : Int32) (p5 : Int32) (σ : qx_St) (post : Int32 → qx_St → Prop) (hw : wX10_step p1 p2 p3 p4 p5 σ post) : qx_Mi l G t1 t2 (qx_w0 ad) yX10_step cX10_step 8 (some .int) { frames := 2, cells := 0, slots := 0, locals := 44 } [.ref (ad 30 0), .int p1, .int p2, .int p3, .int p4, .int p5] σ post := by
  unfold wX10_step at hw
  refine qx_start qx_mcX10_step (Nat.le_of_ble_eq_true rfl) (fun K hKl hR X hr hlk => ?_)
  subst hKl
  refine (show qx_V K G 8 0 0 (MQ K.2.2.2.2.2.2.2.1 (va_Qi post (qx_B G (qx_w0 ad)) G.2.2) K.2.2.2.2.2.2.1 K.2.2.2.2.1 0 0 G.2.2) (qx_w0 ad) σ 0 [(0, .ref (ad 30 0)), (1, .int p1), (2, .int p2), (3, .int p3), (4, .int p4), (5, .int p5)] [] from ?_)
  refine qx_aload_n (pc := 0) X 0 dX10_step_0 rfl rfl ?_
  refine qx_iload_n (pc := 1) X 1 dX10_step_1 rfl rfl ?_
  refine qx_callVi (f := 30) (i := 0) (pc := 2) X [.int p1] [] (kX10_noContract K.2.1 G t1 t2 ad p1 σ _ hw) qx_mcX10_noContract qx_lRX10_146 qx_iX10_noContract qx_selX10_noContract qx_me30 qx_rc30 rfl ⟨rfl, rfl⟩ (by rw [hR]; decide) rfl (Nat.le_of_ble_eq_true rfl) dX10_step_2 ⟨Nat.zero_le _, Nat.zero_le _⟩ (fun r2 s1 hw => ?_)
  refine qx_if_eq (tgt := 11) (pc := 5) X dX10_step_5 (by decide) (fun c18 => ?_) (fun c18 => ?_)
  · have hw := hw.1 c18
    refine qx_iload_n (pc := 11) X 2 dX10_step_11 rfl rfl ?_
    refine qx_iconst (v := 0) (pc := 12) X dX10_step_12 (by decide) ?_
    refine qx_iconst (v := 3) (pc := 13) X dX10_step_13 (by decide) ?_
    refine qx_callSi (pc := 14) X [.int p2, .int (0 : Int32), .int (3 : Int32)] [] (kX10_in K.2.1 G t1 t2 ad p2 (0 : Int32) (3 : Int32) s1 _ hw) qx_mcX10_in qx_lRX10_142 qx_sX10_in rfl ⟨rfl, rfl⟩ (by rw [hR]; decide) rfl (Nat.le_of_ble_eq_true rfl) dX10_step_14 ⟨Nat.zero_le _, Nat.zero_le _⟩ (fun r4 s3 hw => ?_)
    refine qx_if_eq (tgt := 31) (pc := 17) X dX10_step_17 (by decide) (fun c17 => ?_) (fun c17 => ?_)
    · have hw := hw.1 c17
      refine qx_bipush (v := -102) (pc := 31) X dX10_step_31 (by decide) ?_
      exact qx_iret (pc := 33) X hr hlk hw dX10_step_33
    · have hw := hw.2 c17
      refine qx_iload_n (pc := 20) X 3 dX10_step_20 rfl rfl ?_
      refine qx_iload (pc := 21) X 4 dX10_step_21 rfl ?_
      refine qx_iload (pc := 23) X 5 dX10_step_23 rfl ?_
      refine qx_callSi (pc := 25) X [.int p3, .int p4, .int p5] [] (kX10_isCode K.2.1 G t1 t2 ad p3 p4 p5 s3 _ hw) qx_mcX10_isCode qx_lRX10_150 qx_sX10_isCode rfl ⟨rfl, rfl⟩ (by rw [hR]; decide) rfl (Nat.le_of_ble_eq_true rfl) dX10_step_25 ⟨Nat.zero_le _, Nat.zero_le _⟩ (fun r6 s5 hw => ?_)
      refine qx_if_ne (tgt := 34) (pc := 28) X dX10_step_28 (by decide) (fun c16 => ?_) (fun c16 => ?_)
      · have hw := hw.2 c16
        refine qx_iconst (v := 4) (pc := 34) X dX10_step_34 (by decide) ?_
        refine qx_iload_n (pc := 35) X 1 dX10_step_35 rfl rfl ?_
        refine qx_imul (pc := 36) X dX10_step_36 ?_
        refine qx_iload_n (pc := 37) X 2 dX10_step_37 rfl rfl ?_
        refine qx_iadd (pc := 38) X dX10_step_38 ?_
        refine qx_istore (lv' := [(6, .int (((4 : Int32) * p1) + p2)), (0, .ref (ad 30 0)), (1, .int p1), (2, .int p2), (3, .int p3), (4, .int p4), (5, .int p5)]) (pc := 39) X dX10_step_39 (by decide) rfl ?_
        refine qx_aload_n (pc := 41) X 1 dX10_step_41 rfl rfl ?_
        refine qx_getr (f := 30) (i := 0) (a := ad 34 0) (pc := 42) X qx_gRX10_19 qx_me30 rfl dX10_step_42 ?_
        refine qx_iload (pc := 45) X 0 dX10_step_45 rfl ?_
        refine qx_iald (f := 34) (i := 0) (pc := 47) X rfl qx_me34 hw.1 dX10_step_47 ?_
        have hw := hw.2
        refine qx_bipush (v := 20) (pc := 48) X dX10_step_48 (by decide) ?_
        refine qx_icmp_ne (tgt := 56) (pc := 50) X dX10_step_50 (by decide) (fun c15 => ?_) (fun c15 => ?_)
        · have hw := hw.2 c15
          refine qx_bipush (v := 20) (pc := 56) X dX10_step_56 (by decide) ?_
          refine qx_iload (pc := 58) X 0 dX10_step_58 rfl ?_
          refine qx_imul (pc := 60) X dX10_step_60 ?_
          refine qx_aload_n (pc := 61) X 1 dX10_step_61 rfl rfl ?_
          refine qx_getr (f := 30) (i := 0) (a := ad 34 0) (pc := 62) X qx_gRX10_19 qx_me30 rfl dX10_step_62 ?_
          refine qx_iload (pc := 65) X 0 dX10_step_65 rfl ?_
          refine qx_iald (f := 34) (i := 0) (pc := 67) X rfl qx_me34 hw.1 dX10_step_67 ?_
          have hw := hw.2
          refine qx_iadd (pc := 68) X dX10_step_68 ?_
          refine qx_istore (lv' := [(7, .int (((20 : Int32) * (((4 : Int32) * p1) + p2)) + (s5 34 0 (((4 : Int32) * p1) + p2).toNatClampNeg))), (6, .int (((4 : Int32) * p1) + p2)), (0, .ref (ad 30 0)), (1, .int p1), (2, .int p2), (3, .int p3), (4, .int p4), (5, .int p5)]) (pc := 69) X dX10_step_69 (by decide) rfl ?_
          refine qx_aload_n (pc := 71) X 2 dX10_step_71 rfl rfl ?_
          refine qx_getr (f := 30) (i := 0) (a := ad 36 0) (pc := 72) X qx_gRX10_26 qx_me30 rfl dX10_step_72 ?_
          refine qx_iload (pc := 75) X 0 dX10_step_75 rfl ?_
          refine qx_iload_n (pc := 77) X 5 dX10_step_77 rfl rfl ?_
          refine qx_iast1 (f := 36) (i := 0) (pc := 78) X rfl qx_me36 hw.1 dX10_step_78 (fun s7 e8 => ?_)
          have hw := hw.2
          have hw := hw s7 e8
          refine qx_aload_n (pc := 79) X 2 dX10_step_79 rfl rfl ?_
          refine qx_getr (f := 30) (i := 0) (a := ad 37 0) (pc := 80) X qx_gRX10_29 qx_me30 rfl dX10_step_80 ?_
          refine qx_iload (pc := 83) X 0 dX10_step_83 rfl ?_
          refine qx_iload (pc := 85) X 6 dX10_step_85 rfl ?_
          refine qx_iast1 (f := 37) (i := 0) (pc := 87) X rfl qx_me37 hw.1 dX10_step_87 (fun s9 e10 => ?_)
          have hw := hw.2
          have hw := hw s9 e10
          refine qx_aload_n (pc := 88) X 2 dX10_step_88 rfl rfl ?_
          refine qx_getr (f := 30) (i := 0) (a := ad 38 0) (pc := 89) X qx_gRX10_32 qx_me30 rfl dX10_step_89 ?_
          refine qx_iload (pc := 92) X 0 dX10_step_92 rfl ?_
          refine qx_iload (pc := 94) X 7 dX10_step_94 rfl ?_
          refine qx_iast1 (f := 38) (i := 0) (pc := 96) X rfl qx_me38 hw.1 dX10_step_96 (fun s11 e12 => ?_)
          have hw := hw.2
          have hw := hw s11 e12
          refine qx_aload_n (pc := 97) X 2 dX10_step_97 rfl rfl ?_
          refine qx_getr (f := 30) (i := 0) (a := ad 34 0) (pc := 98) X qx_gRX10_19 qx_me30 rfl dX10_step_98 ?_
          refine qx_iload (pc := 101) X 1 dX10_step_101 rfl ?_
          refine qx_dup2 (pc := 103) X dX10_step_103 rfl rfl ?_
          refine qx_iald (f := 34) (i := 0) (pc := 104) X rfl qx_me34 hw.1 dX10_step_104 ?_
          have hw := hw.2
          refine qx_iconst (v := 1) (pc := 105) X dX10_step_105 (by decide) ?_
          refine qx_iadd (pc := 106) X dX10_step_106 ?_
          refine qx_iast1 (f := 34) (i := 0) (pc := 107) X rfl qx_me34 hw.1 dX10_step_107 (fun s13 e14 => ?_)
          have hw := hw.2
          have hw := hw s13 e14
          refine qx_aload_n (pc := 108) X 2 dX10_step_108 rfl rfl ?_
          refine qx_getr (f := 30) (i := 0) (a := ad 34 0) (pc := 109) X qx_gRX10_19 qx_me30 rfl dX10_step_109 ?_
          refine qx_iload (pc := 112) X 1 dX10_step_112 rfl ?_
          refine qx_iald (f := 34) (i := 0) (pc := 114) X rfl qx_me34 hw.1 dX10_step_114 ?_
          have hw := hw.2
          exact qx_iret (pc := 115) X hr hlk hw dX10_step_115
        · have hw := hw.1 c15
          refine qx_bipush (v := -104) (pc := 53) X dX10_step_53 (by decide) ?_
          exact qx_iret (pc := 55) X hr hlk hw dX10_step_55
      · have hw := hw.1 c16
        refine qx_bipush (v := -102) (pc := 31) X dX10_step_31 (by decide) ?_
        exact qx_iret (pc := 33) X hr hlk hw dX10_step_33
  · have hw := hw.2 c18
    refine qx_bipush (v := -101) (pc := 8) X dX10_step_8 (by decide) ?_
    exact qx_iret (pc := 10) X hr hlk hw dX10_step_10
def wX10_empty (p1 : Int32) (p2 : Int32) (σ : qx_St) (post : Int32 → qx_St → Prop) : Prop := wX10_noContract p1 σ (fun r2 s1 => ((r2 = 0 → wX10_in p2 (0 : Int32) (3 : Int32) s1 (fun r4 s3 => ((r4 = 0 → post (-102 : Int32) s3) ∧ (¬ (r4 = 0) → (vp_in (((4 : Int32) * p1) + p2) 32 ∧ (vp_in (((4 : Int32) * p1) + p2) 32 ∧ (∀ s5, s5 = qx_st s3 34 0 (((4 : Int32) * p1) + p2).toNatClampNeg (0 : Int32) → post (s3 34 0 (((4 : Int32) * p1) + p2).toNatClampNeg) s5))))))) ∧ (¬ (r2 = 0) → post (-101 : Int32) s1)))
set_option maxHeartbeats 4000000 in
set_option maxRecDepth 100000 in
theorem kX10_empty (l : Launch) (G : qx_Gx) (t1 t2 : Nat) (ad : Nat → Nat → Nat) (p1 : Int32) (p2 : Int32) (σ : qx_St) (post : Int32 → qx_St → Prop) (hw : wX10_empty p1 p2 σ post) : qx_Mi l G t1 t2 (qx_w0 ad) yX10_empty cX10_empty 4 (some .int) { frames := 2, cells := 0, slots := 0, locals := 43 } [.ref (ad 30 0), .int p1, .int p2] σ post := by
  unfold wX10_empty at hw
  refine qx_start qx_mcX10_empty (Nat.le_of_ble_eq_true rfl) (fun K hKl hR X hr hlk => ?_)
  subst hKl
  refine (show qx_V K G 4 0 0 (MQ K.2.2.2.2.2.2.2.1 (va_Qi post (qx_B G (qx_w0 ad)) G.2.2) K.2.2.2.2.2.2.1 K.2.2.2.2.1 0 0 G.2.2) (qx_w0 ad) σ 0 [(0, .ref (ad 30 0)), (1, .int p1), (2, .int p2)] [] from ?_)
  refine qx_aload_n (pc := 0) X 0 dX10_empty_0 rfl rfl ?_
  refine qx_iload_n (pc := 1) X 1 dX10_empty_1 rfl rfl ?_
  refine qx_callVi (f := 30) (i := 0) (pc := 2) X [.int p1] [] (kX10_noContract K.2.1 G t1 t2 ad p1 σ _ hw) qx_mcX10_noContract qx_lRX10_146 qx_iX10_noContract qx_selX10_noContract qx_me30 qx_rc30 rfl ⟨rfl, rfl⟩ (by rw [hR]; decide) rfl (Nat.le_of_ble_eq_true rfl) dX10_empty_2 ⟨Nat.zero_le _, Nat.zero_le _⟩ (fun r2 s1 hw => ?_)
  refine qx_if_eq (tgt := 11) (pc := 5) X dX10_empty_5 (by decide) (fun c8 => ?_) (fun c8 => ?_)
  · have hw := hw.1 c8
    refine qx_iload_n (pc := 11) X 2 dX10_empty_11 rfl rfl ?_
    refine qx_iconst (v := 0) (pc := 12) X dX10_empty_12 (by decide) ?_
    refine qx_iconst (v := 3) (pc := 13) X dX10_empty_13 (by decide) ?_
    refine qx_callSi (pc := 14) X [.int p2, .int (0 : Int32), .int (3 : Int32)] [] (kX10_in K.2.1 G t1 t2 ad p2 (0 : Int32) (3 : Int32) s1 _ hw) qx_mcX10_in qx_lRX10_142 qx_sX10_in rfl ⟨rfl, rfl⟩ (by rw [hR]; decide) rfl (Nat.le_of_ble_eq_true rfl) dX10_empty_14 ⟨Nat.zero_le _, Nat.zero_le _⟩ (fun r4 s3 hw => ?_)
    refine qx_if_ne (tgt := 23) (pc := 17) X dX10_empty_17 (by decide) (fun c7 => ?_) (fun c7 => ?_)
    · have hw := hw.2 c7
      refine qx_aload_n (pc := 23) X 0 dX10_empty_23 rfl rfl ?_
      refine qx_getr (f := 30) (i := 0) (a := ad 34 0) (pc := 24) X qx_gRX10_19 qx_me30 rfl dX10_empty_24 ?_
      refine qx_iconst (v := 4) (pc := 27) X dX10_empty_27 (by decide) ?_
      refine qx_iload_n (pc := 28) X 1 dX10_empty_28 rfl rfl ?_
      refine qx_imul (pc := 29) X dX10_empty_29 ?_
      refine qx_iload_n (pc := 30) X 2 dX10_empty_30 rfl rfl ?_
      refine qx_iadd (pc := 31) X dX10_empty_31 ?_
      refine qx_iald (f := 34) (i := 0) (pc := 32) X rfl qx_me34 hw.1 dX10_empty_32 ?_
      have hw := hw.2
      refine qx_istore_n (lv' := [(3, .int (s3 34 0 (((4 : Int32) * p1) + p2).toNatClampNeg)), (0, .ref (ad 30 0)), (1, .int p1), (2, .int p2)]) (pc := 33) X dX10_empty_33 rfl (by decide) rfl ?_
      refine qx_aload_n (pc := 34) X 1 dX10_empty_34 rfl rfl ?_
      refine qx_getr (f := 30) (i := 0) (a := ad 34 0) (pc := 35) X qx_gRX10_19 qx_me30 rfl dX10_empty_35 ?_
      refine qx_iconst (v := 4) (pc := 38) X dX10_empty_38 (by decide) ?_
      refine qx_iload_n (pc := 39) X 2 dX10_empty_39 rfl rfl ?_
      refine qx_imul (pc := 40) X dX10_empty_40 ?_
      refine qx_iload_n (pc := 41) X 3 dX10_empty_41 rfl rfl ?_
      refine qx_iadd (pc := 42) X dX10_empty_42 ?_
      refine qx_iconst (v := 0) (pc := 43) X dX10_empty_43 (by decide) ?_
      refine qx_iast1 (f := 34) (i := 0) (pc := 44) X rfl qx_me34 hw.1 dX10_empty_44 (fun s5 e6 => ?_)
      have hw := hw.2
      have hw := hw s5 e6
      refine qx_iload_n (pc := 45) X 0 dX10_empty_45 rfl rfl ?_
      exact qx_iret (pc := 46) X hr hlk hw dX10_empty_46
    · have hw := hw.1 c7
      refine qx_bipush (v := -102) (pc := 20) X dX10_empty_20 (by decide) ?_
      exact qx_iret (pc := 22) X hr hlk hw dX10_empty_22
  · have hw := hw.2 c8
    refine qx_bipush (v := -101) (pc := 8) X dX10_empty_8 (by decide) ?_
    exact qx_iret (pc := 10) X hr hlk hw dX10_empty_10
def wX10_guard (p1 : Int32) (p2 : Int32) (p3 : Int32) (σ : qx_St) (post : Int32 → qx_St → Prop) : Prop := wX10_noContract p1 σ (fun r2 s1 => ((r2 = 0 → wX10_in p2 (0 : Int32) (3 : Int32) s1 (fun r4 s3 => ((r4 = 0 → post (-102 : Int32) s3) ∧ (¬ (r4 = 0) → (vp_in (((4 : Int32) * p1) + p2) 32 ∧ (((s3 35 0 (((4 : Int32) * p1) + p2).toNatClampNeg) = 0 → (vp_in (((4 : Int32) * p1) + p2) 32 ∧ (∀ s5, s5 = qx_st s3 35 0 (((4 : Int32) * p1) + p2).toNatClampNeg (vp_nar .boolean p3) → post (0 : Int32) s5))) ∧ (¬ ((s3 35 0 (((4 : Int32) * p1) + p2).toNatClampNeg) = 0) → (vp_in (((4 : Int32) * p1) + p2) 32 ∧ (∀ s7, s7 = qx_st s3 35 0 (((4 : Int32) * p1) + p2).toNatClampNeg (vp_nar .boolean p3) → post (1 : Int32) s7))))))))) ∧ (¬ (r2 = 0) → post (-101 : Int32) s1)))
set_option maxHeartbeats 4000000 in
set_option maxRecDepth 100000 in
theorem kX10_guard (l : Launch) (G : qx_Gx) (t1 t2 : Nat) (ad : Nat → Nat → Nat) (p1 : Int32) (p2 : Int32) (p3 : Int32) (σ : qx_St) (post : Int32 → qx_St → Prop) (hw : wX10_guard p1 p2 p3 σ post) : qx_Mi l G t1 t2 (qx_w0 ad) yX10_guard cX10_guard 5 (some .int) { frames := 2, cells := 0, slots := 0, locals := 43 } [.ref (ad 30 0), .int p1, .int p2, .int p3] σ post := by
  unfold wX10_guard at hw
  refine qx_start qx_mcX10_guard (Nat.le_of_ble_eq_true rfl) (fun K hKl hR X hr hlk => ?_)
  subst hKl
  refine (show qx_V K G 5 0 0 (MQ K.2.2.2.2.2.2.2.1 (va_Qi post (qx_B G (qx_w0 ad)) G.2.2) K.2.2.2.2.2.2.1 K.2.2.2.2.1 0 0 G.2.2) (qx_w0 ad) σ 0 [(0, .ref (ad 30 0)), (1, .int p1), (2, .int p2), (3, .int p3)] [] from ?_)
  refine qx_aload_n (pc := 0) X 0 dX10_guard_0 rfl rfl ?_
  refine qx_iload_n (pc := 1) X 1 dX10_guard_1 rfl rfl ?_
  refine qx_callVi (f := 30) (i := 0) (pc := 2) X [.int p1] [] (kX10_noContract K.2.1 G t1 t2 ad p1 σ _ hw) qx_mcX10_noContract qx_lRX10_146 qx_iX10_noContract qx_selX10_noContract qx_me30 qx_rc30 rfl ⟨rfl, rfl⟩ (by rw [hR]; decide) rfl (Nat.le_of_ble_eq_true rfl) dX10_guard_2 ⟨Nat.zero_le _, Nat.zero_le _⟩ (fun r2 s1 hw => ?_)
  refine qx_if_eq (tgt := 11) (pc := 5) X dX10_guard_5 (by decide) (fun c11 => ?_) (fun c11 => ?_)
  · have hw := hw.1 c11
    refine qx_iload_n (pc := 11) X 2 dX10_guard_11 rfl rfl ?_
    refine qx_iconst (v := 0) (pc := 12) X dX10_guard_12 (by decide) ?_
    refine qx_iconst (v := 3) (pc := 13) X dX10_guard_13 (by decide) ?_
    refine qx_callSi (pc := 14) X [.int p2, .int (0 : Int32), .int (3 : Int32)] [] (kX10_in K.2.1 G t1 t2 ad p2 (0 : Int32) (3 : Int32) s1 _ hw) qx_mcX10_in qx_lRX10_142 qx_sX10_in rfl ⟨rfl, rfl⟩ (by rw [hR]; decide) rfl (Nat.le_of_ble_eq_true rfl) dX10_guard_14 ⟨Nat.zero_le _, Nat.zero_le _⟩ (fun r4 s3 hw => ?_)
    refine qx_if_ne (tgt := 23) (pc := 17) X dX10_guard_17 (by decide) (fun c10 => ?_) (fun c10 => ?_)
    · have hw := hw.2 c10
      refine qx_aload_n (pc := 23) X 0 dX10_guard_23 rfl rfl ?_
      refine qx_getr (f := 30) (i := 0) (a := ad 35 0) (pc := 24) X qx_gRX10_22 qx_me30 rfl dX10_guard_24 ?_
      refine qx_iconst (v := 4) (pc := 27) X dX10_guard_27 (by decide) ?_
      refine qx_iload_n (pc := 28) X 1 dX10_guard_28 rfl rfl ?_
      refine qx_imul (pc := 29) X dX10_guard_29 ?_
      refine qx_iload_n (pc := 30) X 2 dX10_guard_30 rfl rfl ?_
      refine qx_iadd (pc := 31) X dX10_guard_31 ?_
      refine qx_zald (f := 35) (i := 0) (pc := 32) X rfl qx_me35 hw.1 dX10_guard_32 ?_
      have hw := hw.2
      refine qx_if_eq (tgt := 40) (pc := 33) X dX10_guard_33 (by decide) (fun c9 => ?_) (fun c9 => ?_)
      · have hw := hw.1 c9
        refine qx_iconst (v := 0) (pc := 40) X dX10_guard_40 (by decide) ?_
        refine qx_istore (lv' := [(4, .int (0 : Int32)), (0, .ref (ad 30 0)), (1, .int p1), (2, .int p2), (3, .int p3)]) (pc := 41) X dX10_guard_41 (by decide) rfl ?_
        refine qx_aload_n (pc := 43) X 1 dX10_guard_43 rfl rfl ?_
        refine qx_getr (f := 30) (i := 0) (a := ad 35 0) (pc := 44) X qx_gRX10_22 qx_me30 rfl dX10_guard_44 ?_
        refine qx_iconst (v := 4) (pc := 47) X dX10_guard_47 (by decide) ?_
        refine qx_iload_n (pc := 48) X 2 dX10_guard_48 rfl rfl ?_
        refine qx_imul (pc := 49) X dX10_guard_49 ?_
        refine qx_iload_n (pc := 50) X 3 dX10_guard_50 rfl rfl ?_
        refine qx_iadd (pc := 51) X dX10_guard_51 ?_
        refine qx_iload_n (pc := 52) X 4 dX10_guard_52 rfl rfl ?_
        refine qx_zast1 (f := 35) (i := 0) (pc := 53) X rfl qx_me35 hw.1 dX10_guard_53 (fun s5 e6 => ?_)
        have hw := hw.2
        have hw := hw s5 e6
        refine qx_iload (pc := 54) X 0 dX10_guard_54 rfl ?_
        exact qx_iret (pc := 56) X hr hlk hw dX10_guard_56
      · have hw := hw.2 c9
        refine qx_iconst (v := 1) (pc := 36) X dX10_guard_36 (by decide) ?_
        refine qx_goto (tgt := 41) (pc := 37) X dX10_guard_37 (by decide) ?_
        refine qx_istore (lv' := [(4, .int (1 : Int32)), (0, .ref (ad 30 0)), (1, .int p1), (2, .int p2), (3, .int p3)]) (pc := 41) X dX10_guard_41 (by decide) rfl ?_
        refine qx_aload_n (pc := 43) X 1 dX10_guard_43 rfl rfl ?_
        refine qx_getr (f := 30) (i := 0) (a := ad 35 0) (pc := 44) X qx_gRX10_22 qx_me30 rfl dX10_guard_44 ?_
        refine qx_iconst (v := 4) (pc := 47) X dX10_guard_47 (by decide) ?_
        refine qx_iload_n (pc := 48) X 2 dX10_guard_48 rfl rfl ?_
        refine qx_imul (pc := 49) X dX10_guard_49 ?_
        refine qx_iload_n (pc := 50) X 3 dX10_guard_50 rfl rfl ?_
        refine qx_iadd (pc := 51) X dX10_guard_51 ?_
        refine qx_iload_n (pc := 52) X 4 dX10_guard_52 rfl rfl ?_
        refine qx_zast1 (f := 35) (i := 0) (pc := 53) X rfl qx_me35 hw.1 dX10_guard_53 (fun s7 e8 => ?_)
        have hw := hw.2
        have hw := hw s7 e8
        refine qx_iload (pc := 54) X 0 dX10_guard_54 rfl ?_
        exact qx_iret (pc := 56) X hr hlk hw dX10_guard_56
    · have hw := hw.1 c10
      refine qx_bipush (v := -102) (pc := 20) X dX10_guard_20 (by decide) ?_
      exact qx_iret (pc := 22) X hr hlk hw dX10_guard_22
  · have hw := hw.2 c11
    refine qx_bipush (v := -101) (pc := 8) X dX10_guard_8 (by decide) ?_
    exact qx_iret (pc := 10) X hr hlk hw dX10_guard_10
def wX10_hold_l64 (p1 : Int32) (post : qx_St → Prop) : Nat → Int32 → Int32 → qx_St → Prop
  | 0, _, _, _ => False
  | n + 1, a1, a2, σ => (((4 : Int32) ≤ a2 → (vp_in a1 8 ∧ (∀ s1, s1 = qx_st σ 54 0 a1.toNatClampNeg (σ 30 0 30) → (vp_in a1 8 ∧ (∀ s3, s3 = qx_st s1 55 0 a1.toNatClampNeg (s1 30 0 35) → post s3))))) ∧ (¬ ((4 : Int32) ≤ a2) → (vp_in a2 4 ∧ (vp_in (((4 : Int32) * a1) + a2) 32 ∧ (∀ s5, s5 = qx_st σ 52 0 (((4 : Int32) * a1) + a2).toNatClampNeg (σ 31 0 a2.toNatClampNeg) → wX10_hold_l64 p1 post n a1 (a2 + 1) s5)))))
def wX10_hold_l33 (p1 : Int32) (post : qx_St → Prop) : Nat → Int32 → Int32 → qx_St → Prop
  | 0, _, _, _ => False
  | n + 1, a1, a2, σ => (((8 : Int32) ≤ a2 → ∃ n, wX10_hold_l64 p1 post n a1 (0 : Int32) σ) ∧ (¬ ((8 : Int32) ≤ a2) → (vp_in a2 8 ∧ (vp_in (((8 : Int32) * a1) + a2) 64 ∧ (∀ s8, s8 = qx_st σ 53 0 (((8 : Int32) * a1) + a2).toNatClampNeg (σ 32 0 a2.toNatClampNeg) → wX10_hold_l33 p1 post n a1 (a2 + 1) s8)))))
def wX10_hold_l2 (p1 : Int32) (post : qx_St → Prop) : Nat → Int32 → Int32 → qx_St → Prop
  | 0, _, _, _ => False
  | n + 1, a1, a2, σ => (((64 : Int32) ≤ a2 → ∃ n, wX10_hold_l33 p1 post n a1 (0 : Int32) σ) ∧ (¬ ((64 : Int32) ≤ a2) → (vp_in a2 64 ∧ (vp_in (((64 : Int32) * a1) + a2) 512 ∧ (∀ s11, s11 = qx_st σ 51 0 (((64 : Int32) * a1) + a2).toNatClampNeg (σ 33 0 a2.toNatClampNeg) → wX10_hold_l2 p1 post n a1 (a2 + 1) s11)))))
def wX10_hold (p1 : Int32) (σ : qx_St) (post : qx_St → Prop) : Prop := ∃ n, wX10_hold_l2 p1 post n p1 (0 : Int32) σ
set_option maxHeartbeats 4000000 in
set_option maxRecDepth 100000 in
theorem kX10_hold (l : Launch) (G : qx_Gx) (t1 t2 : Nat) (ad : Nat → Nat → Nat) (p1 : Int32) (σ : qx_St) (post : qx_St → Prop) (hw : wX10_hold p1 σ post) : qx_Mv l G t1 t2 (qx_w0 ad) yX10_hold cX10_hold 3 none { frames := 0, cells := 0, slots := 0, locals := 0 } [.ref (ad 30 0), .int p1] σ post := by
  unfold wX10_hold at hw
  refine qx_start qx_mcX10_hold (Nat.le_of_ble_eq_true rfl) (fun K hKl hR X hr hlk => ?_)
  subst hKl
  have L64 : ∀ (n : Nat) (a1 : Int32) (a2 : Int32) (σ : qx_St), wX10_hold_l64 p1 post n a1 a2 σ → qx_V K G 3 0 0 (MQ K.2.2.2.2.2.2.2.1 (va_Qv post (qx_B G (qx_w0 ad)) G.2.2) K.2.2.2.2.2.2.1 K.2.2.2.2.1 0 0 G.2.2) (qx_w0 ad) σ 64 [(0, .ref (ad 30 0)), (1, .int a1), (2, .int a2)] [] := by
    intro n
    induction n with
    | zero => intro a1 a2 σ hw; exact hw.elim
    | succ n ih =>
      intro a1 a2 σ hw
      refine qx_iload_n (pc := 64) X 2 dX10_hold_64 rfl rfl ?_
      refine qx_iconst (v := 4) (pc := 65) X dX10_hold_65 (by decide) ?_
      refine qx_icmp_ge (tgt := 91) (pc := 66) X dX10_hold_66 (by decide) (fun c7 => ?_) (fun c7 => ?_)
      · have hw := hw.1 c7
        refine qx_aload_n (pc := 91) X 0 dX10_hold_91 rfl rfl ?_
        refine qx_getr (f := 30) (i := 0) (a := ad 54 0) (pc := 92) X qx_gRX10_80 qx_me30 rfl dX10_hold_92 ?_
        refine qx_iload_n (pc := 95) X 1 dX10_hold_95 rfl rfl ?_
        refine qx_aload_n (pc := 96) X 0 dX10_hold_96 rfl rfl ?_
        refine qx_geti (f := 30) (i := 0) (pc := 97) X qx_gRX10_136 qx_me30 dX10_hold_97 ?_
        refine qx_iast1 (f := 54) (i := 0) (pc := 100) X rfl qx_me54 hw.1 dX10_hold_100 (fun s1 e2 => ?_)
        have hw := hw.2
        have hw := hw s1 e2
        refine qx_aload_n (pc := 101) X 0 dX10_hold_101 rfl rfl ?_
        refine qx_getr (f := 30) (i := 0) (a := ad 55 0) (pc := 102) X qx_gRX10_83 qx_me30 rfl dX10_hold_102 ?_
        refine qx_iload_n (pc := 105) X 1 dX10_hold_105 rfl rfl ?_
        refine qx_aload_n (pc := 106) X 0 dX10_hold_106 rfl rfl ?_
        refine qx_geti (f := 30) (i := 0) (pc := 107) X qx_gRX10_153 qx_me30 dX10_hold_107 ?_
        refine qx_iast1 (f := 55) (i := 0) (pc := 110) X rfl qx_me55 hw.1 dX10_hold_110 (fun s3 e4 => ?_)
        have hw := hw.2
        have hw := hw s3 e4
        exact qx_vret (pc := 111) X hr hlk hw dX10_hold_111
      · have hw := hw.2 c7
        refine qx_aload_n (pc := 69) X 0 dX10_hold_69 rfl rfl ?_
        refine qx_getr (f := 30) (i := 0) (a := ad 52 0) (pc := 70) X qx_gRX10_74 qx_me30 rfl dX10_hold_70 ?_
        refine qx_iconst (v := 4) (pc := 73) X dX10_hold_73 (by decide) ?_
        refine qx_iload_n (pc := 74) X 1 dX10_hold_74 rfl rfl ?_
        refine qx_imul (pc := 75) X dX10_hold_75 ?_
        refine qx_iload_n (pc := 76) X 2 dX10_hold_76 rfl rfl ?_
        refine qx_iadd (pc := 77) X dX10_hold_77 ?_
        refine qx_aload_n (pc := 78) X 0 dX10_hold_78 rfl rfl ?_
        refine qx_getr (f := 30) (i := 0) (a := ad 31 0) (pc := 79) X qx_gRX10_7 qx_me30 rfl dX10_hold_79 ?_
        refine qx_iload_n (pc := 82) X 2 dX10_hold_82 rfl rfl ?_
        refine qx_iald (f := 31) (i := 0) (pc := 83) X rfl qx_me31 hw.1 dX10_hold_83 ?_
        have hw := hw.2
        refine qx_iast1 (f := 52) (i := 0) (pc := 84) X rfl qx_me52 hw.1 dX10_hold_84 (fun s5 e6 => ?_)
        have hw := hw.2
        have hw := hw s5 e6
        refine qx_iinc (v := (a2 + 1)) (lv' := [(2, .int (a2 + 1)), (0, .ref (ad 30 0)), (1, .int a1)]) (pc := 85) X 2 dX10_hold_85 rfl rfl (by decide) rfl ?_
        refine qx_goto (tgt := 64) (pc := 88) X dX10_hold_88 (by decide) ?_
        refine qx_lsub [1, 2, 0] rfl ?_
        exact ih a1 (a2 + 1) s5 hw
  have L33 : ∀ (n : Nat) (a1 : Int32) (a2 : Int32) (σ : qx_St), wX10_hold_l33 p1 post n a1 a2 σ → qx_V K G 3 0 0 (MQ K.2.2.2.2.2.2.2.1 (va_Qv post (qx_B G (qx_w0 ad)) G.2.2) K.2.2.2.2.2.2.1 K.2.2.2.2.1 0 0 G.2.2) (qx_w0 ad) σ 33 [(0, .ref (ad 30 0)), (1, .int a1), (2, .int a2)] [] := by
    intro n
    induction n with
    | zero => intro a1 a2 σ hw; exact hw.elim
    | succ n ih =>
      intro a1 a2 σ hw
      refine qx_iload_n (pc := 33) X 2 dX10_hold_33 rfl rfl ?_
      refine qx_bipush (v := 8) (pc := 34) X dX10_hold_34 (by decide) ?_
      refine qx_icmp_ge (tgt := 62) (pc := 36) X dX10_hold_36 (by decide) (fun c10 => ?_) (fun c10 => ?_)
      · have hw := hw.1 c10
        refine qx_iconst (v := 0) (pc := 62) X dX10_hold_62 (by decide) ?_
        refine qx_istore_n (lv' := [(2, .int (0 : Int32)), (0, .ref (ad 30 0)), (1, .int a1)]) (pc := 63) X dX10_hold_63 rfl (by decide) rfl ?_
        refine qx_lsub [1, 2, 0] rfl ?_
        obtain ⟨n, hw⟩ := hw
        exact L64 n a1 (0 : Int32) σ hw
      · have hw := hw.2 c10
        refine qx_aload_n (pc := 39) X 0 dX10_hold_39 rfl rfl ?_
        refine qx_getr (f := 30) (i := 0) (a := ad 53 0) (pc := 40) X qx_gRX10_77 qx_me30 rfl dX10_hold_40 ?_
        refine qx_bipush (v := 8) (pc := 43) X dX10_hold_43 (by decide) ?_
        refine qx_iload_n (pc := 45) X 1 dX10_hold_45 rfl rfl ?_
        refine qx_imul (pc := 46) X dX10_hold_46 ?_
        refine qx_iload_n (pc := 47) X 2 dX10_hold_47 rfl rfl ?_
        refine qx_iadd (pc := 48) X dX10_hold_48 ?_
        refine qx_aload_n (pc := 49) X 0 dX10_hold_49 rfl rfl ?_
        refine qx_getr (f := 30) (i := 0) (a := ad 32 0) (pc := 50) X qx_gRX10_13 qx_me30 rfl dX10_hold_50 ?_
        refine qx_iload_n (pc := 53) X 2 dX10_hold_53 rfl rfl ?_
        refine qx_iald (f := 32) (i := 0) (pc := 54) X rfl qx_me32 hw.1 dX10_hold_54 ?_
        have hw := hw.2
        refine qx_iast1 (f := 53) (i := 0) (pc := 55) X rfl qx_me53 hw.1 dX10_hold_55 (fun s8 e9 => ?_)
        have hw := hw.2
        have hw := hw s8 e9
        refine qx_iinc (v := (a2 + 1)) (lv' := [(2, .int (a2 + 1)), (0, .ref (ad 30 0)), (1, .int a1)]) (pc := 56) X 2 dX10_hold_56 rfl rfl (by decide) rfl ?_
        refine qx_goto (tgt := 33) (pc := 59) X dX10_hold_59 (by decide) ?_
        refine qx_lsub [1, 2, 0] rfl ?_
        exact ih a1 (a2 + 1) s8 hw
  have L2 : ∀ (n : Nat) (a1 : Int32) (a2 : Int32) (σ : qx_St), wX10_hold_l2 p1 post n a1 a2 σ → qx_V K G 3 0 0 (MQ K.2.2.2.2.2.2.2.1 (va_Qv post (qx_B G (qx_w0 ad)) G.2.2) K.2.2.2.2.2.2.1 K.2.2.2.2.1 0 0 G.2.2) (qx_w0 ad) σ 2 [(0, .ref (ad 30 0)), (1, .int a1), (2, .int a2)] [] := by
    intro n
    induction n with
    | zero => intro a1 a2 σ hw; exact hw.elim
    | succ n ih =>
      intro a1 a2 σ hw
      refine qx_iload_n (pc := 2) X 2 dX10_hold_2 rfl rfl ?_
      refine qx_bipush (v := 64) (pc := 3) X dX10_hold_3 (by decide) ?_
      refine qx_icmp_ge (tgt := 31) (pc := 5) X dX10_hold_5 (by decide) (fun c13 => ?_) (fun c13 => ?_)
      · have hw := hw.1 c13
        refine qx_iconst (v := 0) (pc := 31) X dX10_hold_31 (by decide) ?_
        refine qx_istore_n (lv' := [(2, .int (0 : Int32)), (0, .ref (ad 30 0)), (1, .int a1)]) (pc := 32) X dX10_hold_32 rfl (by decide) rfl ?_
        refine qx_lsub [1, 2, 0] rfl ?_
        obtain ⟨n, hw⟩ := hw
        exact L33 n a1 (0 : Int32) σ hw
      · have hw := hw.2 c13
        refine qx_aload_n (pc := 8) X 0 dX10_hold_8 rfl rfl ?_
        refine qx_getr (f := 30) (i := 0) (a := ad 51 0) (pc := 9) X qx_gRX10_71 qx_me30 rfl dX10_hold_9 ?_
        refine qx_bipush (v := 64) (pc := 12) X dX10_hold_12 (by decide) ?_
        refine qx_iload_n (pc := 14) X 1 dX10_hold_14 rfl rfl ?_
        refine qx_imul (pc := 15) X dX10_hold_15 ?_
        refine qx_iload_n (pc := 16) X 2 dX10_hold_16 rfl rfl ?_
        refine qx_iadd (pc := 17) X dX10_hold_17 ?_
        refine qx_aload_n (pc := 18) X 0 dX10_hold_18 rfl rfl ?_
        refine qx_getr (f := 30) (i := 0) (a := ad 33 0) (pc := 19) X qx_gRX10_16 qx_me30 rfl dX10_hold_19 ?_
        refine qx_iload_n (pc := 22) X 2 dX10_hold_22 rfl rfl ?_
        refine qx_iald (f := 33) (i := 0) (pc := 23) X rfl qx_me33 hw.1 dX10_hold_23 ?_
        have hw := hw.2
        refine qx_iast1 (f := 51) (i := 0) (pc := 24) X rfl qx_me51 hw.1 dX10_hold_24 (fun s11 e12 => ?_)
        have hw := hw.2
        have hw := hw s11 e12
        refine qx_iinc (v := (a2 + 1)) (lv' := [(2, .int (a2 + 1)), (0, .ref (ad 30 0)), (1, .int a1)]) (pc := 25) X 2 dX10_hold_25 rfl rfl (by decide) rfl ?_
        refine qx_goto (tgt := 2) (pc := 28) X dX10_hold_28 (by decide) ?_
        refine qx_lsub [1, 2, 0] rfl ?_
        exact ih a1 (a2 + 1) s11 hw
  refine (show qx_V K G 3 0 0 (MQ K.2.2.2.2.2.2.2.1 (va_Qv post (qx_B G (qx_w0 ad)) G.2.2) K.2.2.2.2.2.2.1 K.2.2.2.2.1 0 0 G.2.2) (qx_w0 ad) σ 0 [(0, .ref (ad 30 0)), (1, .int p1)] [] from ?_)
  refine qx_iconst (v := 0) (pc := 0) X dX10_hold_0 (by decide) ?_
  refine qx_istore_n (lv' := [(2, .int (0 : Int32)), (0, .ref (ad 30 0)), (1, .int p1)]) (pc := 1) X dX10_hold_1 rfl (by decide) rfl ?_
  refine qx_lsub [1, 2, 0] rfl ?_
  obtain ⟨n, hw⟩ := hw
  exact L2 n p1 (0 : Int32) σ hw
def wX10_undo_l64 (p1 : Int32) (post : qx_St → Prop) : Nat → Int32 → Int32 → qx_St → Prop
  | 0, _, _, _ => False
  | n + 1, a1, a2, σ => (((4 : Int32) ≤ a2 → (vp_in a1 8 ∧ (∀ s1, s1 = qx_st σ 30 0 30 (σ 54 0 a1.toNatClampNeg) → (vp_in a1 8 ∧ (∀ s3, s3 = qx_st s1 30 0 35 (s1 55 0 a1.toNatClampNeg) → post s3))))) ∧ (¬ ((4 : Int32) ≤ a2) → (vp_in (((4 : Int32) * a1) + a2) 32 ∧ (vp_in a2 4 ∧ (∀ s5, s5 = qx_st σ 31 0 a2.toNatClampNeg (σ 52 0 (((4 : Int32) * a1) + a2).toNatClampNeg) → wX10_undo_l64 p1 post n a1 (a2 + 1) s5)))))
def wX10_undo_l33 (p1 : Int32) (post : qx_St → Prop) : Nat → Int32 → Int32 → qx_St → Prop
  | 0, _, _, _ => False
  | n + 1, a1, a2, σ => (((8 : Int32) ≤ a2 → ∃ n, wX10_undo_l64 p1 post n a1 (0 : Int32) σ) ∧ (¬ ((8 : Int32) ≤ a2) → (vp_in (((8 : Int32) * a1) + a2) 64 ∧ (vp_in a2 8 ∧ (∀ s8, s8 = qx_st σ 32 0 a2.toNatClampNeg (σ 53 0 (((8 : Int32) * a1) + a2).toNatClampNeg) → wX10_undo_l33 p1 post n a1 (a2 + 1) s8)))))
def wX10_undo_l2 (p1 : Int32) (post : qx_St → Prop) : Nat → Int32 → Int32 → qx_St → Prop
  | 0, _, _, _ => False
  | n + 1, a1, a2, σ => (((64 : Int32) ≤ a2 → ∃ n, wX10_undo_l33 p1 post n a1 (0 : Int32) σ) ∧ (¬ ((64 : Int32) ≤ a2) → (vp_in (((64 : Int32) * a1) + a2) 512 ∧ (vp_in a2 64 ∧ (∀ s11, s11 = qx_st σ 33 0 a2.toNatClampNeg (σ 51 0 (((64 : Int32) * a1) + a2).toNatClampNeg) → wX10_undo_l2 p1 post n a1 (a2 + 1) s11)))))
def wX10_undo (p1 : Int32) (σ : qx_St) (post : qx_St → Prop) : Prop := ∃ n, wX10_undo_l2 p1 post n p1 (0 : Int32) σ
set_option maxHeartbeats 4000000 in
set_option maxRecDepth 100000 in
theorem kX10_undo (l : Launch) (G : qx_Gx) (t1 t2 : Nat) (ad : Nat → Nat → Nat) (p1 : Int32) (σ : qx_St) (post : qx_St → Prop) (hw : wX10_undo p1 σ post) : qx_Mv l G t1 t2 (qx_w0 ad) yX10_undo cX10_undo 3 none { frames := 0, cells := 0, slots := 0, locals := 0 } [.ref (ad 30 0), .int p1] σ post := by
  unfold wX10_undo at hw
  refine qx_start qx_mcX10_undo (Nat.le_of_ble_eq_true rfl) (fun K hKl hR X hr hlk => ?_)
  subst hKl
  have L64 : ∀ (n : Nat) (a1 : Int32) (a2 : Int32) (σ : qx_St), wX10_undo_l64 p1 post n a1 a2 σ → qx_V K G 3 0 0 (MQ K.2.2.2.2.2.2.2.1 (va_Qv post (qx_B G (qx_w0 ad)) G.2.2) K.2.2.2.2.2.2.1 K.2.2.2.2.1 0 0 G.2.2) (qx_w0 ad) σ 64 [(0, .ref (ad 30 0)), (1, .int a1), (2, .int a2)] [] := by
    intro n
    induction n with
    | zero => intro a1 a2 σ hw; exact hw.elim
    | succ n ih =>
      intro a1 a2 σ hw
      refine qx_iload_n (pc := 64) X 2 dX10_undo_64 rfl rfl ?_
      refine qx_iconst (v := 4) (pc := 65) X dX10_undo_65 (by decide) ?_
      refine qx_icmp_ge (tgt := 91) (pc := 66) X dX10_undo_66 (by decide) (fun c7 => ?_) (fun c7 => ?_)
      · have hw := hw.1 c7
        refine qx_aload_n (pc := 91) X 0 dX10_undo_91 rfl rfl ?_
        refine qx_aload_n (pc := 92) X 0 dX10_undo_92 rfl rfl ?_
        refine qx_getr (f := 30) (i := 0) (a := ad 54 0) (pc := 93) X qx_gRX10_80 qx_me30 rfl dX10_undo_93 ?_
        refine qx_iload_n (pc := 96) X 1 dX10_undo_96 rfl rfl ?_
        refine qx_iald (f := 54) (i := 0) (pc := 97) X rfl qx_me54 hw.1 dX10_undo_97 ?_
        have hw := hw.2
        refine qx_puti1 (f := 30) (i := 0) (pc := 98) X qx_pRX10_136 qx_me30 dX10_undo_98 (fun s1 e2 => ?_)
        have hw := hw s1 e2
        refine qx_aload_n (pc := 101) X 0 dX10_undo_101 rfl rfl ?_
        refine qx_aload_n (pc := 102) X 0 dX10_undo_102 rfl rfl ?_
        refine qx_getr (f := 30) (i := 0) (a := ad 55 0) (pc := 103) X qx_gRX10_83 qx_me30 rfl dX10_undo_103 ?_
        refine qx_iload_n (pc := 106) X 1 dX10_undo_106 rfl rfl ?_
        refine qx_iald (f := 55) (i := 0) (pc := 107) X rfl qx_me55 hw.1 dX10_undo_107 ?_
        have hw := hw.2
        refine qx_puti1 (f := 30) (i := 0) (pc := 108) X qx_pRX10_153 qx_me30 dX10_undo_108 (fun s3 e4 => ?_)
        have hw := hw s3 e4
        exact qx_vret (pc := 111) X hr hlk hw dX10_undo_111
      · have hw := hw.2 c7
        refine qx_aload_n (pc := 69) X 0 dX10_undo_69 rfl rfl ?_
        refine qx_getr (f := 30) (i := 0) (a := ad 31 0) (pc := 70) X qx_gRX10_7 qx_me30 rfl dX10_undo_70 ?_
        refine qx_iload_n (pc := 73) X 2 dX10_undo_73 rfl rfl ?_
        refine qx_aload_n (pc := 74) X 0 dX10_undo_74 rfl rfl ?_
        refine qx_getr (f := 30) (i := 0) (a := ad 52 0) (pc := 75) X qx_gRX10_74 qx_me30 rfl dX10_undo_75 ?_
        refine qx_iconst (v := 4) (pc := 78) X dX10_undo_78 (by decide) ?_
        refine qx_iload_n (pc := 79) X 1 dX10_undo_79 rfl rfl ?_
        refine qx_imul (pc := 80) X dX10_undo_80 ?_
        refine qx_iload_n (pc := 81) X 2 dX10_undo_81 rfl rfl ?_
        refine qx_iadd (pc := 82) X dX10_undo_82 ?_
        refine qx_iald (f := 52) (i := 0) (pc := 83) X rfl qx_me52 hw.1 dX10_undo_83 ?_
        have hw := hw.2
        refine qx_iast1 (f := 31) (i := 0) (pc := 84) X rfl qx_me31 hw.1 dX10_undo_84 (fun s5 e6 => ?_)
        have hw := hw.2
        have hw := hw s5 e6
        refine qx_iinc (v := (a2 + 1)) (lv' := [(2, .int (a2 + 1)), (0, .ref (ad 30 0)), (1, .int a1)]) (pc := 85) X 2 dX10_undo_85 rfl rfl (by decide) rfl ?_
        refine qx_goto (tgt := 64) (pc := 88) X dX10_undo_88 (by decide) ?_
        refine qx_lsub [1, 2, 0] rfl ?_
        exact ih a1 (a2 + 1) s5 hw
  have L33 : ∀ (n : Nat) (a1 : Int32) (a2 : Int32) (σ : qx_St), wX10_undo_l33 p1 post n a1 a2 σ → qx_V K G 3 0 0 (MQ K.2.2.2.2.2.2.2.1 (va_Qv post (qx_B G (qx_w0 ad)) G.2.2) K.2.2.2.2.2.2.1 K.2.2.2.2.1 0 0 G.2.2) (qx_w0 ad) σ 33 [(0, .ref (ad 30 0)), (1, .int a1), (2, .int a2)] [] := by
    intro n
    induction n with
    | zero => intro a1 a2 σ hw; exact hw.elim
    | succ n ih =>
      intro a1 a2 σ hw
      refine qx_iload_n (pc := 33) X 2 dX10_undo_33 rfl rfl ?_
      refine qx_bipush (v := 8) (pc := 34) X dX10_undo_34 (by decide) ?_
      refine qx_icmp_ge (tgt := 62) (pc := 36) X dX10_undo_36 (by decide) (fun c10 => ?_) (fun c10 => ?_)
      · have hw := hw.1 c10
        refine qx_iconst (v := 0) (pc := 62) X dX10_undo_62 (by decide) ?_
        refine qx_istore_n (lv' := [(2, .int (0 : Int32)), (0, .ref (ad 30 0)), (1, .int a1)]) (pc := 63) X dX10_undo_63 rfl (by decide) rfl ?_
        refine qx_lsub [1, 2, 0] rfl ?_
        obtain ⟨n, hw⟩ := hw
        exact L64 n a1 (0 : Int32) σ hw
      · have hw := hw.2 c10
        refine qx_aload_n (pc := 39) X 0 dX10_undo_39 rfl rfl ?_
        refine qx_getr (f := 30) (i := 0) (a := ad 32 0) (pc := 40) X qx_gRX10_13 qx_me30 rfl dX10_undo_40 ?_
        refine qx_iload_n (pc := 43) X 2 dX10_undo_43 rfl rfl ?_
        refine qx_aload_n (pc := 44) X 0 dX10_undo_44 rfl rfl ?_
        refine qx_getr (f := 30) (i := 0) (a := ad 53 0) (pc := 45) X qx_gRX10_77 qx_me30 rfl dX10_undo_45 ?_
        refine qx_bipush (v := 8) (pc := 48) X dX10_undo_48 (by decide) ?_
        refine qx_iload_n (pc := 50) X 1 dX10_undo_50 rfl rfl ?_
        refine qx_imul (pc := 51) X dX10_undo_51 ?_
        refine qx_iload_n (pc := 52) X 2 dX10_undo_52 rfl rfl ?_
        refine qx_iadd (pc := 53) X dX10_undo_53 ?_
        refine qx_iald (f := 53) (i := 0) (pc := 54) X rfl qx_me53 hw.1 dX10_undo_54 ?_
        have hw := hw.2
        refine qx_iast1 (f := 32) (i := 0) (pc := 55) X rfl qx_me32 hw.1 dX10_undo_55 (fun s8 e9 => ?_)
        have hw := hw.2
        have hw := hw s8 e9
        refine qx_iinc (v := (a2 + 1)) (lv' := [(2, .int (a2 + 1)), (0, .ref (ad 30 0)), (1, .int a1)]) (pc := 56) X 2 dX10_undo_56 rfl rfl (by decide) rfl ?_
        refine qx_goto (tgt := 33) (pc := 59) X dX10_undo_59 (by decide) ?_
        refine qx_lsub [1, 2, 0] rfl ?_
        exact ih a1 (a2 + 1) s8 hw
  have L2 : ∀ (n : Nat) (a1 : Int32) (a2 : Int32) (σ : qx_St), wX10_undo_l2 p1 post n a1 a2 σ → qx_V K G 3 0 0 (MQ K.2.2.2.2.2.2.2.1 (va_Qv post (qx_B G (qx_w0 ad)) G.2.2) K.2.2.2.2.2.2.1 K.2.2.2.2.1 0 0 G.2.2) (qx_w0 ad) σ 2 [(0, .ref (ad 30 0)), (1, .int a1), (2, .int a2)] [] := by
    intro n
    induction n with
    | zero => intro a1 a2 σ hw; exact hw.elim
    | succ n ih =>
      intro a1 a2 σ hw
      refine qx_iload_n (pc := 2) X 2 dX10_undo_2 rfl rfl ?_
      refine qx_bipush (v := 64) (pc := 3) X dX10_undo_3 (by decide) ?_
      refine qx_icmp_ge (tgt := 31) (pc := 5) X dX10_undo_5 (by decide) (fun c13 => ?_) (fun c13 => ?_)
      · have hw := hw.1 c13
        refine qx_iconst (v := 0) (pc := 31) X dX10_undo_31 (by decide) ?_
        refine qx_istore_n (lv' := [(2, .int (0 : Int32)), (0, .ref (ad 30 0)), (1, .int a1)]) (pc := 32) X dX10_undo_32 rfl (by decide) rfl ?_
        refine qx_lsub [1, 2, 0] rfl ?_
        obtain ⟨n, hw⟩ := hw
        exact L33 n a1 (0 : Int32) σ hw
      · have hw := hw.2 c13
        refine qx_aload_n (pc := 8) X 0 dX10_undo_8 rfl rfl ?_
        refine qx_getr (f := 30) (i := 0) (a := ad 33 0) (pc := 9) X qx_gRX10_16 qx_me30 rfl dX10_undo_9 ?_
        refine qx_iload_n (pc := 12) X 2 dX10_undo_12 rfl rfl ?_
        refine qx_aload_n (pc := 13) X 0 dX10_undo_13 rfl rfl ?_
        refine qx_getr (f := 30) (i := 0) (a := ad 51 0) (pc := 14) X qx_gRX10_71 qx_me30 rfl dX10_undo_14 ?_
        refine qx_bipush (v := 64) (pc := 17) X dX10_undo_17 (by decide) ?_
        refine qx_iload_n (pc := 19) X 1 dX10_undo_19 rfl rfl ?_
        refine qx_imul (pc := 20) X dX10_undo_20 ?_
        refine qx_iload_n (pc := 21) X 2 dX10_undo_21 rfl rfl ?_
        refine qx_iadd (pc := 22) X dX10_undo_22 ?_
        refine qx_iald (f := 51) (i := 0) (pc := 23) X rfl qx_me51 hw.1 dX10_undo_23 ?_
        have hw := hw.2
        refine qx_iast1 (f := 33) (i := 0) (pc := 24) X rfl qx_me33 hw.1 dX10_undo_24 (fun s11 e12 => ?_)
        have hw := hw.2
        have hw := hw s11 e12
        refine qx_iinc (v := (a2 + 1)) (lv' := [(2, .int (a2 + 1)), (0, .ref (ad 30 0)), (1, .int a1)]) (pc := 25) X 2 dX10_undo_25 rfl rfl (by decide) rfl ?_
        refine qx_goto (tgt := 2) (pc := 28) X dX10_undo_28 (by decide) ?_
        refine qx_lsub [1, 2, 0] rfl ?_
        exact ih a1 (a2 + 1) s11 hw
  refine (show qx_V K G 3 0 0 (MQ K.2.2.2.2.2.2.2.1 (va_Qv post (qx_B G (qx_w0 ad)) G.2.2) K.2.2.2.2.2.2.1 K.2.2.2.2.1 0 0 G.2.2) (qx_w0 ad) σ 0 [(0, .ref (ad 30 0)), (1, .int p1)] [] from ?_)
  refine qx_iconst (v := 0) (pc := 0) X dX10_undo_0 (by decide) ?_
  refine qx_istore_n (lv' := [(2, .int (0 : Int32)), (0, .ref (ad 30 0)), (1, .int p1)]) (pc := 1) X dX10_undo_1 rfl (by decide) rfl ?_
  refine qx_lsub [1, 2, 0] rfl ?_
  obtain ⟨n, hw⟩ := hw
  exact L2 n p1 (0 : Int32) σ hw
def wX10_enter_j187 (p1 : Int32) (p2 : Int32) (p3 : Int32) (p4 : Int32) (p5 : Int32) (p6 : Int32) (p7 : Int32) (post : qx_St → Prop) (a1 : Int32) (a2 : Int32) (a3 : Int32) (a4 : Int32) (a5 : Int32) (a6 : Int32) (a7 : Int32) (a8 : Int32) (b0 : Int32) (σ : qx_St) : Prop := (∀ s31, s31 = qx_st σ 30 0 37 b0 → (((40 : Int32) ≤ (s31 30 0 36) → (∀ s33, s33 = qx_st s31 30 0 36 ((s31 30 0 36) + (1 : Int32)) → post s33)) ∧ (¬ ((40 : Int32) ≤ (s31 30 0 36)) → (vp_in (s31 30 0 36) 40 ∧ (∀ s35, s35 = qx_st s31 60 0 (s31 30 0 36).toNatClampNeg a1 → (vp_in (s35 30 0 36) 40 ∧ (∀ s37, s37 = qx_st s35 61 0 (s35 30 0 36).toNatClampNeg (s35 30 0 12) → (vp_in (s37 30 0 36) 40 ∧ (∀ s39, s39 = qx_st s37 65 0 (s37 30 0 36).toNatClampNeg (vp_nar .boolean a7) → (∀ s41, s41 = qx_st s39 30 0 36 ((s39 30 0 36) + (1 : Int32)) → post s41))))))))))
def wX10_enter_j154 (p1 : Int32) (p2 : Int32) (p3 : Int32) (p4 : Int32) (p5 : Int32) (p6 : Int32) (p7 : Int32) (post : qx_St → Prop) (a1 : Int32) (a2 : Int32) (a3 : Int32) (a4 : Int32) (a5 : Int32) (a6 : Int32) (a7 : Int32) (a8 : Int32) (σ : qx_St) : Prop := (∀ s29, s29 = qx_st σ 30 0 12 ((σ 30 0 12) + (1 : Int32)) → (((s29 30 0 12) ≤ (s29 30 0 37) → wX10_enter_j187 p1 p2 p3 p4 p5 p6 p7 post a1 a2 a3 a4 a5 a6 a7 a8 (s29 30 0 37) s29) ∧ (¬ ((s29 30 0 12) ≤ (s29 30 0 37)) → wX10_enter_j187 p1 p2 p3 p4 p5 p6 p7 post a1 a2 a3 a4 a5 a6 a7 a8 (s29 30 0 12) s29)))
def wX10_enter (p1 : Int32) (p2 : Int32) (p3 : Int32) (p4 : Int32) (p5 : Int32) (p6 : Int32) (p7 : Int32) (σ : qx_St) (post : qx_St → Prop) : Prop := wX10_hold (σ 30 0 12) σ (fun s1 => (vp_in (σ 30 0 12) 8 ∧ (∀ s3, s3 = qx_st s1 39 0 (σ 30 0 12).toNatClampNeg p1 → (vp_in (σ 30 0 12) 8 ∧ (∀ s5, s5 = qx_st s3 40 0 (σ 30 0 12).toNatClampNeg p2 → (vp_in (σ 30 0 12) 8 ∧ (∀ s7, s7 = qx_st s5 41 0 (σ 30 0 12).toNatClampNeg p3 → (vp_in (σ 30 0 12) 8 ∧ (∀ s9, s9 = qx_st s7 42 0 (σ 30 0 12).toNatClampNeg p4 → (vp_in (σ 30 0 12) 8 ∧ (∀ s11, s11 = qx_st s9 43 0 (σ 30 0 12).toNatClampNeg p5 → (vp_in (σ 30 0 12) 8 ∧ (∀ s13, s13 = qx_st s11 44 0 (σ 30 0 12).toNatClampNeg (0 : Int32) → (vp_in (σ 30 0 12) 8 ∧ (∀ s15, s15 = qx_st s13 45 0 (σ 30 0 12).toNatClampNeg (0 : Int32) → (vp_in (σ 30 0 12) 8 ∧ (∀ s17, s17 = qx_st s15 46 0 (σ 30 0 12).toNatClampNeg (0 : Int32) → (vp_in (σ 30 0 12) 8 ∧ (∀ s19, s19 = qx_st s17 47 0 (σ 30 0 12).toNatClampNeg p6 → (vp_in (σ 30 0 12) 8 ∧ (∀ s21, s21 = qx_st s19 49 0 (σ 30 0 12).toNatClampNeg (vp_nar .boolean p7) → (vp_in (σ 30 0 12) 8 ∧ (∀ s23, s23 = qx_st s21 48 0 (σ 30 0 12).toNatClampNeg (s21 30 0 36) → (vp_in (p1 / (4 : Int32)) 8 ∧ (vp_in (p1 / (4 : Int32)) 8 ∧ (∀ s25, s25 = qx_st s23 32 0 (p1 / (4 : Int32)).toNatClampNeg ((s23 32 0 (p1 / (4 : Int32)).toNatClampNeg) + p3) → ((p4 < (100 : Int32) → (vp_in p4 8 ∧ (vp_in p4 8 ∧ (∀ s27, s27 = qx_st s25 32 0 p4.toNatClampNeg ((s25 32 0 p4.toNatClampNeg) - p3) → wX10_enter_j154 p1 p2 p3 p4 p5 p6 p7 post p1 p2 p3 p4 p5 p6 p7 (σ 30 0 12) s27)))) ∧ (¬ (p4 < (100 : Int32)) → (vp_in (p4 - (100 : Int32)) 4 ∧ (vp_in (p4 - (100 : Int32)) 4 ∧ (∀ s45, s45 = qx_st s25 31 0 (p4 - (100 : Int32)).toNatClampNeg ((s25 31 0 (p4 - (100 : Int32)).toNatClampNeg) - p3) → wX10_enter_j154 p1 p2 p3 p4 p5 p6 p7 post p1 p2 p3 p4 p5 p6 p7 (σ 30 0 12) s45)))))))))))))))))))))))))))))))
set_option maxHeartbeats 4000000 in
set_option maxRecDepth 100000 in
theorem kX10_enter (l : Launch) (G : qx_Gx) (t1 t2 : Nat) (ad : Nat → Nat → Nat) (p1 : Int32) (p2 : Int32) (p3 : Int32) (p4 : Int32) (p5 : Int32) (p6 : Int32) (p7 : Int32) (σ : qx_St) (post : qx_St → Prop) (hw : wX10_enter p1 p2 p3 p4 p5 p6 p7 σ post) : qx_Mv l G t1 t2 (qx_w0 ad) yX10_enter cX10_enter 9 none { frames := 1, cells := 0, slots := 0, locals := 22 } [.ref (ad 30 0), .int p1, .int p2, .int p3, .int p4, .int p5, .int p6, .int p7] σ post := by
  unfold wX10_enter at hw
  refine qx_start qx_mcX10_enter (Nat.le_of_ble_eq_true rfl) (fun K hKl hR X hr hlk => ?_)
  subst hKl
  have J187 : ∀ (a1 : Int32) (a2 : Int32) (a3 : Int32) (a4 : Int32) (a5 : Int32) (a6 : Int32) (a7 : Int32) (a8 : Int32) (b0 : Int32) (σ : qx_St), wX10_enter_j187 p1 p2 p3 p4 p5 p6 p7 post a1 a2 a3 a4 a5 a6 a7 a8 b0 σ → qx_V K G 9 0 0 (MQ K.2.2.2.2.2.2.2.1 (va_Qv post (qx_B G (qx_w0 ad)) G.2.2) K.2.2.2.2.2.2.1 K.2.2.2.2.1 0 0 G.2.2) (qx_w0 ad) σ 187 [(0, .ref (ad 30 0)), (1, .int a1), (2, .int a2), (3, .int a3), (4, .int a4), (5, .int a5), (6, .int a6), (7, .int a7), (8, .int a8)] [.int b0, .ref (ad 30 0)] := by
    intro a1 a2 a3 a4 a5 a6 a7 a8 b0 σ hw
    unfold wX10_enter_j187 at hw
    refine qx_puti1 (f := 30) (i := 0) (pc := 187) X qx_pRX10_163 qx_me30 dX10_enter_187 (fun s31 e32 => ?_)
    have hw := hw s31 e32
    refine qx_aload_n (pc := 190) X 0 dX10_enter_190 rfl rfl ?_
    refine qx_geti (f := 30) (i := 0) (pc := 191) X qx_gRX10_139 qx_me30 dX10_enter_191 ?_
    refine qx_bipush (v := 40) (pc := 194) X dX10_enter_194 (by decide) ?_
    refine qx_icmp_ge (tgt := 233) (pc := 196) X dX10_enter_196 (by decide) (fun c43 => ?_) (fun c43 => ?_)
    · have hw := hw.1 c43
      refine qx_aload_n (pc := 233) X 0 dX10_enter_233 rfl rfl ?_
      refine qx_dup (pc := 234) X dX10_enter_234 rfl ?_
      refine qx_geti (f := 30) (i := 0) (pc := 235) X qx_gRX10_139 qx_me30 dX10_enter_235 ?_
      refine qx_iconst (v := 1) (pc := 238) X dX10_enter_238 (by decide) ?_
      refine qx_iadd (pc := 239) X dX10_enter_239 ?_
      refine qx_puti1 (f := 30) (i := 0) (pc := 240) X qx_pRX10_139 qx_me30 dX10_enter_240 (fun s33 e34 => ?_)
      have hw := hw s33 e34
      exact qx_vret (pc := 243) X hr hlk hw dX10_enter_243
    · have hw := hw.2 c43
      refine qx_aload_n (pc := 199) X 0 dX10_enter_199 rfl rfl ?_
      refine qx_getr (f := 30) (i := 0) (a := ad 60 0) (pc := 200) X qx_gRX10_98 qx_me30 rfl dX10_enter_200 ?_
      refine qx_aload_n (pc := 203) X 0 dX10_enter_203 rfl rfl ?_
      refine qx_geti (f := 30) (i := 0) (pc := 204) X qx_gRX10_139 qx_me30 dX10_enter_204 ?_
      refine qx_iload_n (pc := 207) X 1 dX10_enter_207 rfl rfl ?_
      refine qx_iast1 (f := 60) (i := 0) (pc := 208) X rfl qx_me60 hw.1 dX10_enter_208 (fun s35 e36 => ?_)
      have hw := hw.2
      have hw := hw s35 e36
      refine qx_aload_n (pc := 209) X 0 dX10_enter_209 rfl rfl ?_
      refine qx_getr (f := 30) (i := 0) (a := ad 61 0) (pc := 210) X qx_gRX10_101 qx_me30 rfl dX10_enter_210 ?_
      refine qx_aload_n (pc := 213) X 0 dX10_enter_213 rfl rfl ?_
      refine qx_geti (f := 30) (i := 0) (pc := 214) X qx_gRX10_139 qx_me30 dX10_enter_214 ?_
      refine qx_aload_n (pc := 217) X 0 dX10_enter_217 rfl rfl ?_
      refine qx_geti (f := 30) (i := 0) (pc := 218) X qx_gRX10_156 qx_me30 dX10_enter_218 ?_
      refine qx_iast1 (f := 61) (i := 0) (pc := 221) X rfl qx_me61 hw.1 dX10_enter_221 (fun s37 e38 => ?_)
      have hw := hw.2
      have hw := hw s37 e38
      refine qx_aload_n (pc := 222) X 0 dX10_enter_222 rfl rfl ?_
      refine qx_getr (f := 30) (i := 0) (a := ad 65 0) (pc := 223) X qx_gRX10_113 qx_me30 rfl dX10_enter_223 ?_
      refine qx_aload_n (pc := 226) X 0 dX10_enter_226 rfl rfl ?_
      refine qx_geti (f := 30) (i := 0) (pc := 227) X qx_gRX10_139 qx_me30 dX10_enter_227 ?_
      refine qx_iload (pc := 230) X 7 dX10_enter_230 rfl ?_
      refine qx_zast1 (f := 65) (i := 0) (pc := 232) X rfl qx_me65 hw.1 dX10_enter_232 (fun s39 e40 => ?_)
      have hw := hw.2
      have hw := hw s39 e40
      refine qx_aload_n (pc := 233) X 0 dX10_enter_233 rfl rfl ?_
      refine qx_dup (pc := 234) X dX10_enter_234 rfl ?_
      refine qx_geti (f := 30) (i := 0) (pc := 235) X qx_gRX10_139 qx_me30 dX10_enter_235 ?_
      refine qx_iconst (v := 1) (pc := 238) X dX10_enter_238 (by decide) ?_
      refine qx_iadd (pc := 239) X dX10_enter_239 ?_
      refine qx_puti1 (f := 30) (i := 0) (pc := 240) X qx_pRX10_139 qx_me30 dX10_enter_240 (fun s41 e42 => ?_)
      have hw := hw s41 e42
      exact qx_vret (pc := 243) X hr hlk hw dX10_enter_243
  have J154 : ∀ (a1 : Int32) (a2 : Int32) (a3 : Int32) (a4 : Int32) (a5 : Int32) (a6 : Int32) (a7 : Int32) (a8 : Int32) (σ : qx_St), wX10_enter_j154 p1 p2 p3 p4 p5 p6 p7 post a1 a2 a3 a4 a5 a6 a7 a8 σ → qx_V K G 9 0 0 (MQ K.2.2.2.2.2.2.2.1 (va_Qv post (qx_B G (qx_w0 ad)) G.2.2) K.2.2.2.2.2.2.1 K.2.2.2.2.1 0 0 G.2.2) (qx_w0 ad) σ 154 [(0, .ref (ad 30 0)), (1, .int a1), (2, .int a2), (3, .int a3), (4, .int a4), (5, .int a5), (6, .int a6), (7, .int a7), (8, .int a8)] [] := by
    intro a1 a2 a3 a4 a5 a6 a7 a8 σ hw
    unfold wX10_enter_j154 at hw
    refine qx_aload_n (pc := 154) X 0 dX10_enter_154 rfl rfl ?_
    refine qx_dup (pc := 155) X dX10_enter_155 rfl ?_
    refine qx_geti (f := 30) (i := 0) (pc := 156) X qx_gRX10_156 qx_me30 dX10_enter_156 ?_
    refine qx_iconst (v := 1) (pc := 159) X dX10_enter_159 (by decide) ?_
    refine qx_iadd (pc := 160) X dX10_enter_160 ?_
    refine qx_puti1 (f := 30) (i := 0) (pc := 161) X qx_pRX10_156 qx_me30 dX10_enter_161 (fun s29 e30 => ?_)
    have hw := hw s29 e30
    refine qx_aload_n (pc := 164) X 0 dX10_enter_164 rfl rfl ?_
    refine qx_aload_n (pc := 165) X 0 dX10_enter_165 rfl rfl ?_
    refine qx_geti (f := 30) (i := 0) (pc := 166) X qx_gRX10_156 qx_me30 dX10_enter_166 ?_
    refine qx_aload_n (pc := 169) X 0 dX10_enter_169 rfl rfl ?_
    refine qx_geti (f := 30) (i := 0) (pc := 170) X qx_gRX10_163 qx_me30 dX10_enter_170 ?_
    refine qx_icmp_le (tgt := 183) (pc := 173) X dX10_enter_173 (by decide) (fun c44 => ?_) (fun c44 => ?_)
    · have hw := hw.1 c44
      refine qx_aload_n (pc := 183) X 0 dX10_enter_183 rfl rfl ?_
      refine qx_geti (f := 30) (i := 0) (pc := 184) X qx_gRX10_163 qx_me30 dX10_enter_184 ?_
      exact J187 a1 a2 a3 a4 a5 a6 a7 a8 (s29 30 0 37) s29 hw
    · have hw := hw.2 c44
      refine qx_aload_n (pc := 176) X 0 dX10_enter_176 rfl rfl ?_
      refine qx_geti (f := 30) (i := 0) (pc := 177) X qx_gRX10_156 qx_me30 dX10_enter_177 ?_
      refine qx_goto (tgt := 187) (pc := 180) X dX10_enter_180 (by decide) ?_
      exact J187 a1 a2 a3 a4 a5 a6 a7 a8 (s29 30 0 12) s29 hw
  refine (show qx_V K G 9 0 0 (MQ K.2.2.2.2.2.2.2.1 (va_Qv post (qx_B G (qx_w0 ad)) G.2.2) K.2.2.2.2.2.2.1 K.2.2.2.2.1 0 0 G.2.2) (qx_w0 ad) σ 0 [(0, .ref (ad 30 0)), (1, .int p1), (2, .int p2), (3, .int p3), (4, .int p4), (5, .int p5), (6, .int p6), (7, .int p7)] [] from ?_)
  refine qx_aload_n (pc := 0) X 0 dX10_enter_0 rfl rfl ?_
  refine qx_geti (f := 30) (i := 0) (pc := 1) X qx_gRX10_156 qx_me30 dX10_enter_1 ?_
  refine qx_istore (lv' := [(8, .int (σ 30 0 12)), (0, .ref (ad 30 0)), (1, .int p1), (2, .int p2), (3, .int p3), (4, .int p4), (5, .int p5), (6, .int p6), (7, .int p7)]) (pc := 4) X dX10_enter_4 (by decide) rfl ?_
  refine qx_aload_n (pc := 6) X 1 dX10_enter_6 rfl rfl ?_
  refine qx_iload (pc := 7) X 0 dX10_enter_7 rfl ?_
  refine qx_callVv (f := 30) (i := 0) (pc := 9) X [.int (σ 30 0 12)] [] (kX10_hold K.2.1 G t1 t2 ad (σ 30 0 12) σ _ hw) qx_mcX10_hold qx_lRX10_159 qx_iX10_hold qx_selX10_hold qx_me30 qx_rc30 rfl ⟨rfl, rfl⟩ (by rw [hR]; decide) rfl (Nat.le_of_ble_eq_true rfl) dX10_enter_9 ⟨Nat.zero_le _, Nat.zero_le _⟩ (fun s1 hw => ?_)
  refine qx_aload_n (pc := 12) X 1 dX10_enter_12 rfl rfl ?_
  refine qx_getr (f := 30) (i := 0) (a := ad 39 0) (pc := 13) X qx_gRX10_35 qx_me30 rfl dX10_enter_13 ?_
  refine qx_iload (pc := 16) X 0 dX10_enter_16 rfl ?_
  refine qx_iload_n (pc := 18) X 2 dX10_enter_18 rfl rfl ?_
  refine qx_iast1 (f := 39) (i := 0) (pc := 19) X rfl qx_me39 hw.1 dX10_enter_19 (fun s3 e4 => ?_)
  have hw := hw.2
  have hw := hw s3 e4
  refine qx_aload_n (pc := 20) X 1 dX10_enter_20 rfl rfl ?_
  refine qx_getr (f := 30) (i := 0) (a := ad 40 0) (pc := 21) X qx_gRX10_38 qx_me30 rfl dX10_enter_21 ?_
  refine qx_iload (pc := 24) X 0 dX10_enter_24 rfl ?_
  refine qx_iload_n (pc := 26) X 3 dX10_enter_26 rfl rfl ?_
  refine qx_iast1 (f := 40) (i := 0) (pc := 27) X rfl qx_me40 hw.1 dX10_enter_27 (fun s5 e6 => ?_)
  have hw := hw.2
  have hw := hw s5 e6
  refine qx_aload_n (pc := 28) X 1 dX10_enter_28 rfl rfl ?_
  refine qx_getr (f := 30) (i := 0) (a := ad 41 0) (pc := 29) X qx_gRX10_41 qx_me30 rfl dX10_enter_29 ?_
  refine qx_iload (pc := 32) X 0 dX10_enter_32 rfl ?_
  refine qx_iload_n (pc := 34) X 4 dX10_enter_34 rfl rfl ?_
  refine qx_iast1 (f := 41) (i := 0) (pc := 35) X rfl qx_me41 hw.1 dX10_enter_35 (fun s7 e8 => ?_)
  have hw := hw.2
  have hw := hw s7 e8
  refine qx_aload_n (pc := 36) X 1 dX10_enter_36 rfl rfl ?_
  refine qx_getr (f := 30) (i := 0) (a := ad 42 0) (pc := 37) X qx_gRX10_44 qx_me30 rfl dX10_enter_37 ?_
  refine qx_iload (pc := 40) X 0 dX10_enter_40 rfl ?_
  refine qx_iload (pc := 42) X 5 dX10_enter_42 rfl ?_
  refine qx_iast1 (f := 42) (i := 0) (pc := 44) X rfl qx_me42 hw.1 dX10_enter_44 (fun s9 e10 => ?_)
  have hw := hw.2
  have hw := hw s9 e10
  refine qx_aload_n (pc := 45) X 1 dX10_enter_45 rfl rfl ?_
  refine qx_getr (f := 30) (i := 0) (a := ad 43 0) (pc := 46) X qx_gRX10_47 qx_me30 rfl dX10_enter_46 ?_
  refine qx_iload (pc := 49) X 0 dX10_enter_49 rfl ?_
  refine qx_iload (pc := 51) X 6 dX10_enter_51 rfl ?_
  refine qx_iast1 (f := 43) (i := 0) (pc := 53) X rfl qx_me43 hw.1 dX10_enter_53 (fun s11 e12 => ?_)
  have hw := hw.2
  have hw := hw s11 e12
  refine qx_aload_n (pc := 54) X 1 dX10_enter_54 rfl rfl ?_
  refine qx_getr (f := 30) (i := 0) (a := ad 44 0) (pc := 55) X qx_gRX10_50 qx_me30 rfl dX10_enter_55 ?_
  refine qx_iload (pc := 58) X 0 dX10_enter_58 rfl ?_
  refine qx_iconst (v := 0) (pc := 60) X dX10_enter_60 (by decide) ?_
  refine qx_iast1 (f := 44) (i := 0) (pc := 61) X rfl qx_me44 hw.1 dX10_enter_61 (fun s13 e14 => ?_)
  have hw := hw.2
  have hw := hw s13 e14
  refine qx_aload_n (pc := 62) X 1 dX10_enter_62 rfl rfl ?_
  refine qx_getr (f := 30) (i := 0) (a := ad 45 0) (pc := 63) X qx_gRX10_53 qx_me30 rfl dX10_enter_63 ?_
  refine qx_iload (pc := 66) X 0 dX10_enter_66 rfl ?_
  refine qx_iconst (v := 0) (pc := 68) X dX10_enter_68 (by decide) ?_
  refine qx_iast1 (f := 45) (i := 0) (pc := 69) X rfl qx_me45 hw.1 dX10_enter_69 (fun s15 e16 => ?_)
  have hw := hw.2
  have hw := hw s15 e16
  refine qx_aload_n (pc := 70) X 1 dX10_enter_70 rfl rfl ?_
  refine qx_getr (f := 30) (i := 0) (a := ad 46 0) (pc := 71) X qx_gRX10_56 qx_me30 rfl dX10_enter_71 ?_
  refine qx_iload (pc := 74) X 0 dX10_enter_74 rfl ?_
  refine qx_iconst (v := 0) (pc := 76) X dX10_enter_76 (by decide) ?_
  refine qx_iast1 (f := 46) (i := 0) (pc := 77) X rfl qx_me46 hw.1 dX10_enter_77 (fun s17 e18 => ?_)
  have hw := hw.2
  have hw := hw s17 e18
  refine qx_aload_n (pc := 78) X 1 dX10_enter_78 rfl rfl ?_
  refine qx_getr (f := 30) (i := 0) (a := ad 47 0) (pc := 79) X qx_gRX10_59 qx_me30 rfl dX10_enter_79 ?_
  refine qx_iload (pc := 82) X 0 dX10_enter_82 rfl ?_
  refine qx_iload (pc := 84) X 7 dX10_enter_84 rfl ?_
  refine qx_iast1 (f := 47) (i := 0) (pc := 86) X rfl qx_me47 hw.1 dX10_enter_86 (fun s19 e20 => ?_)
  have hw := hw.2
  have hw := hw s19 e20
  refine qx_aload_n (pc := 87) X 1 dX10_enter_87 rfl rfl ?_
  refine qx_getr (f := 30) (i := 0) (a := ad 49 0) (pc := 88) X qx_gRX10_65 qx_me30 rfl dX10_enter_88 ?_
  refine qx_iload (pc := 91) X 0 dX10_enter_91 rfl ?_
  refine qx_iload (pc := 93) X 8 dX10_enter_93 rfl ?_
  refine qx_zast1 (f := 49) (i := 0) (pc := 95) X rfl qx_me49 hw.1 dX10_enter_95 (fun s21 e22 => ?_)
  have hw := hw.2
  have hw := hw s21 e22
  refine qx_aload_n (pc := 96) X 1 dX10_enter_96 rfl rfl ?_
  refine qx_getr (f := 30) (i := 0) (a := ad 48 0) (pc := 97) X qx_gRX10_62 qx_me30 rfl dX10_enter_97 ?_
  refine qx_iload (pc := 100) X 0 dX10_enter_100 rfl ?_
  refine qx_aload_n (pc := 102) X 1 dX10_enter_102 rfl rfl ?_
  refine qx_geti (f := 30) (i := 0) (pc := 103) X qx_gRX10_139 qx_me30 dX10_enter_103 ?_
  refine qx_iast1 (f := 48) (i := 0) (pc := 106) X rfl qx_me48 hw.1 dX10_enter_106 (fun s23 e24 => ?_)
  have hw := hw.2
  have hw := hw s23 e24
  refine qx_aload_n (pc := 107) X 1 dX10_enter_107 rfl rfl ?_
  refine qx_getr (f := 30) (i := 0) (a := ad 32 0) (pc := 108) X qx_gRX10_13 qx_me30 rfl dX10_enter_108 ?_
  refine qx_iload_n (pc := 111) X 2 dX10_enter_111 rfl rfl ?_
  refine qx_iconst (v := 4) (pc := 112) X dX10_enter_112 (by decide) ?_
  refine qx_idiv (pc := 113) X dX10_enter_113 (by decide) ?_
  refine qx_dup2 (pc := 114) X dX10_enter_114 rfl rfl ?_
  refine qx_iald (f := 32) (i := 0) (pc := 115) X rfl qx_me32 hw.1 dX10_enter_115 ?_
  have hw := hw.2
  refine qx_iload_n (pc := 116) X 4 dX10_enter_116 rfl rfl ?_
  refine qx_iadd (pc := 117) X dX10_enter_117 ?_
  refine qx_iast1 (f := 32) (i := 0) (pc := 118) X rfl qx_me32 hw.1 dX10_enter_118 (fun s25 e26 => ?_)
  have hw := hw.2
  have hw := hw s25 e26
  refine qx_iload (pc := 119) X 5 dX10_enter_119 rfl ?_
  refine qx_bipush (v := 100) (pc := 121) X dX10_enter_121 (by decide) ?_
  refine qx_icmp_lt (tgt := 143) (pc := 123) X dX10_enter_123 (by decide) (fun c47 => ?_) (fun c47 => ?_)
  · have hw := hw.1 c47
    refine qx_aload_n (pc := 143) X 1 dX10_enter_143 rfl rfl ?_
    refine qx_getr (f := 30) (i := 0) (a := ad 32 0) (pc := 144) X qx_gRX10_13 qx_me30 rfl dX10_enter_144 ?_
    refine qx_iload (pc := 147) X 5 dX10_enter_147 rfl ?_
    refine qx_dup2 (pc := 149) X dX10_enter_149 rfl rfl ?_
    refine qx_iald (f := 32) (i := 0) (pc := 150) X rfl qx_me32 hw.1 dX10_enter_150 ?_
    have hw := hw.2
    refine qx_iload_n (pc := 151) X 4 dX10_enter_151 rfl rfl ?_
    refine qx_isub (pc := 152) X dX10_enter_152 ?_
    refine qx_iast1 (f := 32) (i := 0) (pc := 153) X rfl qx_me32 hw.1 dX10_enter_153 (fun s27 e28 => ?_)
    have hw := hw.2
    have hw := hw s27 e28
    refine qx_lsub [1, 2, 3, 4, 5, 6, 7, 8, 0] rfl ?_
    exact J154 p1 p2 p3 p4 p5 p6 p7 (σ 30 0 12) s27 hw
  · have hw := hw.2 c47
    refine qx_aload_n (pc := 126) X 1 dX10_enter_126 rfl rfl ?_
    refine qx_getr (f := 30) (i := 0) (a := ad 31 0) (pc := 127) X qx_gRX10_7 qx_me30 rfl dX10_enter_127 ?_
    refine qx_iload (pc := 130) X 5 dX10_enter_130 rfl ?_
    refine qx_bipush (v := 100) (pc := 132) X dX10_enter_132 (by decide) ?_
    refine qx_isub (pc := 134) X dX10_enter_134 ?_
    refine qx_dup2 (pc := 135) X dX10_enter_135 rfl rfl ?_
    refine qx_iald (f := 31) (i := 0) (pc := 136) X rfl qx_me31 hw.1 dX10_enter_136 ?_
    have hw := hw.2
    refine qx_iload_n (pc := 137) X 4 dX10_enter_137 rfl rfl ?_
    refine qx_isub (pc := 138) X dX10_enter_138 ?_
    refine qx_iast1 (f := 31) (i := 0) (pc := 139) X rfl qx_me31 hw.1 dX10_enter_139 (fun s45 e46 => ?_)
    have hw := hw.2
    have hw := hw s45 e46
    refine qx_goto (tgt := 154) (pc := 140) X dX10_enter_140 (by decide) ?_
    refine qx_lsub [1, 2, 3, 4, 5, 6, 7, 8, 0] rfl ?_
    exact J154 p1 p2 p3 p4 p5 p6 p7 (σ 30 0 12) s45 hw
def wX10_push (p1 : Int32) (p2 : Int32) (σ : qx_St) (post : qx_St → Prop) : Prop := (vp_in p1 8 ∧ (vp_in (((8 : Int32) * p1) + (σ 46 0 p1.toNatClampNeg)) 64 ∧ (∀ s1, s1 = qx_st σ 50 0 (((8 : Int32) * p1) + (σ 46 0 p1.toNatClampNeg)).toNatClampNeg p2 → (vp_in p1 8 ∧ (vp_in p1 8 ∧ (∀ s3, s3 = qx_st s1 46 0 p1.toNatClampNeg ((s1 46 0 p1.toNatClampNeg) + (1 : Int32)) → post s3))))))
set_option maxHeartbeats 4000000 in
set_option maxRecDepth 100000 in
theorem kX10_push (l : Launch) (G : qx_Gx) (t1 t2 : Nat) (ad : Nat → Nat → Nat) (p1 : Int32) (p2 : Int32) (σ : qx_St) (post : qx_St → Prop) (hw : wX10_push p1 p2 σ post) : qx_Mv l G t1 t2 (qx_w0 ad) yX10_push cX10_push 3 none { frames := 0, cells := 0, slots := 0, locals := 0 } [.ref (ad 30 0), .int p1, .int p2] σ post := by
  unfold wX10_push at hw
  refine qx_start qx_mcX10_push (Nat.le_of_ble_eq_true rfl) (fun K hKl hR X hr hlk => ?_)
  subst hKl
  refine (show qx_V K G 3 0 0 (MQ K.2.2.2.2.2.2.2.1 (va_Qv post (qx_B G (qx_w0 ad)) G.2.2) K.2.2.2.2.2.2.1 K.2.2.2.2.1 0 0 G.2.2) (qx_w0 ad) σ 0 [(0, .ref (ad 30 0)), (1, .int p1), (2, .int p2)] [] from ?_)
  refine qx_aload_n (pc := 0) X 0 dX10_push_0 rfl rfl ?_
  refine qx_getr (f := 30) (i := 0) (a := ad 50 0) (pc := 1) X qx_gRX10_68 qx_me30 rfl dX10_push_1 ?_
  refine qx_bipush (v := 8) (pc := 4) X dX10_push_4 (by decide) ?_
  refine qx_iload_n (pc := 6) X 1 dX10_push_6 rfl rfl ?_
  refine qx_imul (pc := 7) X dX10_push_7 ?_
  refine qx_aload_n (pc := 8) X 0 dX10_push_8 rfl rfl ?_
  refine qx_getr (f := 30) (i := 0) (a := ad 46 0) (pc := 9) X qx_gRX10_56 qx_me30 rfl dX10_push_9 ?_
  refine qx_iload_n (pc := 12) X 1 dX10_push_12 rfl rfl ?_
  refine qx_iald (f := 46) (i := 0) (pc := 13) X rfl qx_me46 hw.1 dX10_push_13 ?_
  have hw := hw.2
  refine qx_iadd (pc := 14) X dX10_push_14 ?_
  refine qx_iload_n (pc := 15) X 2 dX10_push_15 rfl rfl ?_
  refine qx_iast1 (f := 50) (i := 0) (pc := 16) X rfl qx_me50 hw.1 dX10_push_16 (fun s1 e2 => ?_)
  have hw := hw.2
  have hw := hw s1 e2
  refine qx_aload_n (pc := 17) X 0 dX10_push_17 rfl rfl ?_
  refine qx_getr (f := 30) (i := 0) (a := ad 46 0) (pc := 18) X qx_gRX10_56 qx_me30 rfl dX10_push_18 ?_
  refine qx_iload_n (pc := 21) X 1 dX10_push_21 rfl rfl ?_
  refine qx_dup2 (pc := 22) X dX10_push_22 rfl rfl ?_
  refine qx_iald (f := 46) (i := 0) (pc := 23) X rfl qx_me46 hw.1 dX10_push_23 ?_
  have hw := hw.2
  refine qx_iconst (v := 1) (pc := 24) X dX10_push_24 (by decide) ?_
  refine qx_iadd (pc := 25) X dX10_push_25 ?_
  refine qx_iast1 (f := 46) (i := 0) (pc := 26) X rfl qx_me46 hw.1 dX10_push_26 (fun s3 e4 => ?_)
  have hw := hw.2
  have hw := hw s3 e4
  exact qx_vret (pc := 27) X hr hlk hw dX10_push_27
def wX10_pop (p1 : Int32) (σ : qx_St) (post : Int32 → qx_St → Prop) : Prop := (vp_in p1 8 ∧ (vp_in p1 8 ∧ (∀ s1, s1 = qx_st σ 46 0 p1.toNatClampNeg ((σ 46 0 p1.toNatClampNeg) - (1 : Int32)) → (vp_in p1 8 ∧ (vp_in (((8 : Int32) * p1) + (s1 46 0 p1.toNatClampNeg)) 64 ∧ post (s1 50 0 (((8 : Int32) * p1) + (s1 46 0 p1.toNatClampNeg)).toNatClampNeg) s1)))))
set_option maxHeartbeats 4000000 in
set_option maxRecDepth 100000 in
theorem kX10_pop (l : Launch) (G : qx_Gx) (t1 t2 : Nat) (ad : Nat → Nat → Nat) (p1 : Int32) (σ : qx_St) (post : Int32 → qx_St → Prop) (hw : wX10_pop p1 σ post) : qx_Mi l G t1 t2 (qx_w0 ad) yX10_pop cX10_pop 2 (some .int) { frames := 0, cells := 0, slots := 0, locals := 0 } [.ref (ad 30 0), .int p1] σ post := by
  unfold wX10_pop at hw
  refine qx_start qx_mcX10_pop (Nat.le_of_ble_eq_true rfl) (fun K hKl hR X hr hlk => ?_)
  subst hKl
  refine (show qx_V K G 2 0 0 (MQ K.2.2.2.2.2.2.2.1 (va_Qi post (qx_B G (qx_w0 ad)) G.2.2) K.2.2.2.2.2.2.1 K.2.2.2.2.1 0 0 G.2.2) (qx_w0 ad) σ 0 [(0, .ref (ad 30 0)), (1, .int p1)] [] from ?_)
  refine qx_aload_n (pc := 0) X 0 dX10_pop_0 rfl rfl ?_
  refine qx_getr (f := 30) (i := 0) (a := ad 46 0) (pc := 1) X qx_gRX10_56 qx_me30 rfl dX10_pop_1 ?_
  refine qx_iload_n (pc := 4) X 1 dX10_pop_4 rfl rfl ?_
  refine qx_dup2 (pc := 5) X dX10_pop_5 rfl rfl ?_
  refine qx_iald (f := 46) (i := 0) (pc := 6) X rfl qx_me46 hw.1 dX10_pop_6 ?_
  have hw := hw.2
  refine qx_iconst (v := 1) (pc := 7) X dX10_pop_7 (by decide) ?_
  refine qx_isub (pc := 8) X dX10_pop_8 ?_
  refine qx_iast1 (f := 46) (i := 0) (pc := 9) X rfl qx_me46 hw.1 dX10_pop_9 (fun s1 e2 => ?_)
  have hw := hw.2
  have hw := hw s1 e2
  refine qx_aload_n (pc := 10) X 0 dX10_pop_10 rfl rfl ?_
  refine qx_getr (f := 30) (i := 0) (a := ad 50 0) (pc := 11) X qx_gRX10_68 qx_me30 rfl dX10_pop_11 ?_
  refine qx_bipush (v := 8) (pc := 14) X dX10_pop_14 (by decide) ?_
  refine qx_iload_n (pc := 16) X 1 dX10_pop_16 rfl rfl ?_
  refine qx_imul (pc := 17) X dX10_pop_17 ?_
  refine qx_aload_n (pc := 18) X 0 dX10_pop_18 rfl rfl ?_
  refine qx_getr (f := 30) (i := 0) (a := ad 46 0) (pc := 19) X qx_gRX10_56 qx_me30 rfl dX10_pop_19 ?_
  refine qx_iload_n (pc := 22) X 1 dX10_pop_22 rfl rfl ?_
  refine qx_iald (f := 46) (i := 0) (pc := 23) X rfl qx_me46 hw.1 dX10_pop_23 ?_
  have hw := hw.2
  refine qx_iadd (pc := 24) X dX10_pop_24 ?_
  refine qx_iald (f := 50) (i := 0) (pc := 25) X rfl qx_me50 hw.1 dX10_pop_25 ?_
  have hw := hw.2
  exact qx_iret (pc := 26) X hr hlk hw dX10_pop_26
def wX10_takes (p0 : Int32) (σ : qx_St) (post : Int32 → qx_St → Prop) : Prop := ((p0 = (7 : Int32) → post (1 : Int32) σ) ∧ (p0 = (8 : Int32) → post (2 : Int32) σ) ∧ (p0 = (9 : Int32) → post (2 : Int32) σ) ∧ (p0 = (10 : Int32) → post (2 : Int32) σ) ∧ (p0 = (11 : Int32) → post (2 : Int32) σ) ∧ (p0 = (12 : Int32) → post (2 : Int32) σ) ∧ (p0 = (13 : Int32) → post (2 : Int32) σ) ∧ (p0 = (14 : Int32) → post (1 : Int32) σ) ∧ (p0 = (15 : Int32) → post (1 : Int32) σ) ∧ (p0 = (16 : Int32) → post (1 : Int32) σ) ∧ (p0 = (17 : Int32) → post (1 : Int32) σ) ∧ (p0 = (18 : Int32) → post (2 : Int32) σ) ∧ (p0 = (19 : Int32) → post (3 : Int32) σ) ∧ (p0 = (20 : Int32) → post (3 : Int32) σ) ∧ (p0 = (21 : Int32) → post (2 : Int32) σ) ∧ (p0 = (22 : Int32) → post (1 : Int32) σ) ∧ (p0 = (23 : Int32) → post (1 : Int32) σ) ∧ (p0 = (24 : Int32) → post (1 : Int32) σ) ∧ ((∀ i : Nat, i < 18 → ¬ p0 = Int32.ofInt (7 + i)) → post (0 : Int32) σ))
set_option maxHeartbeats 4000000 in
set_option maxRecDepth 100000 in
theorem kX10_takes (l : Launch) (G : qx_Gx) (t1 t2 : Nat) (ad : Nat → Nat → Nat) (p0 : Int32) (σ : qx_St) (post : Int32 → qx_St → Prop) (hw : wX10_takes p0 σ post) : qx_Mi l G t1 t2 (qx_w0 ad) yX10_takes cX10_takes 1 (some .int) { frames := 0, cells := 0, slots := 0, locals := 0 } [.int p0] σ post := by
  unfold wX10_takes at hw
  refine qx_start qx_mcX10_takes (Nat.le_of_ble_eq_true rfl) (fun K hKl hR X hr hlk => ?_)
  subst hKl
  refine (show qx_V K G 1 0 0 (MQ K.2.2.2.2.2.2.2.1 (va_Qi post (qx_B G (qx_w0 ad)) G.2.2) K.2.2.2.2.2.2.1 K.2.2.2.2.1 0 0 G.2.2) (qx_w0 ad) σ 0 [(0, .int p0)] [] from ?_)
  refine qx_iload_n (pc := 0) X 0 dX10_takes_0 rfl rfl ?_
  refine qx_switch (pc := 1) X (tgt := 94) (fun i => ([88, 90, 90, 90, 90, 90, 90, 88, 88, 88, 88, 90, 92, 92, 90, 88, 88, 88] : List Nat).getD i 0) dX10_takes_1 (by decide) (by decide) (by decide) (by decide) ?_ ?_
  · intro i hi s1
    have hi2 : i < 18 := hi
    rcases (show i = 0 ∨ i = 1 ∨ i = 2 ∨ i = 3 ∨ i = 4 ∨ i = 5 ∨ i = 6 ∨ i = 7 ∨ i = 8 ∨ i = 9 ∨ i = 10 ∨ i = 11 ∨ i = 12 ∨ i = 13 ∨ i = 14 ∨ i = 15 ∨ i = 16 ∨ i = 17 by omega) with rfl | rfl | rfl | rfl | rfl | rfl | rfl | rfl | rfl | rfl | rfl | rfl | rfl | rfl | rfl | rfl | rfl | rfl
    · have hw := hw.1 (s1.trans (by decide))
      refine qx_iconst (v := 1) (pc := 88) X dX10_takes_88 (by decide) ?_
      exact qx_iret (pc := 89) X hr hlk hw dX10_takes_89
    · have hw := hw.2.1 (s1.trans (by decide))
      refine qx_iconst (v := 2) (pc := 90) X dX10_takes_90 (by decide) ?_
      exact qx_iret (pc := 91) X hr hlk hw dX10_takes_91
    · have hw := hw.2.2.1 (s1.trans (by decide))
      refine qx_iconst (v := 2) (pc := 90) X dX10_takes_90 (by decide) ?_
      exact qx_iret (pc := 91) X hr hlk hw dX10_takes_91
    · have hw := hw.2.2.2.1 (s1.trans (by decide))
      refine qx_iconst (v := 2) (pc := 90) X dX10_takes_90 (by decide) ?_
      exact qx_iret (pc := 91) X hr hlk hw dX10_takes_91
    · have hw := hw.2.2.2.2.1 (s1.trans (by decide))
      refine qx_iconst (v := 2) (pc := 90) X dX10_takes_90 (by decide) ?_
      exact qx_iret (pc := 91) X hr hlk hw dX10_takes_91
    · have hw := hw.2.2.2.2.2.1 (s1.trans (by decide))
      refine qx_iconst (v := 2) (pc := 90) X dX10_takes_90 (by decide) ?_
      exact qx_iret (pc := 91) X hr hlk hw dX10_takes_91
    · have hw := hw.2.2.2.2.2.2.1 (s1.trans (by decide))
      refine qx_iconst (v := 2) (pc := 90) X dX10_takes_90 (by decide) ?_
      exact qx_iret (pc := 91) X hr hlk hw dX10_takes_91
    · have hw := hw.2.2.2.2.2.2.2.1 (s1.trans (by decide))
      refine qx_iconst (v := 1) (pc := 88) X dX10_takes_88 (by decide) ?_
      exact qx_iret (pc := 89) X hr hlk hw dX10_takes_89
    · have hw := hw.2.2.2.2.2.2.2.2.1 (s1.trans (by decide))
      refine qx_iconst (v := 1) (pc := 88) X dX10_takes_88 (by decide) ?_
      exact qx_iret (pc := 89) X hr hlk hw dX10_takes_89
    · have hw := hw.2.2.2.2.2.2.2.2.2.1 (s1.trans (by decide))
      refine qx_iconst (v := 1) (pc := 88) X dX10_takes_88 (by decide) ?_
      exact qx_iret (pc := 89) X hr hlk hw dX10_takes_89
    · have hw := hw.2.2.2.2.2.2.2.2.2.2.1 (s1.trans (by decide))
      refine qx_iconst (v := 1) (pc := 88) X dX10_takes_88 (by decide) ?_
      exact qx_iret (pc := 89) X hr hlk hw dX10_takes_89
    · have hw := hw.2.2.2.2.2.2.2.2.2.2.2.1 (s1.trans (by decide))
      refine qx_iconst (v := 2) (pc := 90) X dX10_takes_90 (by decide) ?_
      exact qx_iret (pc := 91) X hr hlk hw dX10_takes_91
    · have hw := hw.2.2.2.2.2.2.2.2.2.2.2.2.1 (s1.trans (by decide))
      refine qx_iconst (v := 3) (pc := 92) X dX10_takes_92 (by decide) ?_
      exact qx_iret (pc := 93) X hr hlk hw dX10_takes_93
    · have hw := hw.2.2.2.2.2.2.2.2.2.2.2.2.2.1 (s1.trans (by decide))
      refine qx_iconst (v := 3) (pc := 92) X dX10_takes_92 (by decide) ?_
      exact qx_iret (pc := 93) X hr hlk hw dX10_takes_93
    · have hw := hw.2.2.2.2.2.2.2.2.2.2.2.2.2.2.1 (s1.trans (by decide))
      refine qx_iconst (v := 2) (pc := 90) X dX10_takes_90 (by decide) ?_
      exact qx_iret (pc := 91) X hr hlk hw dX10_takes_91
    · have hw := hw.2.2.2.2.2.2.2.2.2.2.2.2.2.2.2.1 (s1.trans (by decide))
      refine qx_iconst (v := 1) (pc := 88) X dX10_takes_88 (by decide) ?_
      exact qx_iret (pc := 89) X hr hlk hw dX10_takes_89
    · have hw := hw.2.2.2.2.2.2.2.2.2.2.2.2.2.2.2.2.1 (s1.trans (by decide))
      refine qx_iconst (v := 1) (pc := 88) X dX10_takes_88 (by decide) ?_
      exact qx_iret (pc := 89) X hr hlk hw dX10_takes_89
    · have hw := hw.2.2.2.2.2.2.2.2.2.2.2.2.2.2.2.2.2.1 (s1.trans (by decide))
      refine qx_iconst (v := 1) (pc := 88) X dX10_takes_88 (by decide) ?_
      exact qx_iret (pc := 89) X hr hlk hw dX10_takes_89
  · intro s1
    have hw := hw.2.2.2.2.2.2.2.2.2.2.2.2.2.2.2.2.2.2 s1
    refine qx_iconst (v := 0) (pc := 94) X dX10_takes_94 (by decide) ?_
    exact qx_iret (pc := 95) X hr hlk hw dX10_takes_95
def wX10_leaves (p0 : Int32) (σ : qx_St) (post : Int32 → qx_St → Prop) : Prop := (((7 : Int32) ≤ p0 → ((p0 = (16 : Int32) → post (2 : Int32) σ) ∧ (¬ (p0 = (16 : Int32)) → ((p0 = (18 : Int32) → post (2 : Int32) σ) ∧ (¬ (p0 = (18 : Int32)) → ((p0 = (20 : Int32) → post (2 : Int32) σ) ∧ (¬ (p0 = (20 : Int32)) → wX10_in p0 (8 : Int32) (13 : Int32) σ (fun r2 s1 => ((r2 = 0 → ((p0 = (19 : Int32) → post (1 : Int32) s1) ∧ (¬ (p0 = (19 : Int32)) → ((p0 = (21 : Int32) → post (1 : Int32) s1) ∧ (¬ (p0 = (21 : Int32)) → post (0 : Int32) s1))))) ∧ (¬ (r2 = 0) → post (1 : Int32) s1)))))))))) ∧ (¬ ((7 : Int32) ≤ p0) → post (1 : Int32) σ))
set_option maxHeartbeats 4000000 in
set_option maxRecDepth 100000 in
theorem kX10_leaves (l : Launch) (G : qx_Gx) (t1 t2 : Nat) (ad : Nat → Nat → Nat) (p0 : Int32) (σ : qx_St) (post : Int32 → qx_St → Prop) (hw : wX10_leaves p0 σ post) : qx_Mi l G t1 t2 (qx_w0 ad) yX10_leaves cX10_leaves 1 (some .int) { frames := 1, cells := 0, slots := 0, locals := 22 } [.int p0] σ post := by
  unfold wX10_leaves at hw
  refine qx_start qx_mcX10_leaves (Nat.le_of_ble_eq_true rfl) (fun K hKl hR X hr hlk => ?_)
  subst hKl
  refine (show qx_V K G 1 0 0 (MQ K.2.2.2.2.2.2.2.1 (va_Qi post (qx_B G (qx_w0 ad)) G.2.2) K.2.2.2.2.2.2.1 K.2.2.2.2.1 0 0 G.2.2) (qx_w0 ad) σ 0 [(0, .int p0)] [] from ?_)
  refine qx_iload_n (pc := 0) X 0 dX10_leaves_0 rfl rfl ?_
  refine qx_bipush (v := 7) (pc := 1) X dX10_leaves_1 (by decide) ?_
  refine qx_icmp_ge (tgt := 8) (pc := 3) X dX10_leaves_3 (by decide) (fun c9 => ?_) (fun c9 => ?_)
  · have hw := hw.1 c9
    refine qx_iload_n (pc := 8) X 0 dX10_leaves_8 rfl rfl ?_
    refine qx_bipush (v := 16) (pc := 9) X dX10_leaves_9 (by decide) ?_
    refine qx_icmp_eq (tgt := 26) (pc := 11) X dX10_leaves_11 (by decide) (fun c8 => ?_) (fun c8 => ?_)
    · have hw := hw.1 c8
      refine qx_iconst (v := 2) (pc := 26) X dX10_leaves_26 (by decide) ?_
      refine qx_goto (tgt := 58) (pc := 27) X dX10_leaves_27 (by decide) ?_
      exact qx_iret (pc := 58) X hr hlk hw dX10_leaves_58
    · have hw := hw.2 c8
      refine qx_iload_n (pc := 14) X 0 dX10_leaves_14 rfl rfl ?_
      refine qx_bipush (v := 18) (pc := 15) X dX10_leaves_15 (by decide) ?_
      refine qx_icmp_eq (tgt := 26) (pc := 17) X dX10_leaves_17 (by decide) (fun c7 => ?_) (fun c7 => ?_)
      · have hw := hw.1 c7
        refine qx_iconst (v := 2) (pc := 26) X dX10_leaves_26 (by decide) ?_
        refine qx_goto (tgt := 58) (pc := 27) X dX10_leaves_27 (by decide) ?_
        exact qx_iret (pc := 58) X hr hlk hw dX10_leaves_58
      · have hw := hw.2 c7
        refine qx_iload_n (pc := 20) X 0 dX10_leaves_20 rfl rfl ?_
        refine qx_bipush (v := 20) (pc := 21) X dX10_leaves_21 (by decide) ?_
        refine qx_icmp_ne (tgt := 30) (pc := 23) X dX10_leaves_23 (by decide) (fun c6 => ?_) (fun c6 => ?_)
        · have hw := hw.2 c6
          refine qx_iload_n (pc := 30) X 0 dX10_leaves_30 rfl rfl ?_
          refine qx_bipush (v := 8) (pc := 31) X dX10_leaves_31 (by decide) ?_
          refine qx_bipush (v := 13) (pc := 33) X dX10_leaves_33 (by decide) ?_
          refine qx_callSi (pc := 35) X [.int p0, .int (8 : Int32), .int (13 : Int32)] [] (kX10_in K.2.1 G t1 t2 ad p0 (8 : Int32) (13 : Int32) σ _ hw) qx_mcX10_in qx_lRX10_142 qx_sX10_in rfl ⟨rfl, rfl⟩ (by rw [hR]; decide) rfl (Nat.le_of_ble_eq_true rfl) dX10_leaves_35 ⟨Nat.zero_le _, Nat.zero_le _⟩ (fun r2 s1 hw => ?_)
          refine qx_if_ne (tgt := 53) (pc := 38) X dX10_leaves_38 (by decide) (fun c5 => ?_) (fun c5 => ?_)
          · have hw := hw.2 c5
            refine qx_iconst (v := 1) (pc := 53) X dX10_leaves_53 (by decide) ?_
            refine qx_goto (tgt := 58) (pc := 54) X dX10_leaves_54 (by decide) ?_
            exact qx_iret (pc := 58) X hr hlk hw dX10_leaves_58
          · have hw := hw.1 c5
            refine qx_iload_n (pc := 41) X 0 dX10_leaves_41 rfl rfl ?_
            refine qx_bipush (v := 19) (pc := 42) X dX10_leaves_42 (by decide) ?_
            refine qx_icmp_eq (tgt := 53) (pc := 44) X dX10_leaves_44 (by decide) (fun c4 => ?_) (fun c4 => ?_)
            · have hw := hw.1 c4
              refine qx_iconst (v := 1) (pc := 53) X dX10_leaves_53 (by decide) ?_
              refine qx_goto (tgt := 58) (pc := 54) X dX10_leaves_54 (by decide) ?_
              exact qx_iret (pc := 58) X hr hlk hw dX10_leaves_58
            · have hw := hw.2 c4
              refine qx_iload_n (pc := 47) X 0 dX10_leaves_47 rfl rfl ?_
              refine qx_bipush (v := 21) (pc := 48) X dX10_leaves_48 (by decide) ?_
              refine qx_icmp_ne (tgt := 57) (pc := 50) X dX10_leaves_50 (by decide) (fun c3 => ?_) (fun c3 => ?_)
              · have hw := hw.2 c3
                refine qx_iconst (v := 0) (pc := 57) X dX10_leaves_57 (by decide) ?_
                exact qx_iret (pc := 58) X hr hlk hw dX10_leaves_58
              · have hw := hw.1 c3
                refine qx_iconst (v := 1) (pc := 53) X dX10_leaves_53 (by decide) ?_
                refine qx_goto (tgt := 58) (pc := 54) X dX10_leaves_54 (by decide) ?_
                exact qx_iret (pc := 58) X hr hlk hw dX10_leaves_58
        · have hw := hw.1 c6
          refine qx_iconst (v := 2) (pc := 26) X dX10_leaves_26 (by decide) ?_
          refine qx_goto (tgt := 58) (pc := 27) X dX10_leaves_27 (by decide) ?_
          exact qx_iret (pc := 58) X hr hlk hw dX10_leaves_58
  · have hw := hw.2 c9
    refine qx_iconst (v := 1) (pc := 6) X dX10_leaves_6 (by decide) ?_
    exact qx_iret (pc := 7) X hr hlk hw dX10_leaves_7
def wX10_ends_j210 (p1 : Int32) (p2 : Int32) (post : qx_St → Prop) (rec : Int32 → Int32 → Int32 → Int32 → Int32 → qx_St → Prop) (a1 : Int32) (a2 : Int32) (a3 : Int32) (a4 : Int32) (a5 : Int32) (a6 : Int32) (a7 : Int32) (b0 : Int32) (b1 : Int32) (σ : qx_St) : Prop := wX10_push b1 b0 σ (fun s7 => (vp_in a6 8 ∧ (((s7 47 0 a6.toNatClampNeg) = (20 : Int32) → ((a3 = 0 → wX10_push (a6 - (1 : Int32)) (1 : Int32) s7 (fun s11 => rec a1 a2 a3 a4 a5 s11)) ∧ (¬ (a3 = 0) → wX10_push (a6 - (1 : Int32)) (0 : Int32) s7 (fun s9 => rec a1 a2 a3 a4 a5 s9)))) ∧ (¬ ((s7 47 0 a6.toNatClampNeg) = (20 : Int32)) → rec a1 a2 a3 a4 a5 s7))))
def wX10_ends_j188 (p1 : Int32) (p2 : Int32) (post : qx_St → Prop) (rec : Int32 → Int32 → Int32 → Int32 → Int32 → qx_St → Prop) (a1 : Int32) (a2 : Int32) (a3 : Int32) (a4 : Int32) (a5 : Int32) (a6 : Int32) (a7 : Int32) (b0 : Int32) (σ : qx_St) : Prop := ((b0 = 0 → ((a3 = 0 → wX10_ends_j210 p1 p2 post rec a1 a2 a3 a4 b0 a6 a7 a4 (a6 - (1 : Int32)) σ) ∧ (¬ (a3 = 0) → wX10_ends_j210 p1 p2 post rec a1 a2 a3 a4 b0 a6 a7 a3 (a6 - (1 : Int32)) σ))) ∧ (¬ (b0 = 0) → rec a1 a2 a3 a4 b0 σ))
def wX10_ends_j187 (p1 : Int32) (p2 : Int32) (post : qx_St → Prop) (rec : Int32 → Int32 → Int32 → Int32 → Int32 → qx_St → Prop) (a1 : Int32) (a2 : Int32) (a3 : Int32) (a4 : Int32) (a5 : Int32) (a6 : Int32) (a7 : Int32) (σ : qx_St) : Prop := wX10_ends_j188 p1 p2 post rec a1 a2 a3 a4 a5 a6 a7 (0 : Int32) σ
def wX10_ends_j94 (p1 : Int32) (p2 : Int32) (post : qx_St → Prop) (rec : Int32 → Int32 → Int32 → Int32 → Int32 → qx_St → Prop) (a1 : Int32) (a2 : Int32) (a3 : Int32) (a4 : Int32) (a5 : Int32) (a6 : Int32) (a7 : Int32) (σ : qx_St) : Prop := ((a6 = 0 → (∀ s19, s19 = qx_st σ 30 0 46 (σ 44 0 (0 : Int32).toNatClampNeg) → (∀ s21, s21 = qx_st s19 30 0 48 a3 → ((a3 = 0 → (∀ s25, s25 = qx_st s21 30 0 45 a4 → post s25)) ∧ (¬ (a3 = 0) → (∀ s23, s23 = qx_st s21 30 0 45 a3 → post s23)))))) ∧ (¬ (a6 = 0) → (vp_in (a6 - (1 : Int32)) 8 ∧ (vp_in a6 8 ∧ (vp_in (a6 - (1 : Int32)) 8 ∧ (∀ s3, s3 = qx_st σ 44 0 (a6 - (1 : Int32)).toNatClampNeg ((σ 44 0 (a6 - (1 : Int32)).toNatClampNeg) + (σ 44 0 a6.toNatClampNeg)) → (vp_in (a6 - (1 : Int32)) 8 ∧ (vp_in a6 8 ∧ (vp_in (a6 - (1 : Int32)) 8 ∧ (∀ s5, s5 = qx_st s3 43 0 (a6 - (1 : Int32)).toNatClampNeg ((s3 43 0 (a6 - (1 : Int32)).toNatClampNeg) - (s3 44 0 a6.toNatClampNeg)) → ((a3 = 0 → wX10_ends_j187 p1 p2 post rec a1 a2 a3 a4 a5 a6 a7 s5) ∧ (¬ (a3 = 0) → (vp_in a6 8 ∧ (((s5 47 0 a6.toNatClampNeg) = (20 : Int32) → wX10_ends_j187 p1 p2 post rec a1 a2 a3 a4 a5 a6 a7 s5) ∧ (¬ ((s5 47 0 a6.toNatClampNeg) = (20 : Int32)) → wX10_ends_j188 p1 p2 post rec a1 a2 a3 a4 a5 a6 a7 (1 : Int32) s5)))))))))))))))
def wX10_ends_j93 (p1 : Int32) (p2 : Int32) (post : qx_St → Prop) (rec : Int32 → Int32 → Int32 → Int32 → Int32 → qx_St → Prop) (a1 : Int32) (a2 : Int32) (a3 : Int32) (a4 : Int32) (a5 : Int32) (a6 : Int32) (a7 : Int32) (b0 : Int32) (b1 : Int32) (σ : qx_St) : Prop := (vp_in b1 40 ∧ (∀ s33, s33 = qx_st σ 64 0 b1.toNatClampNeg b0 → wX10_ends_j94 p1 p2 post rec a1 a2 a3 a4 a5 a6 a7 s33))
def wX10_ends_j39 (p1 : Int32) (p2 : Int32) (post : qx_St → Prop) (rec : Int32 → Int32 → Int32 → Int32 → Int32 → qx_St → Prop) (a1 : Int32) (a2 : Int32) (a3 : Int32) (a4 : Int32) (a5 : Int32) (a6 : Int32) (σ : qx_St) : Prop := (vp_in a6 8 ∧ (((40 : Int32) ≤ (σ 48 0 a6.toNatClampNeg) → wX10_ends_j94 p1 p2 post rec a1 a2 a3 a4 a5 a6 (σ 48 0 a6.toNatClampNeg) σ) ∧ (¬ ((40 : Int32) ≤ (σ 48 0 a6.toNatClampNeg)) → (vp_in a6 8 ∧ (vp_in (σ 48 0 a6.toNatClampNeg) 40 ∧ (∀ s29, s29 = qx_st σ 62 0 (σ 48 0 a6.toNatClampNeg).toNatClampNeg (σ 44 0 a6.toNatClampNeg) → (vp_in (σ 48 0 a6.toNatClampNeg) 40 ∧ (∀ s31, s31 = qx_st s29 63 0 (σ 48 0 a6.toNatClampNeg).toNatClampNeg a3 → ((a3 = 0 → wX10_ends_j93 p1 p2 post rec a1 a2 a3 a4 a5 a6 (σ 48 0 a6.toNatClampNeg) a4 (σ 48 0 a6.toNatClampNeg) s31) ∧ (¬ (a3 = 0) → wX10_ends_j93 p1 p2 post rec a1 a2 a3 a4 a5 a6 (σ 48 0 a6.toNatClampNeg) (0 : Int32) (σ 48 0 a6.toNatClampNeg) s31))))))))))
def wX10_ends_l8 (p1 : Int32) (p2 : Int32) (post : qx_St → Prop) : Nat → Int32 → Int32 → Int32 → Int32 → Int32 → qx_St → Prop
  | 0, _, _, _, _, _, _ => False
  | n + 1, a1, a2, a3, a4, a5, σ => ((a5 = 0 → post σ) ∧ (¬ (a5 = 0) → (∀ s1, s1 = qx_st σ 30 0 12 ((σ 30 0 12) - (1 : Int32)) → ((a3 = 0 → wX10_ends_j39 p1 p2 post (wX10_ends_l8 p1 p2 post n) a1 a2 a3 a4 a5 (s1 30 0 12) s1) ∧ (¬ (a3 = 0) → wX10_undo (s1 30 0 12) s1 (fun s37 => wX10_ends_j39 p1 p2 post (wX10_ends_l8 p1 p2 post n) a1 a2 a3 a4 a5 (s1 30 0 12) s37))))))
def wX10_ends (p1 : Int32) (p2 : Int32) (σ : qx_St) (post : qx_St → Prop) : Prop := ∃ n, wX10_ends_l8 p1 p2 post n p1 p2 p1 p2 (1 : Int32) σ
set_option maxHeartbeats 4000000 in
set_option maxRecDepth 100000 in
theorem kX10_ends (l : Launch) (G : qx_Gx) (t1 t2 : Nat) (ad : Nat → Nat → Nat) (p1 : Int32) (p2 : Int32) (σ : qx_St) (post : qx_St → Prop) (hw : wX10_ends p1 p2 σ post) : qx_Mv l G t1 t2 (qx_w0 ad) yX10_ends cX10_ends 8 none { frames := 1, cells := 0, slots := 0, locals := 22 } [.ref (ad 30 0), .int p1, .int p2] σ post := by
  unfold wX10_ends at hw
  refine qx_start qx_mcX10_ends (Nat.le_of_ble_eq_true rfl) (fun K hKl hR X hr hlk => ?_)
  subst hKl
  have J210 : ∀ (rec : Int32 → Int32 → Int32 → Int32 → Int32 → qx_St → Prop) (hrec : ∀ (a1 : Int32) (a2 : Int32) (a3 : Int32) (a4 : Int32) (a5 : Int32) (σ : qx_St), rec a1 a2 a3 a4 a5 σ → qx_V K G 8 0 0 (MQ K.2.2.2.2.2.2.2.1 (va_Qv post (qx_B G (qx_w0 ad)) G.2.2) K.2.2.2.2.2.2.1 K.2.2.2.2.1 0 0 G.2.2) (qx_w0 ad) σ 8 [(0, .ref (ad 30 0)), (1, .int a1), (2, .int a2), (3, .int a3), (4, .int a4), (5, .int a5)] []) (a1 : Int32) (a2 : Int32) (a3 : Int32) (a4 : Int32) (a5 : Int32) (a6 : Int32) (a7 : Int32) (b0 : Int32) (b1 : Int32) (σ : qx_St), wX10_ends_j210 p1 p2 post rec a1 a2 a3 a4 a5 a6 a7 b0 b1 σ → qx_V K G 8 0 0 (MQ K.2.2.2.2.2.2.2.1 (va_Qv post (qx_B G (qx_w0 ad)) G.2.2) K.2.2.2.2.2.2.1 K.2.2.2.2.1 0 0 G.2.2) (qx_w0 ad) σ 210 [(0, .ref (ad 30 0)), (1, .int a1), (2, .int a2), (3, .int a3), (4, .int a4), (5, .int a5), (6, .int a6), (7, .int a7)] [.int b0, .int b1, .ref (ad 30 0)] := by
    intro rec hrec a1 a2 a3 a4 a5 a6 a7 b0 b1 σ hw
    unfold wX10_ends_j210 at hw
    refine qx_callVv (f := 30) (i := 0) (pc := 210) X [.int b1, .int b0] [] (kX10_push K.2.1 G t1 t2 ad b1 b0 σ _ hw) qx_mcX10_push qx_lRX10_178 qx_iX10_push qx_selX10_push qx_me30 qx_rc30 rfl ⟨rfl, rfl⟩ (by rw [hR]; decide) rfl (Nat.le_of_ble_eq_true rfl) dX10_ends_210 ⟨Nat.zero_le _, Nat.zero_le _⟩ (fun s7 hw => ?_)
    refine qx_aload_n (pc := 213) X 0 dX10_ends_213 rfl rfl ?_
    refine qx_getr (f := 30) (i := 0) (a := ad 47 0) (pc := 214) X qx_gRX10_59 qx_me30 rfl dX10_ends_214 ?_
    refine qx_iload (pc := 217) X 6 dX10_ends_217 rfl ?_
    refine qx_iald (f := 47) (i := 0) (pc := 219) X rfl qx_me47 hw.1 dX10_ends_219 ?_
    have hw := hw.2
    refine qx_bipush (v := 20) (pc := 220) X dX10_ends_220 (by decide) ?_
    refine qx_icmp_ne (tgt := 242) (pc := 222) X dX10_ends_222 (by decide) (fun c14 => ?_) (fun c14 => ?_)
    · have hw := hw.2 c14
      refine qx_goto (tgt := 8) (pc := 242) X dX10_ends_242 (by decide) ?_
      refine qx_lsub [0, 1, 2, 3, 4, 5] rfl ?_
      exact hrec a1 a2 a3 a4 a5 s7 hw
    · have hw := hw.1 c14
      refine qx_aload_n (pc := 225) X 0 dX10_ends_225 rfl rfl ?_
      refine qx_iload (pc := 226) X 6 dX10_ends_226 rfl ?_
      refine qx_iconst (v := 1) (pc := 228) X dX10_ends_228 (by decide) ?_
      refine qx_isub (pc := 229) X dX10_ends_229 ?_
      refine qx_iload_n (pc := 230) X 3 dX10_ends_230 rfl rfl ?_
      refine qx_if_ne (tgt := 238) (pc := 231) X dX10_ends_231 (by decide) (fun c13 => ?_) (fun c13 => ?_)
      · have hw := hw.2 c13
        refine qx_iconst (v := 0) (pc := 238) X dX10_ends_238 (by decide) ?_
        refine qx_callVv (f := 30) (i := 0) (pc := 239) X [.int (a6 - (1 : Int32)), .int (0 : Int32)] [] (kX10_push K.2.1 G t1 t2 ad (a6 - (1 : Int32)) (0 : Int32) s7 _ hw) qx_mcX10_push qx_lRX10_178 qx_iX10_push qx_selX10_push qx_me30 qx_rc30 rfl ⟨rfl, rfl⟩ (by rw [hR]; decide) rfl (Nat.le_of_ble_eq_true rfl) dX10_ends_239 ⟨Nat.zero_le _, Nat.zero_le _⟩ (fun s9 hw => ?_)
        refine qx_goto (tgt := 8) (pc := 242) X dX10_ends_242 (by decide) ?_
        refine qx_lsub [0, 1, 2, 3, 4, 5] rfl ?_
        exact hrec a1 a2 a3 a4 a5 s9 hw
      · have hw := hw.1 c13
        refine qx_iconst (v := 1) (pc := 234) X dX10_ends_234 (by decide) ?_
        refine qx_goto (tgt := 239) (pc := 235) X dX10_ends_235 (by decide) ?_
        refine qx_callVv (f := 30) (i := 0) (pc := 239) X [.int (a6 - (1 : Int32)), .int (1 : Int32)] [] (kX10_push K.2.1 G t1 t2 ad (a6 - (1 : Int32)) (1 : Int32) s7 _ hw) qx_mcX10_push qx_lRX10_178 qx_iX10_push qx_selX10_push qx_me30 qx_rc30 rfl ⟨rfl, rfl⟩ (by rw [hR]; decide) rfl (Nat.le_of_ble_eq_true rfl) dX10_ends_239 ⟨Nat.zero_le _, Nat.zero_le _⟩ (fun s11 hw => ?_)
        refine qx_goto (tgt := 8) (pc := 242) X dX10_ends_242 (by decide) ?_
        refine qx_lsub [0, 1, 2, 3, 4, 5] rfl ?_
        exact hrec a1 a2 a3 a4 a5 s11 hw
  have J188 : ∀ (rec : Int32 → Int32 → Int32 → Int32 → Int32 → qx_St → Prop) (hrec : ∀ (a1 : Int32) (a2 : Int32) (a3 : Int32) (a4 : Int32) (a5 : Int32) (σ : qx_St), rec a1 a2 a3 a4 a5 σ → qx_V K G 8 0 0 (MQ K.2.2.2.2.2.2.2.1 (va_Qv post (qx_B G (qx_w0 ad)) G.2.2) K.2.2.2.2.2.2.1 K.2.2.2.2.1 0 0 G.2.2) (qx_w0 ad) σ 8 [(0, .ref (ad 30 0)), (1, .int a1), (2, .int a2), (3, .int a3), (4, .int a4), (5, .int a5)] []) (a1 : Int32) (a2 : Int32) (a3 : Int32) (a4 : Int32) (a5 : Int32) (a6 : Int32) (a7 : Int32) (b0 : Int32) (σ : qx_St), wX10_ends_j188 p1 p2 post rec a1 a2 a3 a4 a5 a6 a7 b0 σ → qx_V K G 8 0 0 (MQ K.2.2.2.2.2.2.2.1 (va_Qv post (qx_B G (qx_w0 ad)) G.2.2) K.2.2.2.2.2.2.1 K.2.2.2.2.1 0 0 G.2.2) (qx_w0 ad) σ 188 [(0, .ref (ad 30 0)), (1, .int a1), (2, .int a2), (3, .int a3), (4, .int a4), (5, .int a5), (6, .int a6), (7, .int a7)] [.int b0] := by
    intro rec hrec a1 a2 a3 a4 a5 a6 a7 b0 σ hw
    unfold wX10_ends_j188 at hw
    refine qx_istore (lv' := [(5, .int b0), (0, .ref (ad 30 0)), (1, .int a1), (2, .int a2), (3, .int a3), (4, .int a4), (6, .int a6), (7, .int a7)]) (pc := 188) X dX10_ends_188 (by decide) rfl ?_
    refine qx_iload (pc := 190) X 0 dX10_ends_190 rfl ?_
    refine qx_if_ne (tgt := 242) (pc := 192) X dX10_ends_192 (by decide) (fun c16 => ?_) (fun c16 => ?_)
    · have hw := hw.2 c16
      refine qx_goto (tgt := 8) (pc := 242) X dX10_ends_242 (by decide) ?_
      refine qx_lsub [1, 2, 3, 4, 5, 0] rfl ?_
      exact hrec a1 a2 a3 a4 b0 σ hw
    · have hw := hw.1 c16
      refine qx_aload_n (pc := 195) X 1 dX10_ends_195 rfl rfl ?_
      refine qx_iload (pc := 196) X 6 dX10_ends_196 rfl ?_
      refine qx_iconst (v := 1) (pc := 198) X dX10_ends_198 (by decide) ?_
      refine qx_isub (pc := 199) X dX10_ends_199 ?_
      refine qx_iload_n (pc := 200) X 4 dX10_ends_200 rfl rfl ?_
      refine qx_if_ne (tgt := 209) (pc := 201) X dX10_ends_201 (by decide) (fun c15 => ?_) (fun c15 => ?_)
      · have hw := hw.2 c15
        refine qx_iload_n (pc := 209) X 4 dX10_ends_209 rfl rfl ?_
        refine qx_lsub [1, 2, 3, 4, 5, 0, 6, 7] rfl ?_
        exact J210 _ hrec a1 a2 a3 a4 b0 a6 a7 a3 (a6 - (1 : Int32)) σ hw
      · have hw := hw.1 c15
        refine qx_iload (pc := 204) X 5 dX10_ends_204 rfl ?_
        refine qx_goto (tgt := 210) (pc := 206) X dX10_ends_206 (by decide) ?_
        refine qx_lsub [1, 2, 3, 4, 5, 0, 6, 7] rfl ?_
        exact J210 _ hrec a1 a2 a3 a4 b0 a6 a7 a4 (a6 - (1 : Int32)) σ hw
  have J187 : ∀ (rec : Int32 → Int32 → Int32 → Int32 → Int32 → qx_St → Prop) (hrec : ∀ (a1 : Int32) (a2 : Int32) (a3 : Int32) (a4 : Int32) (a5 : Int32) (σ : qx_St), rec a1 a2 a3 a4 a5 σ → qx_V K G 8 0 0 (MQ K.2.2.2.2.2.2.2.1 (va_Qv post (qx_B G (qx_w0 ad)) G.2.2) K.2.2.2.2.2.2.1 K.2.2.2.2.1 0 0 G.2.2) (qx_w0 ad) σ 8 [(0, .ref (ad 30 0)), (1, .int a1), (2, .int a2), (3, .int a3), (4, .int a4), (5, .int a5)] []) (a1 : Int32) (a2 : Int32) (a3 : Int32) (a4 : Int32) (a5 : Int32) (a6 : Int32) (a7 : Int32) (σ : qx_St), wX10_ends_j187 p1 p2 post rec a1 a2 a3 a4 a5 a6 a7 σ → qx_V K G 8 0 0 (MQ K.2.2.2.2.2.2.2.1 (va_Qv post (qx_B G (qx_w0 ad)) G.2.2) K.2.2.2.2.2.2.1 K.2.2.2.2.1 0 0 G.2.2) (qx_w0 ad) σ 187 [(0, .ref (ad 30 0)), (1, .int a1), (2, .int a2), (3, .int a3), (4, .int a4), (5, .int a5), (6, .int a6), (7, .int a7)] [] := by
    intro rec hrec a1 a2 a3 a4 a5 a6 a7 σ hw
    unfold wX10_ends_j187 at hw
    refine qx_iconst (v := 0) (pc := 187) X dX10_ends_187 (by decide) ?_
    exact J188 _ hrec a1 a2 a3 a4 a5 a6 a7 (0 : Int32) σ hw
  have J94 : ∀ (rec : Int32 → Int32 → Int32 → Int32 → Int32 → qx_St → Prop) (hrec : ∀ (a1 : Int32) (a2 : Int32) (a3 : Int32) (a4 : Int32) (a5 : Int32) (σ : qx_St), rec a1 a2 a3 a4 a5 σ → qx_V K G 8 0 0 (MQ K.2.2.2.2.2.2.2.1 (va_Qv post (qx_B G (qx_w0 ad)) G.2.2) K.2.2.2.2.2.2.1 K.2.2.2.2.1 0 0 G.2.2) (qx_w0 ad) σ 8 [(0, .ref (ad 30 0)), (1, .int a1), (2, .int a2), (3, .int a3), (4, .int a4), (5, .int a5)] []) (a1 : Int32) (a2 : Int32) (a3 : Int32) (a4 : Int32) (a5 : Int32) (a6 : Int32) (a7 : Int32) (σ : qx_St), wX10_ends_j94 p1 p2 post rec a1 a2 a3 a4 a5 a6 a7 σ → qx_V K G 8 0 0 (MQ K.2.2.2.2.2.2.2.1 (va_Qv post (qx_B G (qx_w0 ad)) G.2.2) K.2.2.2.2.2.2.1 K.2.2.2.2.1 0 0 G.2.2) (qx_w0 ad) σ 94 [(0, .ref (ad 30 0)), (1, .int a1), (2, .int a2), (3, .int a3), (4, .int a4), (5, .int a5), (6, .int a6), (7, .int a7)] [] := by
    intro rec hrec a1 a2 a3 a4 a5 a6 a7 σ hw
    unfold wX10_ends_j94 at hw
    refine qx_iload (pc := 94) X 6 dX10_ends_94 rfl ?_
    refine qx_if_ne (tgt := 129) (pc := 96) X dX10_ends_96 (by decide) (fun c28 => ?_) (fun c28 => ?_)
    · have hw := hw.2 c28
      refine qx_aload_n (pc := 129) X 0 dX10_ends_129 rfl rfl ?_
      refine qx_getr (f := 30) (i := 0) (a := ad 44 0) (pc := 130) X qx_gRX10_50 qx_me30 rfl dX10_ends_130 ?_
      refine qx_iload (pc := 133) X 6 dX10_ends_133 rfl ?_
      refine qx_iconst (v := 1) (pc := 135) X dX10_ends_135 (by decide) ?_
      refine qx_isub (pc := 136) X dX10_ends_136 ?_
      refine qx_dup2 (pc := 137) X dX10_ends_137 rfl rfl ?_
      refine qx_iald (f := 44) (i := 0) (pc := 138) X rfl qx_me44 hw.1 dX10_ends_138 ?_
      have hw := hw.2
      refine qx_aload_n (pc := 139) X 0 dX10_ends_139 rfl rfl ?_
      refine qx_getr (f := 30) (i := 0) (a := ad 44 0) (pc := 140) X qx_gRX10_50 qx_me30 rfl dX10_ends_140 ?_
      refine qx_iload (pc := 143) X 6 dX10_ends_143 rfl ?_
      refine qx_iald (f := 44) (i := 0) (pc := 145) X rfl qx_me44 hw.1 dX10_ends_145 ?_
      have hw := hw.2
      refine qx_iadd (pc := 146) X dX10_ends_146 ?_
      refine qx_iast1 (f := 44) (i := 0) (pc := 147) X rfl qx_me44 hw.1 dX10_ends_147 (fun s3 e4 => ?_)
      have hw := hw.2
      have hw := hw s3 e4
      refine qx_aload_n (pc := 148) X 0 dX10_ends_148 rfl rfl ?_
      refine qx_getr (f := 30) (i := 0) (a := ad 43 0) (pc := 149) X qx_gRX10_47 qx_me30 rfl dX10_ends_149 ?_
      refine qx_iload (pc := 152) X 6 dX10_ends_152 rfl ?_
      refine qx_iconst (v := 1) (pc := 154) X dX10_ends_154 (by decide) ?_
      refine qx_isub (pc := 155) X dX10_ends_155 ?_
      refine qx_dup2 (pc := 156) X dX10_ends_156 rfl rfl ?_
      refine qx_iald (f := 43) (i := 0) (pc := 157) X rfl qx_me43 hw.1 dX10_ends_157 ?_
      have hw := hw.2
      refine qx_aload_n (pc := 158) X 0 dX10_ends_158 rfl rfl ?_
      refine qx_getr (f := 30) (i := 0) (a := ad 44 0) (pc := 159) X qx_gRX10_50 qx_me30 rfl dX10_ends_159 ?_
      refine qx_iload (pc := 162) X 6 dX10_ends_162 rfl ?_
      refine qx_iald (f := 44) (i := 0) (pc := 164) X rfl qx_me44 hw.1 dX10_ends_164 ?_
      have hw := hw.2
      refine qx_isub (pc := 165) X dX10_ends_165 ?_
      refine qx_iast1 (f := 43) (i := 0) (pc := 166) X rfl qx_me43 hw.1 dX10_ends_166 (fun s5 e6 => ?_)
      have hw := hw.2
      have hw := hw s5 e6
      refine qx_iload_n (pc := 167) X 3 dX10_ends_167 rfl rfl ?_
      refine qx_if_eq (tgt := 187) (pc := 168) X dX10_ends_168 (by decide) (fun c18 => ?_) (fun c18 => ?_)
      · have hw := hw.1 c18
        exact J187 _ hrec a1 a2 a3 a4 a5 a6 a7 s5 hw
      · have hw := hw.2 c18
        refine qx_aload_n (pc := 171) X 0 dX10_ends_171 rfl rfl ?_
        refine qx_getr (f := 30) (i := 0) (a := ad 47 0) (pc := 172) X qx_gRX10_59 qx_me30 rfl dX10_ends_172 ?_
        refine qx_iload (pc := 175) X 6 dX10_ends_175 rfl ?_
        refine qx_iald (f := 47) (i := 0) (pc := 177) X rfl qx_me47 hw.1 dX10_ends_177 ?_
        have hw := hw.2
        refine qx_bipush (v := 20) (pc := 178) X dX10_ends_178 (by decide) ?_
        refine qx_icmp_eq (tgt := 187) (pc := 180) X dX10_ends_180 (by decide) (fun c17 => ?_) (fun c17 => ?_)
        · have hw := hw.1 c17
          exact J187 _ hrec a1 a2 a3 a4 a5 a6 a7 s5 hw
        · have hw := hw.2 c17
          refine qx_iconst (v := 1) (pc := 183) X dX10_ends_183 (by decide) ?_
          refine qx_goto (tgt := 188) (pc := 184) X dX10_ends_184 (by decide) ?_
          exact J188 _ hrec a1 a2 a3 a4 a5 a6 a7 (1 : Int32) s5 hw
    · have hw := hw.1 c28
      refine qx_aload_n (pc := 99) X 0 dX10_ends_99 rfl rfl ?_
      refine qx_aload_n (pc := 100) X 0 dX10_ends_100 rfl rfl ?_
      refine qx_getr (f := 30) (i := 0) (a := ad 44 0) (pc := 101) X qx_gRX10_50 qx_me30 rfl dX10_ends_101 ?_
      refine qx_iconst (v := 0) (pc := 104) X dX10_ends_104 (by decide) ?_
      refine qx_iald (f := 44) (i := 0) (pc := 105) X rfl qx_me44 (by show ¬ (_ ∨ _); decide) dX10_ends_105 ?_
      refine qx_puti1 (f := 30) (i := 0) (pc := 106) X qx_pRX10_169 qx_me30 dX10_ends_106 (fun s19 e20 => ?_)
      have hw := hw s19 e20
      refine qx_aload_n (pc := 109) X 0 dX10_ends_109 rfl rfl ?_
      refine qx_iload_n (pc := 110) X 3 dX10_ends_110 rfl rfl ?_
      refine qx_puti1 (f := 30) (i := 0) (pc := 111) X qx_pRX10_172 qx_me30 dX10_ends_111 (fun s21 e22 => ?_)
      have hw := hw s21 e22
      refine qx_aload_n (pc := 114) X 0 dX10_ends_114 rfl rfl ?_
      refine qx_iload_n (pc := 115) X 3 dX10_ends_115 rfl rfl ?_
      refine qx_if_ne (tgt := 124) (pc := 116) X dX10_ends_116 (by decide) (fun c27 => ?_) (fun c27 => ?_)
      · have hw := hw.2 c27
        refine qx_iload_n (pc := 124) X 3 dX10_ends_124 rfl rfl ?_
        refine qx_puti1 (f := 30) (i := 0) (pc := 125) X qx_pRX10_175 qx_me30 dX10_ends_125 (fun s23 e24 => ?_)
        have hw := hw s23 e24
        exact qx_vret (pc := 128) X hr hlk hw dX10_ends_128
      · have hw := hw.1 c27
        refine qx_iload (pc := 119) X 4 dX10_ends_119 rfl ?_
        refine qx_goto (tgt := 125) (pc := 121) X dX10_ends_121 (by decide) ?_
        refine qx_puti1 (f := 30) (i := 0) (pc := 125) X qx_pRX10_175 qx_me30 dX10_ends_125 (fun s25 e26 => ?_)
        have hw := hw s25 e26
        exact qx_vret (pc := 128) X hr hlk hw dX10_ends_128
  have J93 : ∀ (rec : Int32 → Int32 → Int32 → Int32 → Int32 → qx_St → Prop) (hrec : ∀ (a1 : Int32) (a2 : Int32) (a3 : Int32) (a4 : Int32) (a5 : Int32) (σ : qx_St), rec a1 a2 a3 a4 a5 σ → qx_V K G 8 0 0 (MQ K.2.2.2.2.2.2.2.1 (va_Qv post (qx_B G (qx_w0 ad)) G.2.2) K.2.2.2.2.2.2.1 K.2.2.2.2.1 0 0 G.2.2) (qx_w0 ad) σ 8 [(0, .ref (ad 30 0)), (1, .int a1), (2, .int a2), (3, .int a3), (4, .int a4), (5, .int a5)] []) (a1 : Int32) (a2 : Int32) (a3 : Int32) (a4 : Int32) (a5 : Int32) (a6 : Int32) (a7 : Int32) (b0 : Int32) (b1 : Int32) (σ : qx_St), wX10_ends_j93 p1 p2 post rec a1 a2 a3 a4 a5 a6 a7 b0 b1 σ → qx_V K G 8 0 0 (MQ K.2.2.2.2.2.2.2.1 (va_Qv post (qx_B G (qx_w0 ad)) G.2.2) K.2.2.2.2.2.2.1 K.2.2.2.2.1 0 0 G.2.2) (qx_w0 ad) σ 93 [(0, .ref (ad 30 0)), (1, .int a1), (2, .int a2), (3, .int a3), (4, .int a4), (5, .int a5), (6, .int a6), (7, .int a7)] [.int b0, .int b1, .ref (ad 64 0)] := by
    intro rec hrec a1 a2 a3 a4 a5 a6 a7 b0 b1 σ hw
    unfold wX10_ends_j93 at hw
    refine qx_iast1 (f := 64) (i := 0) (pc := 93) X rfl qx_me64 hw.1 dX10_ends_93 (fun s33 e34 => ?_)
    have hw := hw.2
    have hw := hw s33 e34
    exact J94 _ hrec a1 a2 a3 a4 a5 a6 a7 s33 hw
  have J39 : ∀ (rec : Int32 → Int32 → Int32 → Int32 → Int32 → qx_St → Prop) (hrec : ∀ (a1 : Int32) (a2 : Int32) (a3 : Int32) (a4 : Int32) (a5 : Int32) (σ : qx_St), rec a1 a2 a3 a4 a5 σ → qx_V K G 8 0 0 (MQ K.2.2.2.2.2.2.2.1 (va_Qv post (qx_B G (qx_w0 ad)) G.2.2) K.2.2.2.2.2.2.1 K.2.2.2.2.1 0 0 G.2.2) (qx_w0 ad) σ 8 [(0, .ref (ad 30 0)), (1, .int a1), (2, .int a2), (3, .int a3), (4, .int a4), (5, .int a5)] []) (a1 : Int32) (a2 : Int32) (a3 : Int32) (a4 : Int32) (a5 : Int32) (a6 : Int32) (σ : qx_St), wX10_ends_j39 p1 p2 post rec a1 a2 a3 a4 a5 a6 σ → qx_V K G 8 0 0 (MQ K.2.2.2.2.2.2.2.1 (va_Qv post (qx_B G (qx_w0 ad)) G.2.2) K.2.2.2.2.2.2.1 K.2.2.2.2.1 0 0 G.2.2) (qx_w0 ad) σ 39 [(0, .ref (ad 30 0)), (1, .int a1), (2, .int a2), (3, .int a3), (4, .int a4), (5, .int a5), (6, .int a6)] [] := by
    intro rec hrec a1 a2 a3 a4 a5 a6 σ hw
    unfold wX10_ends_j39 at hw
    refine qx_aload_n (pc := 39) X 0 dX10_ends_39 rfl rfl ?_
    refine qx_getr (f := 30) (i := 0) (a := ad 48 0) (pc := 40) X qx_gRX10_62 qx_me30 rfl dX10_ends_40 ?_
    refine qx_iload (pc := 43) X 6 dX10_ends_43 rfl ?_
    refine qx_iald (f := 48) (i := 0) (pc := 45) X rfl qx_me48 hw.1 dX10_ends_45 ?_
    have hw := hw.2
    refine qx_istore (lv' := [(7, .int (σ 48 0 a6.toNatClampNeg)), (0, .ref (ad 30 0)), (1, .int a1), (2, .int a2), (3, .int a3), (4, .int a4), (5, .int a5), (6, .int a6)]) (pc := 46) X dX10_ends_46 (by decide) rfl ?_
    refine qx_iload (pc := 48) X 0 dX10_ends_48 rfl ?_
    refine qx_bipush (v := 40) (pc := 50) X dX10_ends_50 (by decide) ?_
    refine qx_icmp_ge (tgt := 94) (pc := 52) X dX10_ends_52 (by decide) (fun c36 => ?_) (fun c36 => ?_)
    · have hw := hw.1 c36
      refine qx_lsub [1, 2, 3, 4, 5, 6, 7, 0] rfl ?_
      exact J94 _ hrec a1 a2 a3 a4 a5 a6 (σ 48 0 a6.toNatClampNeg) σ hw
    · have hw := hw.2 c36
      refine qx_aload_n (pc := 55) X 1 dX10_ends_55 rfl rfl ?_
      refine qx_getr (f := 30) (i := 0) (a := ad 62 0) (pc := 56) X qx_gRX10_104 qx_me30 rfl dX10_ends_56 ?_
      refine qx_iload (pc := 59) X 0 dX10_ends_59 rfl ?_
      refine qx_aload_n (pc := 61) X 1 dX10_ends_61 rfl rfl ?_
      refine qx_getr (f := 30) (i := 0) (a := ad 44 0) (pc := 62) X qx_gRX10_50 qx_me30 rfl dX10_ends_62 ?_
      refine qx_iload (pc := 65) X 7 dX10_ends_65 rfl ?_
      refine qx_iald (f := 44) (i := 0) (pc := 67) X rfl qx_me44 hw.1 dX10_ends_67 ?_
      have hw := hw.2
      refine qx_iast1 (f := 62) (i := 0) (pc := 68) X rfl qx_me62 hw.1 dX10_ends_68 (fun s29 e30 => ?_)
      have hw := hw.2
      have hw := hw s29 e30
      refine qx_aload_n (pc := 69) X 1 dX10_ends_69 rfl rfl ?_
      refine qx_getr (f := 30) (i := 0) (a := ad 63 0) (pc := 70) X qx_gRX10_107 qx_me30 rfl dX10_ends_70 ?_
      refine qx_iload (pc := 73) X 0 dX10_ends_73 rfl ?_
      refine qx_iload_n (pc := 75) X 4 dX10_ends_75 rfl rfl ?_
      refine qx_iast1 (f := 63) (i := 0) (pc := 76) X rfl qx_me63 hw.1 dX10_ends_76 (fun s31 e32 => ?_)
      have hw := hw.2
      have hw := hw s31 e32
      refine qx_aload_n (pc := 77) X 1 dX10_ends_77 rfl rfl ?_
      refine qx_getr (f := 30) (i := 0) (a := ad 64 0) (pc := 78) X qx_gRX10_110 qx_me30 rfl dX10_ends_78 ?_
      refine qx_iload (pc := 81) X 0 dX10_ends_81 rfl ?_
      refine qx_iload_n (pc := 83) X 4 dX10_ends_83 rfl rfl ?_
      refine qx_if_ne (tgt := 92) (pc := 84) X dX10_ends_84 (by decide) (fun c35 => ?_) (fun c35 => ?_)
      · have hw := hw.2 c35
        refine qx_iconst (v := 0) (pc := 92) X dX10_ends_92 (by decide) ?_
        refine qx_lsub [1, 2, 3, 4, 5, 6, 7, 0] rfl ?_
        exact J93 _ hrec a1 a2 a3 a4 a5 a6 (σ 48 0 a6.toNatClampNeg) (0 : Int32) (σ 48 0 a6.toNatClampNeg) s31 hw
      · have hw := hw.1 c35
        refine qx_iload (pc := 87) X 5 dX10_ends_87 rfl ?_
        refine qx_goto (tgt := 93) (pc := 89) X dX10_ends_89 (by decide) ?_
        refine qx_lsub [1, 2, 3, 4, 5, 6, 7, 0] rfl ?_
        exact J93 _ hrec a1 a2 a3 a4 a5 a6 (σ 48 0 a6.toNatClampNeg) a4 (σ 48 0 a6.toNatClampNeg) s31 hw
  have L8 : ∀ (n : Nat) (a1 : Int32) (a2 : Int32) (a3 : Int32) (a4 : Int32) (a5 : Int32) (σ : qx_St), wX10_ends_l8 p1 p2 post n a1 a2 a3 a4 a5 σ → qx_V K G 8 0 0 (MQ K.2.2.2.2.2.2.2.1 (va_Qv post (qx_B G (qx_w0 ad)) G.2.2) K.2.2.2.2.2.2.1 K.2.2.2.2.1 0 0 G.2.2) (qx_w0 ad) σ 8 [(0, .ref (ad 30 0)), (1, .int a1), (2, .int a2), (3, .int a3), (4, .int a4), (5, .int a5)] [] := by
    intro n
    induction n with
    | zero => intro a1 a2 a3 a4 a5 σ hw; exact hw.elim
    | succ n ih =>
      intro a1 a2 a3 a4 a5 σ hw
      refine qx_iload (pc := 8) X 5 dX10_ends_8 rfl ?_
      refine qx_if_eq (tgt := 245) (pc := 10) X dX10_ends_10 (by decide) (fun c40 => ?_) (fun c40 => ?_)
      · have hw := hw.1 c40
        exact qx_vret (pc := 245) X hr hlk hw dX10_ends_245
      · have hw := hw.2 c40
        refine qx_aload_n (pc := 13) X 0 dX10_ends_13 rfl rfl ?_
        refine qx_dup (pc := 14) X dX10_ends_14 rfl ?_
        refine qx_geti (f := 30) (i := 0) (pc := 15) X qx_gRX10_156 qx_me30 dX10_ends_15 ?_
        refine qx_iconst (v := 1) (pc := 18) X dX10_ends_18 (by decide) ?_
        refine qx_isub (pc := 19) X dX10_ends_19 ?_
        refine qx_puti1 (f := 30) (i := 0) (pc := 20) X qx_pRX10_156 qx_me30 dX10_ends_20 (fun s1 e2 => ?_)
        have hw := hw s1 e2
        refine qx_aload_n (pc := 23) X 0 dX10_ends_23 rfl rfl ?_
        refine qx_geti (f := 30) (i := 0) (pc := 24) X qx_gRX10_156 qx_me30 dX10_ends_24 ?_
        refine qx_istore (lv' := [(6, .int (s1 30 0 12)), (0, .ref (ad 30 0)), (1, .int a1), (2, .int a2), (3, .int a3), (4, .int a4), (5, .int a5)]) (pc := 27) X dX10_ends_27 (by decide) rfl ?_
        refine qx_iload_n (pc := 29) X 4 dX10_ends_29 rfl rfl ?_
        refine qx_if_eq (tgt := 39) (pc := 30) X dX10_ends_30 (by decide) (fun c39 => ?_) (fun c39 => ?_)
        · have hw := hw.1 c39
          refine qx_lsub [1, 2, 3, 4, 5, 6, 0] rfl ?_
          exact J39 _ ih a1 a2 a3 a4 a5 (s1 30 0 12) s1 hw
        · have hw := hw.2 c39
          refine qx_aload_n (pc := 33) X 1 dX10_ends_33 rfl rfl ?_
          refine qx_iload (pc := 34) X 0 dX10_ends_34 rfl ?_
          refine qx_callVv (f := 30) (i := 0) (pc := 36) X [.int (s1 30 0 12)] [] (kX10_undo K.2.1 G t1 t2 ad (s1 30 0 12) s1 _ hw) qx_mcX10_undo qx_lRX10_166 qx_iX10_undo qx_selX10_undo qx_me30 qx_rc30 rfl ⟨rfl, rfl⟩ (by rw [hR]; decide) rfl (Nat.le_of_ble_eq_true rfl) dX10_ends_36 ⟨Nat.zero_le _, Nat.zero_le _⟩ (fun s37 hw => ?_)
          refine qx_lsub [1, 2, 3, 4, 5, 6, 0] rfl ?_
          exact J39 _ ih a1 a2 a3 a4 a5 (s1 30 0 12) s37 hw
  refine (show qx_V K G 8 0 0 (MQ K.2.2.2.2.2.2.2.1 (va_Qv post (qx_B G (qx_w0 ad)) G.2.2) K.2.2.2.2.2.2.1 K.2.2.2.2.1 0 0 G.2.2) (qx_w0 ad) σ 0 [(0, .ref (ad 30 0)), (1, .int p1), (2, .int p2)] [] from ?_)
  refine qx_iload_n (pc := 0) X 1 dX10_ends_0 rfl rfl ?_
  refine qx_istore_n (lv' := [(3, .int p1), (0, .ref (ad 30 0)), (1, .int p1), (2, .int p2)]) (pc := 1) X dX10_ends_1 rfl (by decide) rfl ?_
  refine qx_iload_n (pc := 2) X 3 dX10_ends_2 rfl rfl ?_
  refine qx_istore (lv' := [(4, .int p2), (3, .int p1), (0, .ref (ad 30 0)), (1, .int p1), (2, .int p2)]) (pc := 3) X dX10_ends_3 (by decide) rfl ?_
  refine qx_iconst (v := 1) (pc := 5) X dX10_ends_5 (by decide) ?_
  refine qx_istore (lv' := [(5, .int (1 : Int32)), (4, .int p2), (3, .int p1), (0, .ref (ad 30 0)), (1, .int p1), (2, .int p2)]) (pc := 6) X dX10_ends_6 (by decide) rfl ?_
  refine qx_lsub [3, 4, 5, 2, 1, 0] rfl ?_
  obtain ⟨n, hw⟩ := hw
  exact L8 n p1 p2 p1 p2 (1 : Int32) σ hw
def wX10_gives (p1 : Int32) (p2 : Int32) (p3 : Int32) (σ : qx_St) (post : Int32 → qx_St → Prop) : Prop := (vp_in p1 8 ∧ ((p2 = (0 : Int32) → post p3 σ) ∧ (p2 = (1 : Int32) → (vp_in p1 8 ∧ post (σ 40 0 p1.toNatClampNeg) σ)) ∧ (p2 = (2 : Int32) → (vp_in p1 8 ∧ post (σ 41 0 p1.toNatClampNeg) σ)) ∧ (p2 = (3 : Int32) → (vp_in p1 8 ∧ post (σ 42 0 p1.toNatClampNeg) σ)) ∧ (p2 = (4 : Int32) → (vp_in ((σ 39 0 p1.toNatClampNeg) / (4 : Int32)) 8 ∧ post (σ 32 0 ((σ 39 0 p1.toNatClampNeg) / (4 : Int32)).toNatClampNeg) σ)) ∧ (p2 = (5 : Int32) → post ((σ 39 0 p1.toNatClampNeg) / (4 : Int32)) σ) ∧ ((∀ i : Nat, i < 6 → ¬ p2 = Int32.ofInt (0 + i)) → (vp_in (((8 : Int32) * ((σ 39 0 p1.toNatClampNeg) / (4 : Int32))) + p3) 64 ∧ post (σ 33 0 (((8 : Int32) * ((σ 39 0 p1.toNatClampNeg) / (4 : Int32))) + p3).toNatClampNeg) σ))))
set_option maxHeartbeats 4000000 in
set_option maxRecDepth 100000 in
theorem kX10_gives (l : Launch) (G : qx_Gx) (t1 t2 : Nat) (ad : Nat → Nat → Nat) (p1 : Int32) (p2 : Int32) (p3 : Int32) (σ : qx_St) (post : Int32 → qx_St → Prop) (hw : wX10_gives p1 p2 p3 σ post) : qx_Mi l G t1 t2 (qx_w0 ad) yX10_gives cX10_gives 5 (some .int) { frames := 0, cells := 0, slots := 0, locals := 0 } [.ref (ad 30 0), .int p1, .int p2, .int p3] σ post := by
  unfold wX10_gives at hw
  refine qx_start qx_mcX10_gives (Nat.le_of_ble_eq_true rfl) (fun K hKl hR X hr hlk => ?_)
  subst hKl
  refine (show qx_V K G 5 0 0 (MQ K.2.2.2.2.2.2.2.1 (va_Qi post (qx_B G (qx_w0 ad)) G.2.2) K.2.2.2.2.2.2.1 K.2.2.2.2.1 0 0 G.2.2) (qx_w0 ad) σ 0 [(0, .ref (ad 30 0)), (1, .int p1), (2, .int p2), (3, .int p3)] [] from ?_)
  refine qx_aload_n (pc := 0) X 0 dX10_gives_0 rfl rfl ?_
  refine qx_getr (f := 30) (i := 0) (a := ad 39 0) (pc := 1) X qx_gRX10_35 qx_me30 rfl dX10_gives_1 ?_
  refine qx_iload_n (pc := 4) X 1 dX10_gives_4 rfl rfl ?_
  refine qx_iald (f := 39) (i := 0) (pc := 5) X rfl qx_me39 hw.1 dX10_gives_5 ?_
  have hw := hw.2
  refine qx_iconst (v := 4) (pc := 6) X dX10_gives_6 (by decide) ?_
  refine qx_idiv (pc := 7) X dX10_gives_7 (by decide) ?_
  refine qx_istore (lv' := [(4, .int ((σ 39 0 p1.toNatClampNeg) / (4 : Int32))), (0, .ref (ad 30 0)), (1, .int p1), (2, .int p2), (3, .int p3)]) (pc := 8) X dX10_gives_8 (by decide) rfl ?_
  refine qx_iload_n (pc := 10) X 3 dX10_gives_10 rfl rfl ?_
  refine qx_switch (pc := 11) X (tgt := 82) (fun i => ([48, 50, 57, 64, 71, 79] : List Nat).getD i 0) dX10_gives_11 (by decide) (by decide) (by decide) (by decide) ?_ ?_
  · intro i hi s1
    have hi2 : i < 6 := hi
    rcases (show i = 0 ∨ i = 1 ∨ i = 2 ∨ i = 3 ∨ i = 4 ∨ i = 5 by omega) with rfl | rfl | rfl | rfl | rfl | rfl
    · have hw := hw.1 (s1.trans (by decide))
      refine qx_iload_n (pc := 48) X 4 dX10_gives_48 rfl rfl ?_
      exact qx_iret (pc := 49) X hr hlk hw dX10_gives_49
    · have hw := hw.2.1 (s1.trans (by decide))
      refine qx_aload_n (pc := 50) X 1 dX10_gives_50 rfl rfl ?_
      refine qx_getr (f := 30) (i := 0) (a := ad 40 0) (pc := 51) X qx_gRX10_38 qx_me30 rfl dX10_gives_51 ?_
      refine qx_iload_n (pc := 54) X 2 dX10_gives_54 rfl rfl ?_
      refine qx_iald (f := 40) (i := 0) (pc := 55) X rfl qx_me40 hw.1 dX10_gives_55 ?_
      have hw := hw.2
      exact qx_iret (pc := 56) X hr hlk hw dX10_gives_56
    · have hw := hw.2.2.1 (s1.trans (by decide))
      refine qx_aload_n (pc := 57) X 1 dX10_gives_57 rfl rfl ?_
      refine qx_getr (f := 30) (i := 0) (a := ad 41 0) (pc := 58) X qx_gRX10_41 qx_me30 rfl dX10_gives_58 ?_
      refine qx_iload_n (pc := 61) X 2 dX10_gives_61 rfl rfl ?_
      refine qx_iald (f := 41) (i := 0) (pc := 62) X rfl qx_me41 hw.1 dX10_gives_62 ?_
      have hw := hw.2
      exact qx_iret (pc := 63) X hr hlk hw dX10_gives_63
    · have hw := hw.2.2.2.1 (s1.trans (by decide))
      refine qx_aload_n (pc := 64) X 1 dX10_gives_64 rfl rfl ?_
      refine qx_getr (f := 30) (i := 0) (a := ad 42 0) (pc := 65) X qx_gRX10_44 qx_me30 rfl dX10_gives_65 ?_
      refine qx_iload_n (pc := 68) X 2 dX10_gives_68 rfl rfl ?_
      refine qx_iald (f := 42) (i := 0) (pc := 69) X rfl qx_me42 hw.1 dX10_gives_69 ?_
      have hw := hw.2
      exact qx_iret (pc := 70) X hr hlk hw dX10_gives_70
    · have hw := hw.2.2.2.2.1 (s1.trans (by decide))
      refine qx_aload_n (pc := 71) X 1 dX10_gives_71 rfl rfl ?_
      refine qx_getr (f := 30) (i := 0) (a := ad 32 0) (pc := 72) X qx_gRX10_13 qx_me30 rfl dX10_gives_72 ?_
      refine qx_iload (pc := 75) X 0 dX10_gives_75 rfl ?_
      refine qx_iald (f := 32) (i := 0) (pc := 77) X rfl qx_me32 hw.1 dX10_gives_77 ?_
      have hw := hw.2
      exact qx_iret (pc := 78) X hr hlk hw dX10_gives_78
    · have hw := hw.2.2.2.2.2.1 (s1.trans (by decide))
      refine qx_iload (pc := 79) X 0 dX10_gives_79 rfl ?_
      exact qx_iret (pc := 81) X hr hlk hw dX10_gives_81
  · intro s1
    have hw := hw.2.2.2.2.2.2 s1
    refine qx_aload_n (pc := 82) X 1 dX10_gives_82 rfl rfl ?_
    refine qx_getr (f := 30) (i := 0) (a := ad 33 0) (pc := 83) X qx_gRX10_16 qx_me30 rfl dX10_gives_83 ?_
    refine qx_bipush (v := 8) (pc := 86) X dX10_gives_86 (by decide) ?_
    refine qx_iload (pc := 88) X 0 dX10_gives_88 rfl ?_
    refine qx_imul (pc := 90) X dX10_gives_90 ?_
    refine qx_iload_n (pc := 91) X 4 dX10_gives_91 rfl rfl ?_
    refine qx_iadd (pc := 92) X dX10_gives_92 ?_
    refine qx_iald (f := 33) (i := 0) (pc := 93) X rfl qx_me33 hw.1 dX10_gives_93 ?_
    have hw := hw.2
    exact qx_iret (pc := 94) X hr hlk hw dX10_gives_94
def wX10_reckon_j30 (p1 : Int32) (p2 : Int32) (post : qx_St → Prop) (a1 : Int32) (a2 : Int32) (a3 : Int32) (a4 : Int32) (σ : qx_St) : Prop := ((a2 = (8 : Int32) → wX10_push a1 (a4 + a3) σ (fun s6 => post s6)) ∧ (a2 = (9 : Int32) → wX10_push a1 (a4 - a3) σ (fun s8 => post s8)) ∧ (a2 = (10 : Int32) → wX10_push a1 (a4 * a3) σ (fun s10 => post s10)) ∧ (a2 = (11 : Int32) → (¬ (a3).toInt64 = 0 ∧ wX10_push a1 (((a4).toInt64 / (a3).toInt64)).toInt32 σ (fun s12 => post s12))) ∧ (a2 = (12 : Int32) → ((a3 ≤ a4 → wX10_push a1 (0 : Int32) σ (fun s14 => post s14)) ∧ (¬ (a3 ≤ a4) → wX10_push a1 (1 : Int32) σ (fun s16 => post s16)))) ∧ (a2 = (13 : Int32) → ((a4 = a3 → wX10_push a1 (1 : Int32) σ (fun s21 => post s21)) ∧ (¬ (a4 = a3) → wX10_push a1 (0 : Int32) σ (fun s19 => post s19)))) ∧ ((∀ i : Nat, i < 6 → ¬ a2 = Int32.ofInt (8 + i)) → wX10_push a1 a3 σ (fun s24 => wX10_push a1 a4 s24 (fun s26 => post s26))))
def wX10_reckon (p1 : Int32) (p2 : Int32) (σ : qx_St) (post : qx_St → Prop) : Prop := wX10_pop p1 σ (fun r2 s1 => wX10_pop p1 s1 (fun r4 s3 => ((p2 = (11 : Int32) → ((r2 = 0 → wX10_ends (3 : Int32) (0 : Int32) s3 (fun s28 => post s28)) ∧ (¬ (r2 = 0) → wX10_reckon_j30 p1 p2 post p1 p2 r2 r4 s3))) ∧ (¬ (p2 = (11 : Int32)) → wX10_reckon_j30 p1 p2 post p1 p2 r2 r4 s3))))
set_option maxHeartbeats 4000000 in
set_option maxRecDepth 100000 in
theorem kX10_reckon (l : Launch) (G : qx_Gx) (t1 t2 : Nat) (ad : Nat → Nat → Nat) (p1 : Int32) (p2 : Int32) (σ : qx_St) (post : qx_St → Prop) (hw : wX10_reckon p1 p2 σ post) : qx_Mv l G t1 t2 (qx_w0 ad) yX10_reckon cX10_reckon 5 none { frames := 2, cells := 0, slots := 0, locals := 49 } [.ref (ad 30 0), .int p1, .int p2] σ post := by
  unfold wX10_reckon at hw
  refine qx_start qx_mcX10_reckon (Nat.le_of_ble_eq_true rfl) (fun K hKl hR X hr hlk => ?_)
  subst hKl
  have J30 : ∀ (a1 : Int32) (a2 : Int32) (a3 : Int32) (a4 : Int32) (σ : qx_St), wX10_reckon_j30 p1 p2 post a1 a2 a3 a4 σ → qx_V K G 5 0 0 (MQ K.2.2.2.2.2.2.2.1 (va_Qv post (qx_B G (qx_w0 ad)) G.2.2) K.2.2.2.2.2.2.1 K.2.2.2.2.1 0 0 G.2.2) (qx_w0 ad) σ 30 [(0, .ref (ad 30 0)), (1, .int a1), (2, .int a2), (3, .int a3), (4, .int a4)] [] := by
    intro a1 a2 a3 a4 σ hw
    unfold wX10_reckon_j30 at hw
    refine qx_iload_n (pc := 30) X 2 dX10_reckon_30 rfl rfl ?_
    refine qx_switch (pc := 31) X (tgt := 157) (fun i => ([68, 80, 92, 104, 119, 138] : List Nat).getD i 0) dX10_reckon_31 (by decide) (by decide) (by decide) (by decide) ?_ ?_
    · intro i hi s5
      have hi2 : i < 6 := hi
      rcases (show i = 0 ∨ i = 1 ∨ i = 2 ∨ i = 3 ∨ i = 4 ∨ i = 5 by omega) with rfl | rfl | rfl | rfl | rfl | rfl
      · have hw := hw.1 (s5.trans (by decide))
        refine qx_aload_n (pc := 68) X 0 dX10_reckon_68 rfl rfl ?_
        refine qx_iload_n (pc := 69) X 1 dX10_reckon_69 rfl rfl ?_
        refine qx_iload (pc := 70) X 4 dX10_reckon_70 rfl ?_
        refine qx_iload_n (pc := 72) X 3 dX10_reckon_72 rfl rfl ?_
        refine qx_iadd (pc := 73) X dX10_reckon_73 ?_
        refine qx_callVv (f := 30) (i := 0) (pc := 74) X [.int a1, .int (a4 + a3)] [] (kX10_push K.2.1 G t1 t2 ad a1 (a4 + a3) σ _ hw) qx_mcX10_push qx_lRX10_178 qx_iX10_push qx_selX10_push qx_me30 qx_rc30 rfl ⟨rfl, rfl⟩ (by rw [hR]; decide) rfl (Nat.le_of_ble_eq_true rfl) dX10_reckon_74 ⟨Nat.zero_le _, Nat.zero_le _⟩ (fun s6 hw => ?_)
        refine qx_goto (tgt := 170) (pc := 77) X dX10_reckon_77 (by decide) ?_
        exact qx_vret (pc := 170) X hr hlk hw dX10_reckon_170
      · have hw := hw.2.1 (s5.trans (by decide))
        refine qx_aload_n (pc := 80) X 0 dX10_reckon_80 rfl rfl ?_
        refine qx_iload_n (pc := 81) X 1 dX10_reckon_81 rfl rfl ?_
        refine qx_iload (pc := 82) X 4 dX10_reckon_82 rfl ?_
        refine qx_iload_n (pc := 84) X 3 dX10_reckon_84 rfl rfl ?_
        refine qx_isub (pc := 85) X dX10_reckon_85 ?_
        refine qx_callVv (f := 30) (i := 0) (pc := 86) X [.int a1, .int (a4 - a3)] [] (kX10_push K.2.1 G t1 t2 ad a1 (a4 - a3) σ _ hw) qx_mcX10_push qx_lRX10_178 qx_iX10_push qx_selX10_push qx_me30 qx_rc30 rfl ⟨rfl, rfl⟩ (by rw [hR]; decide) rfl (Nat.le_of_ble_eq_true rfl) dX10_reckon_86 ⟨Nat.zero_le _, Nat.zero_le _⟩ (fun s8 hw => ?_)
        refine qx_goto (tgt := 170) (pc := 89) X dX10_reckon_89 (by decide) ?_
        exact qx_vret (pc := 170) X hr hlk hw dX10_reckon_170
      · have hw := hw.2.2.1 (s5.trans (by decide))
        refine qx_aload_n (pc := 92) X 0 dX10_reckon_92 rfl rfl ?_
        refine qx_iload_n (pc := 93) X 1 dX10_reckon_93 rfl rfl ?_
        refine qx_iload (pc := 94) X 4 dX10_reckon_94 rfl ?_
        refine qx_iload_n (pc := 96) X 3 dX10_reckon_96 rfl rfl ?_
        refine qx_imul (pc := 97) X dX10_reckon_97 ?_
        refine qx_callVv (f := 30) (i := 0) (pc := 98) X [.int a1, .int (a4 * a3)] [] (kX10_push K.2.1 G t1 t2 ad a1 (a4 * a3) σ _ hw) qx_mcX10_push qx_lRX10_178 qx_iX10_push qx_selX10_push qx_me30 qx_rc30 rfl ⟨rfl, rfl⟩ (by rw [hR]; decide) rfl (Nat.le_of_ble_eq_true rfl) dX10_reckon_98 ⟨Nat.zero_le _, Nat.zero_le _⟩ (fun s10 hw => ?_)
        refine qx_goto (tgt := 170) (pc := 101) X dX10_reckon_101 (by decide) ?_
        exact qx_vret (pc := 170) X hr hlk hw dX10_reckon_170
      · have hw := hw.2.2.2.1 (s5.trans (by decide))
        refine qx_aload_n (pc := 104) X 0 dX10_reckon_104 rfl rfl ?_
        refine qx_iload_n (pc := 105) X 1 dX10_reckon_105 rfl rfl ?_
        refine qx_iload (pc := 106) X 4 dX10_reckon_106 rfl ?_
        refine qx_i2l (pc := 108) X dX10_reckon_108 ?_
        refine qx_iload_n (pc := 109) X 3 dX10_reckon_109 rfl rfl ?_
        refine qx_i2l (pc := 110) X dX10_reckon_110 ?_
        refine qx_ldiv (pc := 111) X dX10_reckon_111 hw.1 ?_
        have hw := hw.2
        refine qx_l2i (pc := 112) X dX10_reckon_112 ?_
        refine qx_callVv (f := 30) (i := 0) (pc := 113) X [.int a1, .int (((a4).toInt64 / (a3).toInt64)).toInt32] [] (kX10_push K.2.1 G t1 t2 ad a1 (((a4).toInt64 / (a3).toInt64)).toInt32 σ _ hw) qx_mcX10_push qx_lRX10_178 qx_iX10_push qx_selX10_push qx_me30 qx_rc30 rfl ⟨rfl, rfl⟩ (by rw [hR]; decide) rfl (Nat.le_of_ble_eq_true rfl) dX10_reckon_113 ⟨Nat.zero_le _, Nat.zero_le _⟩ (fun s12 hw => ?_)
        refine qx_goto (tgt := 170) (pc := 116) X dX10_reckon_116 (by decide) ?_
        exact qx_vret (pc := 170) X hr hlk hw dX10_reckon_170
      · have hw := hw.2.2.2.2.1 (s5.trans (by decide))
        refine qx_aload_n (pc := 119) X 0 dX10_reckon_119 rfl rfl ?_
        refine qx_iload_n (pc := 120) X 1 dX10_reckon_120 rfl rfl ?_
        refine qx_iload (pc := 121) X 4 dX10_reckon_121 rfl ?_
        refine qx_iload_n (pc := 123) X 3 dX10_reckon_123 rfl rfl ?_
        refine qx_icmp_ge (tgt := 131) (pc := 124) X dX10_reckon_124 (by decide) (fun c18 => ?_) (fun c18 => ?_)
        · have hw := hw.1 c18
          refine qx_iconst (v := 0) (pc := 131) X dX10_reckon_131 (by decide) ?_
          refine qx_callVv (f := 30) (i := 0) (pc := 132) X [.int a1, .int (0 : Int32)] [] (kX10_push K.2.1 G t1 t2 ad a1 (0 : Int32) σ _ hw) qx_mcX10_push qx_lRX10_178 qx_iX10_push qx_selX10_push qx_me30 qx_rc30 rfl ⟨rfl, rfl⟩ (by rw [hR]; decide) rfl (Nat.le_of_ble_eq_true rfl) dX10_reckon_132 ⟨Nat.zero_le _, Nat.zero_le _⟩ (fun s14 hw => ?_)
          refine qx_goto (tgt := 170) (pc := 135) X dX10_reckon_135 (by decide) ?_
          exact qx_vret (pc := 170) X hr hlk hw dX10_reckon_170
        · have hw := hw.2 c18
          refine qx_iconst (v := 1) (pc := 127) X dX10_reckon_127 (by decide) ?_
          refine qx_goto (tgt := 132) (pc := 128) X dX10_reckon_128 (by decide) ?_
          refine qx_callVv (f := 30) (i := 0) (pc := 132) X [.int a1, .int (1 : Int32)] [] (kX10_push K.2.1 G t1 t2 ad a1 (1 : Int32) σ _ hw) qx_mcX10_push qx_lRX10_178 qx_iX10_push qx_selX10_push qx_me30 qx_rc30 rfl ⟨rfl, rfl⟩ (by rw [hR]; decide) rfl (Nat.le_of_ble_eq_true rfl) dX10_reckon_132 ⟨Nat.zero_le _, Nat.zero_le _⟩ (fun s16 hw => ?_)
          refine qx_goto (tgt := 170) (pc := 135) X dX10_reckon_135 (by decide) ?_
          exact qx_vret (pc := 170) X hr hlk hw dX10_reckon_170
      · have hw := hw.2.2.2.2.2.1 (s5.trans (by decide))
        refine qx_aload_n (pc := 138) X 0 dX10_reckon_138 rfl rfl ?_
        refine qx_iload_n (pc := 139) X 1 dX10_reckon_139 rfl rfl ?_
        refine qx_iload (pc := 140) X 4 dX10_reckon_140 rfl ?_
        refine qx_iload_n (pc := 142) X 3 dX10_reckon_142 rfl rfl ?_
        refine qx_icmp_ne (tgt := 150) (pc := 143) X dX10_reckon_143 (by decide) (fun c23 => ?_) (fun c23 => ?_)
        · have hw := hw.2 c23
          refine qx_iconst (v := 0) (pc := 150) X dX10_reckon_150 (by decide) ?_
          refine qx_callVv (f := 30) (i := 0) (pc := 151) X [.int a1, .int (0 : Int32)] [] (kX10_push K.2.1 G t1 t2 ad a1 (0 : Int32) σ _ hw) qx_mcX10_push qx_lRX10_178 qx_iX10_push qx_selX10_push qx_me30 qx_rc30 rfl ⟨rfl, rfl⟩ (by rw [hR]; decide) rfl (Nat.le_of_ble_eq_true rfl) dX10_reckon_151 ⟨Nat.zero_le _, Nat.zero_le _⟩ (fun s19 hw => ?_)
          refine qx_goto (tgt := 170) (pc := 154) X dX10_reckon_154 (by decide) ?_
          exact qx_vret (pc := 170) X hr hlk hw dX10_reckon_170
        · have hw := hw.1 c23
          refine qx_iconst (v := 1) (pc := 146) X dX10_reckon_146 (by decide) ?_
          refine qx_goto (tgt := 151) (pc := 147) X dX10_reckon_147 (by decide) ?_
          refine qx_callVv (f := 30) (i := 0) (pc := 151) X [.int a1, .int (1 : Int32)] [] (kX10_push K.2.1 G t1 t2 ad a1 (1 : Int32) σ _ hw) qx_mcX10_push qx_lRX10_178 qx_iX10_push qx_selX10_push qx_me30 qx_rc30 rfl ⟨rfl, rfl⟩ (by rw [hR]; decide) rfl (Nat.le_of_ble_eq_true rfl) dX10_reckon_151 ⟨Nat.zero_le _, Nat.zero_le _⟩ (fun s21 hw => ?_)
          refine qx_goto (tgt := 170) (pc := 154) X dX10_reckon_154 (by decide) ?_
          exact qx_vret (pc := 170) X hr hlk hw dX10_reckon_170
    · intro s5
      have hw := hw.2.2.2.2.2.2 s5
      refine qx_aload_n (pc := 157) X 0 dX10_reckon_157 rfl rfl ?_
      refine qx_iload_n (pc := 158) X 1 dX10_reckon_158 rfl rfl ?_
      refine qx_iload_n (pc := 159) X 3 dX10_reckon_159 rfl rfl ?_
      refine qx_callVv (f := 30) (i := 0) (pc := 160) X [.int a1, .int a3] [] (kX10_push K.2.1 G t1 t2 ad a1 a3 σ _ hw) qx_mcX10_push qx_lRX10_178 qx_iX10_push qx_selX10_push qx_me30 qx_rc30 rfl ⟨rfl, rfl⟩ (by rw [hR]; decide) rfl (Nat.le_of_ble_eq_true rfl) dX10_reckon_160 ⟨Nat.zero_le _, Nat.zero_le _⟩ (fun s24 hw => ?_)
      refine qx_aload_n (pc := 163) X 0 dX10_reckon_163 rfl rfl ?_
      refine qx_iload_n (pc := 164) X 1 dX10_reckon_164 rfl rfl ?_
      refine qx_iload (pc := 165) X 4 dX10_reckon_165 rfl ?_
      refine qx_callVv (f := 30) (i := 0) (pc := 167) X [.int a1, .int a4] [] (kX10_push K.2.1 G t1 t2 ad a1 a4 s24 _ hw) qx_mcX10_push qx_lRX10_178 qx_iX10_push qx_selX10_push qx_me30 qx_rc30 rfl ⟨rfl, rfl⟩ (by rw [hR]; decide) rfl (Nat.le_of_ble_eq_true rfl) dX10_reckon_167 ⟨Nat.zero_le _, Nat.zero_le _⟩ (fun s26 hw => ?_)
      exact qx_vret (pc := 170) X hr hlk hw dX10_reckon_170
  refine (show qx_V K G 5 0 0 (MQ K.2.2.2.2.2.2.2.1 (va_Qv post (qx_B G (qx_w0 ad)) G.2.2) K.2.2.2.2.2.2.1 K.2.2.2.2.1 0 0 G.2.2) (qx_w0 ad) σ 0 [(0, .ref (ad 30 0)), (1, .int p1), (2, .int p2)] [] from ?_)
  refine qx_aload_n (pc := 0) X 0 dX10_reckon_0 rfl rfl ?_
  refine qx_iload_n (pc := 1) X 1 dX10_reckon_1 rfl rfl ?_
  refine qx_callVi (f := 30) (i := 0) (pc := 2) X [.int p1] [] (kX10_pop K.2.1 G t1 t2 ad p1 σ _ hw) qx_mcX10_pop qx_lRX10_182 qx_iX10_pop qx_selX10_pop qx_me30 qx_rc30 rfl ⟨rfl, rfl⟩ (by rw [hR]; decide) rfl (Nat.le_of_ble_eq_true rfl) dX10_reckon_2 ⟨Nat.zero_le _, Nat.zero_le _⟩ (fun r2 s1 hw => ?_)
  refine qx_istore_n (lv' := [(3, .int r2), (0, .ref (ad 30 0)), (1, .int p1), (2, .int p2)]) (pc := 5) X dX10_reckon_5 rfl (by decide) rfl ?_
  refine qx_aload_n (pc := 6) X 1 dX10_reckon_6 rfl rfl ?_
  refine qx_iload_n (pc := 7) X 2 dX10_reckon_7 rfl rfl ?_
  refine qx_callVi (f := 30) (i := 0) (pc := 8) X [.int p1] [] (kX10_pop K.2.1 G t1 t2 ad p1 s1 _ hw) qx_mcX10_pop qx_lRX10_182 qx_iX10_pop qx_selX10_pop qx_me30 qx_rc30 rfl ⟨rfl, rfl⟩ (by rw [hR]; decide) rfl (Nat.le_of_ble_eq_true rfl) dX10_reckon_8 ⟨Nat.zero_le _, Nat.zero_le _⟩ (fun r4 s3 hw => ?_)
  refine qx_istore (lv' := [(4, .int r4), (3, .int r2), (0, .ref (ad 30 0)), (1, .int p1), (2, .int p2)]) (pc := 11) X dX10_reckon_11 (by decide) rfl ?_
  refine qx_iload_n (pc := 13) X 4 dX10_reckon_13 rfl rfl ?_
  refine qx_bipush (v := 11) (pc := 14) X dX10_reckon_14 (by decide) ?_
  refine qx_icmp_ne (tgt := 30) (pc := 16) X dX10_reckon_16 (by decide) (fun c31 => ?_) (fun c31 => ?_)
  · have hw := hw.2 c31
    refine qx_lsub [2, 3, 4, 1, 0] rfl ?_
    exact J30 p1 p2 r2 r4 s3 hw
  · have hw := hw.1 c31
    refine qx_iload_n (pc := 19) X 1 dX10_reckon_19 rfl rfl ?_
    refine qx_if_ne (tgt := 30) (pc := 20) X dX10_reckon_20 (by decide) (fun c30 => ?_) (fun c30 => ?_)
    · have hw := hw.2 c30
      refine qx_lsub [2, 3, 4, 1, 0] rfl ?_
      exact J30 p1 p2 r2 r4 s3 hw
    · have hw := hw.1 c30
      refine qx_aload_n (pc := 23) X 2 dX10_reckon_23 rfl rfl ?_
      refine qx_iconst (v := 3) (pc := 24) X dX10_reckon_24 (by decide) ?_
      refine qx_iconst (v := 0) (pc := 25) X dX10_reckon_25 (by decide) ?_
      refine qx_callVv (f := 30) (i := 0) (pc := 26) X [.int (3 : Int32), .int (0 : Int32)] [] (kX10_ends K.2.1 G t1 t2 ad (3 : Int32) (0 : Int32) s3 _ hw) qx_mcX10_ends qx_lRX10_186 qx_iX10_ends qx_selX10_ends qx_me30 qx_rc30 rfl ⟨rfl, rfl⟩ (by rw [hR]; decide) rfl (Nat.le_of_ble_eq_true rfl) dX10_reckon_26 ⟨Nat.zero_le _, Nat.zero_le _⟩ (fun s28 hw => ?_)
      exact qx_vret (pc := 29) X hr hlk hw dX10_reckon_29
def wX10_save (p1 : Int32) (p2 : Int32) (σ : qx_St) (post : qx_St → Prop) : Prop := wX10_pop p1 σ (fun r2 s1 => (vp_in p1 8 ∧ ((r2 = 0 → (vp_in (((8 : Int32) * ((s1 39 0 p1.toNatClampNeg) / (4 : Int32))) + p2) 64 ∧ (((s1 33 0 (((8 : Int32) * ((s1 39 0 p1.toNatClampNeg) / (4 : Int32))) + p2).toNatClampNeg) = 0 → (∀ s7, s7 = qx_st s1 30 0 35 ((s1 30 0 35) + (0 : Int32)) → (vp_in (((8 : Int32) * ((s1 39 0 p1.toNatClampNeg) / (4 : Int32))) + p2) 64 ∧ (∀ s9, s9 = qx_st s7 33 0 (((8 : Int32) * ((s1 39 0 p1.toNatClampNeg) / (4 : Int32))) + p2).toNatClampNeg r2 → post s9)))) ∧ (¬ ((s1 33 0 (((8 : Int32) * ((s1 39 0 p1.toNatClampNeg) / (4 : Int32))) + p2).toNatClampNeg) = 0) → (∀ s11, s11 = qx_st s1 30 0 35 ((s1 30 0 35) + (1 : Int32)) → (vp_in (((8 : Int32) * ((s1 39 0 p1.toNatClampNeg) / (4 : Int32))) + p2) 64 ∧ (∀ s13, s13 = qx_st s11 33 0 (((8 : Int32) * ((s1 39 0 p1.toNatClampNeg) / (4 : Int32))) + p2).toNatClampNeg r2 → post s13))))))) ∧ (¬ (r2 = 0) → (∀ s3, s3 = qx_st s1 30 0 35 ((s1 30 0 35) + (0 : Int32)) → (vp_in (((8 : Int32) * ((s1 39 0 p1.toNatClampNeg) / (4 : Int32))) + p2) 64 ∧ (∀ s5, s5 = qx_st s3 33 0 (((8 : Int32) * ((s1 39 0 p1.toNatClampNeg) / (4 : Int32))) + p2).toNatClampNeg r2 → post s5)))))))
set_option maxHeartbeats 4000000 in
set_option maxRecDepth 100000 in
theorem kX10_save (l : Launch) (G : qx_Gx) (t1 t2 : Nat) (ad : Nat → Nat → Nat) (p1 : Int32) (p2 : Int32) (σ : qx_St) (post : qx_St → Prop) (hw : wX10_save p1 p2 σ post) : qx_Mv l G t1 t2 (qx_w0 ad) yX10_save cX10_save 5 none { frames := 1, cells := 0, slots := 0, locals := 21 } [.ref (ad 30 0), .int p1, .int p2] σ post := by
  unfold wX10_save at hw
  refine qx_start qx_mcX10_save (Nat.le_of_ble_eq_true rfl) (fun K hKl hR X hr hlk => ?_)
  subst hKl
  refine (show qx_V K G 5 0 0 (MQ K.2.2.2.2.2.2.2.1 (va_Qv post (qx_B G (qx_w0 ad)) G.2.2) K.2.2.2.2.2.2.1 K.2.2.2.2.1 0 0 G.2.2) (qx_w0 ad) σ 0 [(0, .ref (ad 30 0)), (1, .int p1), (2, .int p2)] [] from ?_)
  refine qx_aload_n (pc := 0) X 0 dX10_save_0 rfl rfl ?_
  refine qx_iload_n (pc := 1) X 1 dX10_save_1 rfl rfl ?_
  refine qx_callVi (f := 30) (i := 0) (pc := 2) X [.int p1] [] (kX10_pop K.2.1 G t1 t2 ad p1 σ _ hw) qx_mcX10_pop qx_lRX10_182 qx_iX10_pop qx_selX10_pop qx_me30 qx_rc30 rfl ⟨rfl, rfl⟩ (by rw [hR]; decide) rfl (Nat.le_of_ble_eq_true rfl) dX10_save_2 ⟨Nat.zero_le _, Nat.zero_le _⟩ (fun r2 s1 hw => ?_)
  refine qx_istore_n (lv' := [(3, .int r2), (0, .ref (ad 30 0)), (1, .int p1), (2, .int p2)]) (pc := 5) X dX10_save_5 rfl (by decide) rfl ?_
  refine qx_bipush (v := 8) (pc := 6) X dX10_save_6 (by decide) ?_
  refine qx_aload_n (pc := 8) X 1 dX10_save_8 rfl rfl ?_
  refine qx_getr (f := 30) (i := 0) (a := ad 39 0) (pc := 9) X qx_gRX10_35 qx_me30 rfl dX10_save_9 ?_
  refine qx_iload_n (pc := 12) X 2 dX10_save_12 rfl rfl ?_
  refine qx_iald (f := 39) (i := 0) (pc := 13) X rfl qx_me39 hw.1 dX10_save_13 ?_
  have hw := hw.2
  refine qx_iconst (v := 4) (pc := 14) X dX10_save_14 (by decide) ?_
  refine qx_idiv (pc := 15) X dX10_save_15 (by decide) ?_
  refine qx_imul (pc := 16) X dX10_save_16 ?_
  refine qx_iload_n (pc := 17) X 3 dX10_save_17 rfl rfl ?_
  refine qx_iadd (pc := 18) X dX10_save_18 ?_
  refine qx_istore (lv' := [(4, .int (((8 : Int32) * ((s1 39 0 p1.toNatClampNeg) / (4 : Int32))) + p2)), (3, .int r2), (0, .ref (ad 30 0)), (1, .int p1), (2, .int p2)]) (pc := 19) X dX10_save_19 (by decide) rfl ?_
  refine qx_aload_n (pc := 21) X 2 dX10_save_21 rfl rfl ?_
  refine qx_dup (pc := 22) X dX10_save_22 rfl ?_
  refine qx_geti (f := 30) (i := 0) (pc := 23) X qx_gRX10_153 qx_me30 dX10_save_23 ?_
  refine qx_iload_n (pc := 26) X 1 dX10_save_26 rfl rfl ?_
  refine qx_if_ne (tgt := 44) (pc := 27) X dX10_save_27 (by decide) (fun c16 => ?_) (fun c16 => ?_)
  · have hw := hw.2 c16
    refine qx_iconst (v := 0) (pc := 44) X dX10_save_44 (by decide) ?_
    refine qx_iadd (pc := 45) X dX10_save_45 ?_
    refine qx_puti1 (f := 30) (i := 0) (pc := 46) X qx_pRX10_153 qx_me30 dX10_save_46 (fun s3 e4 => ?_)
    have hw := hw s3 e4
    refine qx_aload_n (pc := 49) X 2 dX10_save_49 rfl rfl ?_
    refine qx_getr (f := 30) (i := 0) (a := ad 33 0) (pc := 50) X qx_gRX10_16 qx_me30 rfl dX10_save_50 ?_
    refine qx_iload (pc := 53) X 0 dX10_save_53 rfl ?_
    refine qx_iload_n (pc := 55) X 1 dX10_save_55 rfl rfl ?_
    refine qx_iast1 (f := 33) (i := 0) (pc := 56) X rfl qx_me33 hw.1 dX10_save_56 (fun s5 e6 => ?_)
    have hw := hw.2
    have hw := hw s5 e6
    exact qx_vret (pc := 57) X hr hlk hw dX10_save_57
  · have hw := hw.1 c16
    refine qx_aload_n (pc := 30) X 2 dX10_save_30 rfl rfl ?_
    refine qx_getr (f := 30) (i := 0) (a := ad 33 0) (pc := 31) X qx_gRX10_16 qx_me30 rfl dX10_save_31 ?_
    refine qx_iload (pc := 34) X 0 dX10_save_34 rfl ?_
    refine qx_iald (f := 33) (i := 0) (pc := 36) X rfl qx_me33 hw.1 dX10_save_36 ?_
    have hw := hw.2
    refine qx_if_eq (tgt := 44) (pc := 37) X dX10_save_37 (by decide) (fun c15 => ?_) (fun c15 => ?_)
    · have hw := hw.1 c15
      refine qx_iconst (v := 0) (pc := 44) X dX10_save_44 (by decide) ?_
      refine qx_iadd (pc := 45) X dX10_save_45 ?_
      refine qx_puti1 (f := 30) (i := 0) (pc := 46) X qx_pRX10_153 qx_me30 dX10_save_46 (fun s7 e8 => ?_)
      have hw := hw s7 e8
      refine qx_aload_n (pc := 49) X 2 dX10_save_49 rfl rfl ?_
      refine qx_getr (f := 30) (i := 0) (a := ad 33 0) (pc := 50) X qx_gRX10_16 qx_me30 rfl dX10_save_50 ?_
      refine qx_iload (pc := 53) X 0 dX10_save_53 rfl ?_
      refine qx_iload_n (pc := 55) X 1 dX10_save_55 rfl rfl ?_
      refine qx_iast1 (f := 33) (i := 0) (pc := 56) X rfl qx_me33 hw.1 dX10_save_56 (fun s9 e10 => ?_)
      have hw := hw.2
      have hw := hw s9 e10
      exact qx_vret (pc := 57) X hr hlk hw dX10_save_57
    · have hw := hw.2 c15
      refine qx_iconst (v := 1) (pc := 40) X dX10_save_40 (by decide) ?_
      refine qx_goto (tgt := 45) (pc := 41) X dX10_save_41 (by decide) ?_
      refine qx_iadd (pc := 45) X dX10_save_45 ?_
      refine qx_puti1 (f := 30) (i := 0) (pc := 46) X qx_pRX10_153 qx_me30 dX10_save_46 (fun s11 e12 => ?_)
      have hw := hw s11 e12
      refine qx_aload_n (pc := 49) X 2 dX10_save_49 rfl rfl ?_
      refine qx_getr (f := 30) (i := 0) (a := ad 33 0) (pc := 50) X qx_gRX10_16 qx_me30 rfl dX10_save_50 ?_
      refine qx_iload (pc := 53) X 0 dX10_save_53 rfl ?_
      refine qx_iload_n (pc := 55) X 1 dX10_save_55 rfl rfl ?_
      refine qx_iast1 (f := 33) (i := 0) (pc := 56) X rfl qx_me33 hw.1 dX10_save_56 (fun s13 e14 => ?_)
      have hw := hw.2
      have hw := hw s13 e14
      exact qx_vret (pc := 57) X hr hlk hw dX10_save_57
def wX10_tell (p1 : Int32) (p2 : Int32) (σ : qx_St) (post : qx_St → Prop) : Prop := wX10_pop p1 σ (fun r2 s1 => (((s1 30 0 30) = (60 : Int32) → wX10_ends (9 : Int32) (0 : Int32) s1 (fun s13 => post s13)) ∧ (¬ ((s1 30 0 30) = (60 : Int32)) → (vp_in p1 8 ∧ (vp_in (s1 30 0 30) 60 ∧ (∀ s3, s3 = qx_st s1 56 0 (s1 30 0 30).toNatClampNeg ((s1 39 0 p1.toNatClampNeg) / (4 : Int32)) → (vp_in (s3 30 0 30) 60 ∧ (∀ s5, s5 = qx_st s3 57 0 (s3 30 0 30).toNatClampNeg p2 → (vp_in (s5 30 0 30) 60 ∧ (∀ s7, s7 = qx_st s5 58 0 (s5 30 0 30).toNatClampNeg r2 → (vp_in (s7 30 0 30) 60 ∧ (∀ s9, s9 = qx_st s7 59 0 (s7 30 0 30).toNatClampNeg (p1 + (1 : Int32)) → (∀ s11, s11 = qx_st s9 30 0 30 ((s9 30 0 30) + (1 : Int32)) → post s11)))))))))))))
set_option maxHeartbeats 4000000 in
set_option maxRecDepth 100000 in
theorem kX10_tell (l : Launch) (G : qx_Gx) (t1 t2 : Nat) (ad : Nat → Nat → Nat) (p1 : Int32) (p2 : Int32) (σ : qx_St) (post : qx_St → Prop) (hw : wX10_tell p1 p2 σ post) : qx_Mv l G t1 t2 (qx_w0 ad) yX10_tell cX10_tell 4 none { frames := 2, cells := 0, slots := 0, locals := 49 } [.ref (ad 30 0), .int p1, .int p2] σ post := by
  unfold wX10_tell at hw
  refine qx_start qx_mcX10_tell (Nat.le_of_ble_eq_true rfl) (fun K hKl hR X hr hlk => ?_)
  subst hKl
  refine (show qx_V K G 4 0 0 (MQ K.2.2.2.2.2.2.2.1 (va_Qv post (qx_B G (qx_w0 ad)) G.2.2) K.2.2.2.2.2.2.1 K.2.2.2.2.1 0 0 G.2.2) (qx_w0 ad) σ 0 [(0, .ref (ad 30 0)), (1, .int p1), (2, .int p2)] [] from ?_)
  refine qx_aload_n (pc := 0) X 0 dX10_tell_0 rfl rfl ?_
  refine qx_iload_n (pc := 1) X 1 dX10_tell_1 rfl rfl ?_
  refine qx_callVi (f := 30) (i := 0) (pc := 2) X [.int p1] [] (kX10_pop K.2.1 G t1 t2 ad p1 σ _ hw) qx_mcX10_pop qx_lRX10_182 qx_iX10_pop qx_selX10_pop qx_me30 qx_rc30 rfl ⟨rfl, rfl⟩ (by rw [hR]; decide) rfl (Nat.le_of_ble_eq_true rfl) dX10_tell_2 ⟨Nat.zero_le _, Nat.zero_le _⟩ (fun r2 s1 hw => ?_)
  refine qx_istore_n (lv' := [(3, .int r2), (0, .ref (ad 30 0)), (1, .int p1), (2, .int p2)]) (pc := 5) X dX10_tell_5 rfl (by decide) rfl ?_
  refine qx_aload_n (pc := 6) X 1 dX10_tell_6 rfl rfl ?_
  refine qx_geti (f := 30) (i := 0) (pc := 7) X qx_gRX10_136 qx_me30 dX10_tell_7 ?_
  refine qx_bipush (v := 60) (pc := 10) X dX10_tell_10 (by decide) ?_
  refine qx_icmp_ne (tgt := 23) (pc := 12) X dX10_tell_12 (by decide) (fun c15 => ?_) (fun c15 => ?_)
  · have hw := hw.2 c15
    refine qx_aload_n (pc := 23) X 1 dX10_tell_23 rfl rfl ?_
    refine qx_getr (f := 30) (i := 0) (a := ad 56 0) (pc := 24) X qx_gRX10_86 qx_me30 rfl dX10_tell_24 ?_
    refine qx_aload_n (pc := 27) X 1 dX10_tell_27 rfl rfl ?_
    refine qx_geti (f := 30) (i := 0) (pc := 28) X qx_gRX10_136 qx_me30 dX10_tell_28 ?_
    refine qx_aload_n (pc := 31) X 1 dX10_tell_31 rfl rfl ?_
    refine qx_getr (f := 30) (i := 0) (a := ad 39 0) (pc := 32) X qx_gRX10_35 qx_me30 rfl dX10_tell_32 ?_
    refine qx_iload_n (pc := 35) X 2 dX10_tell_35 rfl rfl ?_
    refine qx_iald (f := 39) (i := 0) (pc := 36) X rfl qx_me39 hw.1 dX10_tell_36 ?_
    have hw := hw.2
    refine qx_iconst (v := 4) (pc := 37) X dX10_tell_37 (by decide) ?_
    refine qx_idiv (pc := 38) X dX10_tell_38 (by decide) ?_
    refine qx_iast1 (f := 56) (i := 0) (pc := 39) X rfl qx_me56 hw.1 dX10_tell_39 (fun s3 e4 => ?_)
    have hw := hw.2
    have hw := hw s3 e4
    refine qx_aload_n (pc := 40) X 1 dX10_tell_40 rfl rfl ?_
    refine qx_getr (f := 30) (i := 0) (a := ad 57 0) (pc := 41) X qx_gRX10_89 qx_me30 rfl dX10_tell_41 ?_
    refine qx_aload_n (pc := 44) X 1 dX10_tell_44 rfl rfl ?_
    refine qx_geti (f := 30) (i := 0) (pc := 45) X qx_gRX10_136 qx_me30 dX10_tell_45 ?_
    refine qx_iload_n (pc := 48) X 3 dX10_tell_48 rfl rfl ?_
    refine qx_iast1 (f := 57) (i := 0) (pc := 49) X rfl qx_me57 hw.1 dX10_tell_49 (fun s5 e6 => ?_)
    have hw := hw.2
    have hw := hw s5 e6
    refine qx_aload_n (pc := 50) X 1 dX10_tell_50 rfl rfl ?_
    refine qx_getr (f := 30) (i := 0) (a := ad 58 0) (pc := 51) X qx_gRX10_92 qx_me30 rfl dX10_tell_51 ?_
    refine qx_aload_n (pc := 54) X 1 dX10_tell_54 rfl rfl ?_
    refine qx_geti (f := 30) (i := 0) (pc := 55) X qx_gRX10_136 qx_me30 dX10_tell_55 ?_
    refine qx_iload_n (pc := 58) X 0 dX10_tell_58 rfl rfl ?_
    refine qx_iast1 (f := 58) (i := 0) (pc := 59) X rfl qx_me58 hw.1 dX10_tell_59 (fun s7 e8 => ?_)
    have hw := hw.2
    have hw := hw s7 e8
    refine qx_aload_n (pc := 60) X 1 dX10_tell_60 rfl rfl ?_
    refine qx_getr (f := 30) (i := 0) (a := ad 59 0) (pc := 61) X qx_gRX10_95 qx_me30 rfl dX10_tell_61 ?_
    refine qx_aload_n (pc := 64) X 1 dX10_tell_64 rfl rfl ?_
    refine qx_geti (f := 30) (i := 0) (pc := 65) X qx_gRX10_136 qx_me30 dX10_tell_65 ?_
    refine qx_iload_n (pc := 68) X 2 dX10_tell_68 rfl rfl ?_
    refine qx_iconst (v := 1) (pc := 69) X dX10_tell_69 (by decide) ?_
    refine qx_iadd (pc := 70) X dX10_tell_70 ?_
    refine qx_iast1 (f := 59) (i := 0) (pc := 71) X rfl qx_me59 hw.1 dX10_tell_71 (fun s9 e10 => ?_)
    have hw := hw.2
    have hw := hw s9 e10
    refine qx_aload_n (pc := 72) X 1 dX10_tell_72 rfl rfl ?_
    refine qx_dup (pc := 73) X dX10_tell_73 rfl ?_
    refine qx_geti (f := 30) (i := 0) (pc := 74) X qx_gRX10_136 qx_me30 dX10_tell_74 ?_
    refine qx_iconst (v := 1) (pc := 77) X dX10_tell_77 (by decide) ?_
    refine qx_iadd (pc := 78) X dX10_tell_78 ?_
    refine qx_puti1 (f := 30) (i := 0) (pc := 79) X qx_pRX10_136 qx_me30 dX10_tell_79 (fun s11 e12 => ?_)
    have hw := hw s11 e12
    exact qx_vret (pc := 82) X hr hlk hw dX10_tell_82
  · have hw := hw.1 c15
    refine qx_aload_n (pc := 15) X 1 dX10_tell_15 rfl rfl ?_
    refine qx_bipush (v := 9) (pc := 16) X dX10_tell_16 (by decide) ?_
    refine qx_iconst (v := 0) (pc := 18) X dX10_tell_18 (by decide) ?_
    refine qx_callVv (f := 30) (i := 0) (pc := 19) X [.int (9 : Int32), .int (0 : Int32)] [] (kX10_ends K.2.1 G t1 t2 ad (9 : Int32) (0 : Int32) s1 _ hw) qx_mcX10_ends qx_lRX10_186 qx_iX10_ends qx_selX10_ends qx_me30 qx_rc30 rfl ⟨rfl, rfl⟩ (by rw [hR]; decide) rfl (Nat.le_of_ble_eq_true rfl) dX10_tell_19 ⟨Nat.zero_le _, Nat.zero_le _⟩ (fun s13 hw => ?_)
    exact qx_vret (pc := 22) X hr hlk hw dX10_tell_22
def wX10_send (p1 : Int32) (p2 : Int32) (σ : qx_St) (post : qx_St → Prop) : Prop := wX10_pop p1 σ (fun r2 s1 => (vp_in p1 8 ∧ ((r2 < 0 → wX10_ends (7 : Int32) (0 : Int32) s1 (fun s3 => post s3)) ∧ (¬ (r2 < 0) → (vp_in ((s1 39 0 p1.toNatClampNeg) / (4 : Int32)) 8 ∧ ((r2 ≤ (s1 32 0 ((s1 39 0 p1.toNatClampNeg) / (4 : Int32)).toNatClampNeg) → (vp_in ((s1 39 0 p1.toNatClampNeg) / (4 : Int32)) 8 ∧ (vp_in ((s1 39 0 p1.toNatClampNeg) / (4 : Int32)) 8 ∧ (∀ s5, s5 = qx_st s1 32 0 ((s1 39 0 p1.toNatClampNeg) / (4 : Int32)).toNatClampNeg ((s1 32 0 ((s1 39 0 p1.toNatClampNeg) / (4 : Int32)).toNatClampNeg) - r2) → (vp_in p2 4 ∧ (vp_in p2 4 ∧ (∀ s7, s7 = qx_st s5 31 0 p2.toNatClampNeg ((s5 31 0 p2.toNatClampNeg) + r2) → post s7))))))) ∧ (¬ (r2 ≤ (s1 32 0 ((s1 39 0 p1.toNatClampNeg) / (4 : Int32)).toNatClampNeg)) → wX10_ends (7 : Int32) (0 : Int32) s1 (fun s9 => post s9))))))))
set_option maxHeartbeats 4000000 in
set_option maxRecDepth 100000 in
theorem kX10_send (l : Launch) (G : qx_Gx) (t1 t2 : Nat) (ad : Nat → Nat → Nat) (p1 : Int32) (p2 : Int32) (σ : qx_St) (post : qx_St → Prop) (hw : wX10_send p1 p2 σ post) : qx_Mv l G t1 t2 (qx_w0 ad) yX10_send cX10_send 5 none { frames := 2, cells := 0, slots := 0, locals := 49 } [.ref (ad 30 0), .int p1, .int p2] σ post := by
  unfold wX10_send at hw
  refine qx_start qx_mcX10_send (Nat.le_of_ble_eq_true rfl) (fun K hKl hR X hr hlk => ?_)
  subst hKl
  refine (show qx_V K G 5 0 0 (MQ K.2.2.2.2.2.2.2.1 (va_Qv post (qx_B G (qx_w0 ad)) G.2.2) K.2.2.2.2.2.2.1 K.2.2.2.2.1 0 0 G.2.2) (qx_w0 ad) σ 0 [(0, .ref (ad 30 0)), (1, .int p1), (2, .int p2)] [] from ?_)
  refine qx_aload_n (pc := 0) X 0 dX10_send_0 rfl rfl ?_
  refine qx_iload_n (pc := 1) X 1 dX10_send_1 rfl rfl ?_
  refine qx_callVi (f := 30) (i := 0) (pc := 2) X [.int p1] [] (kX10_pop K.2.1 G t1 t2 ad p1 σ _ hw) qx_mcX10_pop qx_lRX10_182 qx_iX10_pop qx_selX10_pop qx_me30 qx_rc30 rfl ⟨rfl, rfl⟩ (by rw [hR]; decide) rfl (Nat.le_of_ble_eq_true rfl) dX10_send_2 ⟨Nat.zero_le _, Nat.zero_le _⟩ (fun r2 s1 hw => ?_)
  refine qx_istore_n (lv' := [(3, .int r2), (0, .ref (ad 30 0)), (1, .int p1), (2, .int p2)]) (pc := 5) X dX10_send_5 rfl (by decide) rfl ?_
  refine qx_aload_n (pc := 6) X 1 dX10_send_6 rfl rfl ?_
  refine qx_getr (f := 30) (i := 0) (a := ad 39 0) (pc := 7) X qx_gRX10_35 qx_me30 rfl dX10_send_7 ?_
  refine qx_iload_n (pc := 10) X 2 dX10_send_10 rfl rfl ?_
  refine qx_iald (f := 39) (i := 0) (pc := 11) X rfl qx_me39 hw.1 dX10_send_11 ?_
  have hw := hw.2
  refine qx_iconst (v := 4) (pc := 12) X dX10_send_12 (by decide) ?_
  refine qx_idiv (pc := 13) X dX10_send_13 (by decide) ?_
  refine qx_istore (lv' := [(4, .int ((s1 39 0 p1.toNatClampNeg) / (4 : Int32))), (3, .int r2), (0, .ref (ad 30 0)), (1, .int p1), (2, .int p2)]) (pc := 14) X dX10_send_14 (by decide) rfl ?_
  refine qx_iload_n (pc := 16) X 1 dX10_send_16 rfl rfl ?_
  refine qx_if_lt (tgt := 31) (pc := 17) X dX10_send_17 (by decide) (fun c12 => ?_) (fun c12 => ?_)
  · have hw := hw.1 c12
    refine qx_aload_n (pc := 31) X 2 dX10_send_31 rfl rfl ?_
    refine qx_bipush (v := 7) (pc := 32) X dX10_send_32 (by decide) ?_
    refine qx_iconst (v := 0) (pc := 34) X dX10_send_34 (by decide) ?_
    refine qx_callVv (f := 30) (i := 0) (pc := 35) X [.int (7 : Int32), .int (0 : Int32)] [] (kX10_ends K.2.1 G t1 t2 ad (7 : Int32) (0 : Int32) s1 _ hw) qx_mcX10_ends qx_lRX10_186 qx_iX10_ends qx_selX10_ends qx_me30 qx_rc30 rfl ⟨rfl, rfl⟩ (by rw [hR]; decide) rfl (Nat.le_of_ble_eq_true rfl) dX10_send_35 ⟨Nat.zero_le _, Nat.zero_le _⟩ (fun s3 hw => ?_)
    exact qx_vret (pc := 38) X hr hlk hw dX10_send_38
  · have hw := hw.2 c12
    refine qx_iload_n (pc := 20) X 1 dX10_send_20 rfl rfl ?_
    refine qx_aload_n (pc := 21) X 2 dX10_send_21 rfl rfl ?_
    refine qx_getr (f := 30) (i := 0) (a := ad 32 0) (pc := 22) X qx_gRX10_13 qx_me30 rfl dX10_send_22 ?_
    refine qx_iload (pc := 25) X 0 dX10_send_25 rfl ?_
    refine qx_iald (f := 32) (i := 0) (pc := 27) X rfl qx_me32 hw.1 dX10_send_27 ?_
    have hw := hw.2
    refine qx_icmp_le (tgt := 39) (pc := 28) X dX10_send_28 (by decide) (fun c11 => ?_) (fun c11 => ?_)
    · have hw := hw.1 c11
      refine qx_aload_n (pc := 39) X 2 dX10_send_39 rfl rfl ?_
      refine qx_getr (f := 30) (i := 0) (a := ad 32 0) (pc := 40) X qx_gRX10_13 qx_me30 rfl dX10_send_40 ?_
      refine qx_iload (pc := 43) X 0 dX10_send_43 rfl ?_
      refine qx_dup2 (pc := 45) X dX10_send_45 rfl rfl ?_
      refine qx_iald (f := 32) (i := 0) (pc := 46) X rfl qx_me32 hw.1 dX10_send_46 ?_
      have hw := hw.2
      refine qx_iload_n (pc := 47) X 1 dX10_send_47 rfl rfl ?_
      refine qx_isub (pc := 48) X dX10_send_48 ?_
      refine qx_iast1 (f := 32) (i := 0) (pc := 49) X rfl qx_me32 hw.1 dX10_send_49 (fun s5 e6 => ?_)
      have hw := hw.2
      have hw := hw s5 e6
      refine qx_aload_n (pc := 50) X 2 dX10_send_50 rfl rfl ?_
      refine qx_getr (f := 30) (i := 0) (a := ad 31 0) (pc := 51) X qx_gRX10_7 qx_me30 rfl dX10_send_51 ?_
      refine qx_iload_n (pc := 54) X 4 dX10_send_54 rfl rfl ?_
      refine qx_dup2 (pc := 55) X dX10_send_55 rfl rfl ?_
      refine qx_iald (f := 31) (i := 0) (pc := 56) X rfl qx_me31 hw.1 dX10_send_56 ?_
      have hw := hw.2
      refine qx_iload_n (pc := 57) X 1 dX10_send_57 rfl rfl ?_
      refine qx_iadd (pc := 58) X dX10_send_58 ?_
      refine qx_iast1 (f := 31) (i := 0) (pc := 59) X rfl qx_me31 hw.1 dX10_send_59 (fun s7 e8 => ?_)
      have hw := hw.2
      have hw := hw s7 e8
      exact qx_vret (pc := 60) X hr hlk hw dX10_send_60
    · have hw := hw.2 c11
      refine qx_aload_n (pc := 31) X 2 dX10_send_31 rfl rfl ?_
      refine qx_bipush (v := 7) (pc := 32) X dX10_send_32 (by decide) ?_
      refine qx_iconst (v := 0) (pc := 34) X dX10_send_34 (by decide) ?_
      refine qx_callVv (f := 30) (i := 0) (pc := 35) X [.int (7 : Int32), .int (0 : Int32)] [] (kX10_ends K.2.1 G t1 t2 ad (7 : Int32) (0 : Int32) s1 _ hw) qx_mcX10_ends qx_lRX10_186 qx_iX10_ends qx_selX10_ends qx_me30 qx_rc30 rfl ⟨rfl, rfl⟩ (by rw [hR]; decide) rfl (Nat.le_of_ble_eq_true rfl) dX10_send_35 ⟨Nat.zero_le _, Nat.zero_le _⟩ (fun s9 hw => ?_)
      exact qx_vret (pc := 38) X hr hlk hw dX10_send_38
def wX10_shut_j111 (p1 : Int32) (p2 : Int32) (p3 : Int32) (p4 : Int32) (post : Int32 → qx_St → Prop) (a1 : Int32) (a2 : Int32) (a3 : Int32) (a4 : Int32) (a5 : Int32) (σ : qx_St) : Prop := ((a4 < 0 → post (7 : Int32) σ) ∧ (¬ (a4 < 0) → (vp_in a1 8 ∧ (vp_in ((σ 39 0 a1.toNatClampNeg) / (4 : Int32)) 8 ∧ ((a4 ≤ (σ 32 0 ((σ 39 0 a1.toNatClampNeg) / (4 : Int32)).toNatClampNeg) → post (0 : Int32) σ) ∧ (¬ (a4 ≤ (σ 32 0 ((σ 39 0 a1.toNatClampNeg) / (4 : Int32)).toNatClampNeg)) → post (7 : Int32) σ))))))
def wX10_shut_l37 (p1 : Int32) (p2 : Int32) (p3 : Int32) (p4 : Int32) (post : Int32 → qx_St → Prop) : Nat → Int32 → Int32 → Int32 → Int32 → Int32 → qx_St → Prop
  | 0, _, _, _, _, _, _ => False
  | n + 1, a1, a2, a3, a4, a5, σ => (((σ 30 0 12) ≤ a5 → ((a4 = 0 → wX10_shut_j111 p1 p2 p3 p4 post a1 a2 a3 a4 a5 σ) ∧ (¬ (a4 = 0) → (vp_in a1 8 ∧ (((σ 49 0 a1.toNatClampNeg) = 0 → wX10_shut_j111 p1 p2 p3 p4 post a1 a2 a3 a4 a5 σ) ∧ (¬ ((σ 49 0 a1.toNatClampNeg) = 0) → post (2 : Int32) σ)))))) ∧ (¬ ((σ 30 0 12) ≤ a5) → (vp_in (((4 : Int32) * a2) + a3) 32 ∧ (((σ 35 0 (((4 : Int32) * a2) + a3).toNatClampNeg) = 0 → wX10_shut_l37 p1 p2 p3 p4 post n a1 a2 a3 a4 (a5 + 1) σ) ∧ (¬ ((σ 35 0 (((4 : Int32) * a2) + a3).toNatClampNeg) = 0) → (vp_in a5 8 ∧ ((((σ 39 0 a5.toNatClampNeg) / (4 : Int32)) = a2 → (vp_in a5 8 ∧ (vp_in (σ 39 0 a5.toNatClampNeg) 32 ∧ (((σ 35 0 (σ 39 0 a5.toNatClampNeg).toNatClampNeg) = 0 → wX10_shut_l37 p1 p2 p3 p4 post n a1 a2 a3 a4 (a5 + 1) σ) ∧ (¬ ((σ 35 0 (σ 39 0 a5.toNatClampNeg).toNatClampNeg) = 0) → post (4 : Int32) σ))))) ∧ (¬ (((σ 39 0 a5.toNatClampNeg) / (4 : Int32)) = a2) → wX10_shut_l37 p1 p2 p3 p4 post n a1 a2 a3 a4 (a5 + 1) σ))))))))
def wX10_shut (p1 : Int32) (p2 : Int32) (p3 : Int32) (p4 : Int32) (σ : qx_St) (post : Int32 → qx_St → Prop) : Prop := wX10_noContract p2 σ (fun r2 s1 => ((r2 = 0 → (vp_in (((4 : Int32) * p2) + p3) 32 ∧ (((s1 34 0 (((4 : Int32) * p2) + p3).toNatClampNeg) = 0 → post (1 : Int32) s1) ∧ (¬ ((s1 34 0 (((4 : Int32) * p2) + p3).toNatClampNeg) = 0) → (((s1 30 0 12) = (8 : Int32) → post (5 : Int32) s1) ∧ (¬ ((s1 30 0 12) = (8 : Int32)) → ∃ n, wX10_shut_l37 p1 p2 p3 p4 post n p1 p2 p3 p4 (0 : Int32) s1)))))) ∧ (¬ (r2 = 0) → post (1 : Int32) s1)))
set_option maxHeartbeats 4000000 in
set_option maxRecDepth 100000 in
theorem kX10_shut (l : Launch) (G : qx_Gx) (t1 t2 : Nat) (ad : Nat → Nat → Nat) (p1 : Int32) (p2 : Int32) (p3 : Int32) (p4 : Int32) (σ : qx_St) (post : Int32 → qx_St → Prop) (hw : wX10_shut p1 p2 p3 p4 σ post) : qx_Mi l G t1 t2 (qx_w0 ad) yX10_shut cX10_shut 6 (some .int) { frames := 2, cells := 0, slots := 0, locals := 43 } [.ref (ad 30 0), .int p1, .int p2, .int p3, .int p4] σ post := by
  unfold wX10_shut at hw
  refine qx_start qx_mcX10_shut (Nat.le_of_ble_eq_true rfl) (fun K hKl hR X hr hlk => ?_)
  subst hKl
  have J111 : ∀ (a1 : Int32) (a2 : Int32) (a3 : Int32) (a4 : Int32) (a5 : Int32) (σ : qx_St), wX10_shut_j111 p1 p2 p3 p4 post a1 a2 a3 a4 a5 σ → qx_V K G 6 0 0 (MQ K.2.2.2.2.2.2.2.1 (va_Qi post (qx_B G (qx_w0 ad)) G.2.2) K.2.2.2.2.2.2.1 K.2.2.2.2.1 0 0 G.2.2) (qx_w0 ad) σ 111 [(0, .ref (ad 30 0)), (1, .int a1), (2, .int a2), (3, .int a3), (4, .int a4), (5, .int a5)] [] := by
    intro a1 a2 a3 a4 a5 σ hw
    unfold wX10_shut_j111 at hw
    refine qx_iload (pc := 111) X 4 dX10_shut_111 rfl ?_
    refine qx_if_lt (tgt := 134) (pc := 113) X dX10_shut_113 (by decide) (fun c4 => ?_) (fun c4 => ?_)
    · have hw := hw.1 c4
      refine qx_bipush (v := 7) (pc := 134) X dX10_shut_134 (by decide) ?_
      refine qx_goto (tgt := 140) (pc := 136) X dX10_shut_136 (by decide) ?_
      exact qx_iret (pc := 140) X hr hlk hw dX10_shut_140
    · have hw := hw.2 c4
      refine qx_iload (pc := 116) X 4 dX10_shut_116 rfl ?_
      refine qx_aload_n (pc := 118) X 0 dX10_shut_118 rfl rfl ?_
      refine qx_getr (f := 30) (i := 0) (a := ad 32 0) (pc := 119) X qx_gRX10_13 qx_me30 rfl dX10_shut_119 ?_
      refine qx_aload_n (pc := 122) X 0 dX10_shut_122 rfl rfl ?_
      refine qx_getr (f := 30) (i := 0) (a := ad 39 0) (pc := 123) X qx_gRX10_35 qx_me30 rfl dX10_shut_123 ?_
      refine qx_iload_n (pc := 126) X 1 dX10_shut_126 rfl rfl ?_
      refine qx_iald (f := 39) (i := 0) (pc := 127) X rfl qx_me39 hw.1 dX10_shut_127 ?_
      have hw := hw.2
      refine qx_iconst (v := 4) (pc := 128) X dX10_shut_128 (by decide) ?_
      refine qx_idiv (pc := 129) X dX10_shut_129 (by decide) ?_
      refine qx_iald (f := 32) (i := 0) (pc := 130) X rfl qx_me32 hw.1 dX10_shut_130 ?_
      have hw := hw.2
      refine qx_icmp_le (tgt := 139) (pc := 131) X dX10_shut_131 (by decide) (fun c3 => ?_) (fun c3 => ?_)
      · have hw := hw.1 c3
        refine qx_iconst (v := 0) (pc := 139) X dX10_shut_139 (by decide) ?_
        exact qx_iret (pc := 140) X hr hlk hw dX10_shut_140
      · have hw := hw.2 c3
        refine qx_bipush (v := 7) (pc := 134) X dX10_shut_134 (by decide) ?_
        refine qx_goto (tgt := 140) (pc := 136) X dX10_shut_136 (by decide) ?_
        exact qx_iret (pc := 140) X hr hlk hw dX10_shut_140
  have L37 : ∀ (n : Nat) (a1 : Int32) (a2 : Int32) (a3 : Int32) (a4 : Int32) (a5 : Int32) (σ : qx_St), wX10_shut_l37 p1 p2 p3 p4 post n a1 a2 a3 a4 a5 σ → qx_V K G 6 0 0 (MQ K.2.2.2.2.2.2.2.1 (va_Qi post (qx_B G (qx_w0 ad)) G.2.2) K.2.2.2.2.2.2.1 K.2.2.2.2.1 0 0 G.2.2) (qx_w0 ad) σ 37 [(0, .ref (ad 30 0)), (1, .int a1), (2, .int a2), (3, .int a3), (4, .int a4), (5, .int a5)] [] := by
    intro n
    induction n with
    | zero => intro a1 a2 a3 a4 a5 σ hw; exact hw.elim
    | succ n ih =>
      intro a1 a2 a3 a4 a5 σ hw
      refine qx_iload (pc := 37) X 5 dX10_shut_37 rfl ?_
      refine qx_aload_n (pc := 39) X 0 dX10_shut_39 rfl rfl ?_
      refine qx_geti (f := 30) (i := 0) (pc := 40) X qx_gRX10_156 qx_me30 dX10_shut_40 ?_
      refine qx_icmp_ge (tgt := 95) (pc := 43) X dX10_shut_43 (by decide) (fun c10 => ?_) (fun c10 => ?_)
      · have hw := hw.1 c10
        refine qx_iload (pc := 95) X 4 dX10_shut_95 rfl ?_
        refine qx_if_eq (tgt := 111) (pc := 97) X dX10_shut_97 (by decide) (fun c6 => ?_) (fun c6 => ?_)
        · have hw := hw.1 c6
          exact J111 a1 a2 a3 a4 a5 σ hw
        · have hw := hw.2 c6
          refine qx_aload_n (pc := 100) X 0 dX10_shut_100 rfl rfl ?_
          refine qx_getr (f := 30) (i := 0) (a := ad 49 0) (pc := 101) X qx_gRX10_65 qx_me30 rfl dX10_shut_101 ?_
          refine qx_iload_n (pc := 104) X 1 dX10_shut_104 rfl rfl ?_
          refine qx_zald (f := 49) (i := 0) (pc := 105) X rfl qx_me49 hw.1 dX10_shut_105 ?_
          have hw := hw.2
          refine qx_if_eq (tgt := 111) (pc := 106) X dX10_shut_106 (by decide) (fun c5 => ?_) (fun c5 => ?_)
          · have hw := hw.1 c5
            exact J111 a1 a2 a3 a4 a5 σ hw
          · have hw := hw.2 c5
            refine qx_iconst (v := 2) (pc := 109) X dX10_shut_109 (by decide) ?_
            exact qx_iret (pc := 110) X hr hlk hw dX10_shut_110
      · have hw := hw.2 c10
        refine qx_aload_n (pc := 46) X 0 dX10_shut_46 rfl rfl ?_
        refine qx_getr (f := 30) (i := 0) (a := ad 35 0) (pc := 47) X qx_gRX10_22 qx_me30 rfl dX10_shut_47 ?_
        refine qx_iconst (v := 4) (pc := 50) X dX10_shut_50 (by decide) ?_
        refine qx_iload_n (pc := 51) X 2 dX10_shut_51 rfl rfl ?_
        refine qx_imul (pc := 52) X dX10_shut_52 ?_
        refine qx_iload_n (pc := 53) X 3 dX10_shut_53 rfl rfl ?_
        refine qx_iadd (pc := 54) X dX10_shut_54 ?_
        refine qx_zald (f := 35) (i := 0) (pc := 55) X rfl qx_me35 hw.1 dX10_shut_55 ?_
        have hw := hw.2
        refine qx_if_eq (tgt := 89) (pc := 56) X dX10_shut_56 (by decide) (fun c9 => ?_) (fun c9 => ?_)
        · have hw := hw.1 c9
          refine qx_iinc (v := (a5 + 1)) (lv' := [(5, .int (a5 + 1)), (0, .ref (ad 30 0)), (1, .int a1), (2, .int a2), (3, .int a3), (4, .int a4)]) (pc := 89) X 5 dX10_shut_89 rfl rfl (by decide) rfl ?_
          refine qx_goto (tgt := 37) (pc := 92) X dX10_shut_92 (by decide) ?_
          refine qx_lsub [1, 2, 3, 4, 5, 0] rfl ?_
          exact ih a1 a2 a3 a4 (a5 + 1) σ hw
        · have hw := hw.2 c9
          refine qx_aload_n (pc := 59) X 0 dX10_shut_59 rfl rfl ?_
          refine qx_getr (f := 30) (i := 0) (a := ad 39 0) (pc := 60) X qx_gRX10_35 qx_me30 rfl dX10_shut_60 ?_
          refine qx_iload (pc := 63) X 5 dX10_shut_63 rfl ?_
          refine qx_iald (f := 39) (i := 0) (pc := 65) X rfl qx_me39 hw.1 dX10_shut_65 ?_
          have hw := hw.2
          refine qx_iconst (v := 4) (pc := 66) X dX10_shut_66 (by decide) ?_
          refine qx_idiv (pc := 67) X dX10_shut_67 (by decide) ?_
          refine qx_iload_n (pc := 68) X 2 dX10_shut_68 rfl rfl ?_
          refine qx_icmp_ne (tgt := 89) (pc := 69) X dX10_shut_69 (by decide) (fun c8 => ?_) (fun c8 => ?_)
          · have hw := hw.2 c8
            refine qx_iinc (v := (a5 + 1)) (lv' := [(5, .int (a5 + 1)), (0, .ref (ad 30 0)), (1, .int a1), (2, .int a2), (3, .int a3), (4, .int a4)]) (pc := 89) X 5 dX10_shut_89 rfl rfl (by decide) rfl ?_
            refine qx_goto (tgt := 37) (pc := 92) X dX10_shut_92 (by decide) ?_
            refine qx_lsub [1, 2, 3, 4, 5, 0] rfl ?_
            exact ih a1 a2 a3 a4 (a5 + 1) σ hw
          · have hw := hw.1 c8
            refine qx_aload_n (pc := 72) X 0 dX10_shut_72 rfl rfl ?_
            refine qx_getr (f := 30) (i := 0) (a := ad 35 0) (pc := 73) X qx_gRX10_22 qx_me30 rfl dX10_shut_73 ?_
            refine qx_aload_n (pc := 76) X 0 dX10_shut_76 rfl rfl ?_
            refine qx_getr (f := 30) (i := 0) (a := ad 39 0) (pc := 77) X qx_gRX10_35 qx_me30 rfl dX10_shut_77 ?_
            refine qx_iload (pc := 80) X 5 dX10_shut_80 rfl ?_
            refine qx_iald (f := 39) (i := 0) (pc := 82) X rfl qx_me39 hw.1 dX10_shut_82 ?_
            have hw := hw.2
            refine qx_zald (f := 35) (i := 0) (pc := 83) X rfl qx_me35 hw.1 dX10_shut_83 ?_
            have hw := hw.2
            refine qx_if_eq (tgt := 89) (pc := 84) X dX10_shut_84 (by decide) (fun c7 => ?_) (fun c7 => ?_)
            · have hw := hw.1 c7
              refine qx_iinc (v := (a5 + 1)) (lv' := [(5, .int (a5 + 1)), (0, .ref (ad 30 0)), (1, .int a1), (2, .int a2), (3, .int a3), (4, .int a4)]) (pc := 89) X 5 dX10_shut_89 rfl rfl (by decide) rfl ?_
              refine qx_goto (tgt := 37) (pc := 92) X dX10_shut_92 (by decide) ?_
              refine qx_lsub [1, 2, 3, 4, 5, 0] rfl ?_
              exact ih a1 a2 a3 a4 (a5 + 1) σ hw
            · have hw := hw.2 c7
              refine qx_iconst (v := 4) (pc := 87) X dX10_shut_87 (by decide) ?_
              exact qx_iret (pc := 88) X hr hlk hw dX10_shut_88
  refine (show qx_V K G 6 0 0 (MQ K.2.2.2.2.2.2.2.1 (va_Qi post (qx_B G (qx_w0 ad)) G.2.2) K.2.2.2.2.2.2.1 K.2.2.2.2.1 0 0 G.2.2) (qx_w0 ad) σ 0 [(0, .ref (ad 30 0)), (1, .int p1), (2, .int p2), (3, .int p3), (4, .int p4)] [] from ?_)
  refine qx_aload_n (pc := 0) X 0 dX10_shut_0 rfl rfl ?_
  refine qx_iload_n (pc := 1) X 2 dX10_shut_1 rfl rfl ?_
  refine qx_callVi (f := 30) (i := 0) (pc := 2) X [.int p2] [] (kX10_noContract K.2.1 G t1 t2 ad p2 σ _ hw) qx_mcX10_noContract qx_lRX10_146 qx_iX10_noContract qx_selX10_noContract qx_me30 qx_rc30 rfl ⟨rfl, rfl⟩ (by rw [hR]; decide) rfl (Nat.le_of_ble_eq_true rfl) dX10_shut_2 ⟨Nat.zero_le _, Nat.zero_le _⟩ (fun r2 s1 hw => ?_)
  refine qx_if_ne (tgt := 21) (pc := 5) X dX10_shut_5 (by decide) (fun c13 => ?_) (fun c13 => ?_)
  · have hw := hw.2 c13
    refine qx_iconst (v := 1) (pc := 21) X dX10_shut_21 (by decide) ?_
    exact qx_iret (pc := 22) X hr hlk hw dX10_shut_22
  · have hw := hw.1 c13
    refine qx_aload_n (pc := 8) X 0 dX10_shut_8 rfl rfl ?_
    refine qx_getr (f := 30) (i := 0) (a := ad 34 0) (pc := 9) X qx_gRX10_19 qx_me30 rfl dX10_shut_9 ?_
    refine qx_iconst (v := 4) (pc := 12) X dX10_shut_12 (by decide) ?_
    refine qx_iload_n (pc := 13) X 2 dX10_shut_13 rfl rfl ?_
    refine qx_imul (pc := 14) X dX10_shut_14 ?_
    refine qx_iload_n (pc := 15) X 3 dX10_shut_15 rfl rfl ?_
    refine qx_iadd (pc := 16) X dX10_shut_16 ?_
    refine qx_iald (f := 34) (i := 0) (pc := 17) X rfl qx_me34 hw.1 dX10_shut_17 ?_
    have hw := hw.2
    refine qx_if_ne (tgt := 23) (pc := 18) X dX10_shut_18 (by decide) (fun c12 => ?_) (fun c12 => ?_)
    · have hw := hw.2 c12
      refine qx_aload_n (pc := 23) X 0 dX10_shut_23 rfl rfl ?_
      refine qx_geti (f := 30) (i := 0) (pc := 24) X qx_gRX10_156 qx_me30 dX10_shut_24 ?_
      refine qx_bipush (v := 8) (pc := 27) X dX10_shut_27 (by decide) ?_
      refine qx_icmp_ne (tgt := 34) (pc := 29) X dX10_shut_29 (by decide) (fun c11 => ?_) (fun c11 => ?_)
      · have hw := hw.2 c11
        refine qx_iconst (v := 0) (pc := 34) X dX10_shut_34 (by decide) ?_
        refine qx_istore (lv' := [(5, .int (0 : Int32)), (0, .ref (ad 30 0)), (1, .int p1), (2, .int p2), (3, .int p3), (4, .int p4)]) (pc := 35) X dX10_shut_35 (by decide) rfl ?_
        refine qx_lsub [1, 2, 3, 4, 5, 0] rfl ?_
        obtain ⟨n, hw⟩ := hw
        exact L37 n p1 p2 p3 p4 (0 : Int32) s1 hw
      · have hw := hw.1 c11
        refine qx_iconst (v := 5) (pc := 32) X dX10_shut_32 (by decide) ?_
        exact qx_iret (pc := 33) X hr hlk hw dX10_shut_33
    · have hw := hw.1 c12
      refine qx_iconst (v := 1) (pc := 21) X dX10_shut_21 (by decide) ?_
      exact qx_iret (pc := 22) X hr hlk hw dX10_shut_22
def wX10_callOut_j79 (p1 : Int32) (p2 : Int32) (p3 : Int32) (p4 : Int32) (post : qx_St → Prop) (a1 : Int32) (a2 : Int32) (a3 : Int32) (a4 : Int32) (a5 : Int32) (a6 : Int32) (a7 : Int32) (a8 : Int32) (b0 : Int32) (σ : qx_St) : Prop := (vp_in a1 8 ∧ (vp_in a1 8 ∧ (((σ 49 0 a1.toNatClampNeg) = 0 → ((a2 = (21 : Int32) → wX10_enter (((4 : Int32) * a3) + a4) a5 a6 ((σ 39 0 a1.toNatClampNeg) / (4 : Int32)) b0 a2 (1 : Int32) σ (fun s20 => post s20)) ∧ (¬ (a2 = (21 : Int32)) → wX10_enter (((4 : Int32) * a3) + a4) a5 a6 ((σ 39 0 a1.toNatClampNeg) / (4 : Int32)) b0 a2 (0 : Int32) σ (fun s18 => post s18)))) ∧ (¬ ((σ 49 0 a1.toNatClampNeg) = 0) → wX10_enter (((4 : Int32) * a3) + a4) a5 a6 ((σ 39 0 a1.toNatClampNeg) / (4 : Int32)) b0 a2 (1 : Int32) σ (fun s16 => post s16)))))
def wX10_callOut_j22 (p1 : Int32) (p2 : Int32) (p3 : Int32) (p4 : Int32) (post : qx_St → Prop) (a1 : Int32) (a2 : Int32) (a3 : Int32) (a4 : Int32) (a5 : Int32) (b0 : Int32) (σ : qx_St) : Prop := wX10_pop a1 σ (fun r6 s5 => wX10_shut a1 a3 a4 b0 s5 (fun r8 s7 => ((r8 = 0 → ((0 ≤ r6 → (vp_in a1 8 ∧ (((s7 43 0 a1.toNatClampNeg) ≤ r6 → (vp_in a1 8 ∧ wX10_callOut_j79 p1 p2 p3 p4 post a1 a2 a3 a4 a5 b0 r6 r8 (s7 43 0 a1.toNatClampNeg) s7)) ∧ (¬ ((s7 43 0 a1.toNatClampNeg) ≤ r6) → wX10_callOut_j79 p1 p2 p3 p4 post a1 a2 a3 a4 a5 b0 r6 r8 r6 s7)))) ∧ (¬ (0 ≤ r6) → wX10_callOut_j79 p1 p2 p3 p4 post a1 a2 a3 a4 a5 b0 r6 r8 (0 : Int32) s7))) ∧ (¬ (r8 = 0) → ((a2 = (20 : Int32) → wX10_push a1 r8 s7 (fun s11 => wX10_push a1 (0 : Int32) s11 (fun s13 => post s13))) ∧ (¬ (a2 = (20 : Int32)) → wX10_ends r8 (0 : Int32) s7 (fun s9 => post s9)))))))
def wX10_callOut (p1 : Int32) (p2 : Int32) (p3 : Int32) (p4 : Int32) (σ : qx_St) (post : qx_St → Prop) : Prop := wX10_pop p1 σ (fun r2 s1 => ((p2 = (21 : Int32) → wX10_callOut_j22 p1 p2 p3 p4 post p1 p2 p3 p4 r2 (0 : Int32) s1) ∧ (¬ (p2 = (21 : Int32)) → wX10_pop p1 s1 (fun r4 s3 => wX10_callOut_j22 p1 p2 p3 p4 post p1 p2 p3 p4 r2 r4 s3))))
set_option maxHeartbeats 4000000 in
set_option maxRecDepth 100000 in
theorem kX10_callOut (l : Launch) (G : qx_Gx) (t1 t2 : Nat) (ad : Nat → Nat → Nat) (p1 : Int32) (p2 : Int32) (p3 : Int32) (p4 : Int32) (σ : qx_St) (post : qx_St → Prop) (hw : wX10_callOut p1 p2 p3 p4 σ post) : qx_Mv l G t1 t2 (qx_w0 ad) yX10_callOut cX10_callOut 10 none { frames := 3, cells := 0, slots := 0, locals := 68 } [.ref (ad 30 0), .int p1, .int p2, .int p3, .int p4] σ post := by
  unfold wX10_callOut at hw
  refine qx_start qx_mcX10_callOut (Nat.le_of_ble_eq_true rfl) (fun K hKl hR X hr hlk => ?_)
  subst hKl
  have J79 : ∀ (a1 : Int32) (a2 : Int32) (a3 : Int32) (a4 : Int32) (a5 : Int32) (a6 : Int32) (a7 : Int32) (a8 : Int32) (b0 : Int32) (σ : qx_St), wX10_callOut_j79 p1 p2 p3 p4 post a1 a2 a3 a4 a5 a6 a7 a8 b0 σ → qx_V K G 10 0 0 (MQ K.2.2.2.2.2.2.2.1 (va_Qv post (qx_B G (qx_w0 ad)) G.2.2) K.2.2.2.2.2.2.1 K.2.2.2.2.1 0 0 G.2.2) (qx_w0 ad) σ 79 [(0, .ref (ad 30 0)), (1, .int a1), (2, .int a2), (3, .int a3), (4, .int a4), (5, .int a5), (6, .int a6), (7, .int a7), (8, .int a8)] [.int b0] := by
    intro a1 a2 a3 a4 a5 a6 a7 a8 b0 σ hw
    unfold wX10_callOut_j79 at hw
    refine qx_istore (lv' := [(9, .int b0), (0, .ref (ad 30 0)), (1, .int a1), (2, .int a2), (3, .int a3), (4, .int a4), (5, .int a5), (6, .int a6), (7, .int a7), (8, .int a8)]) (pc := 79) X dX10_callOut_79 (by decide) rfl ?_
    refine qx_aload_n (pc := 81) X 1 dX10_callOut_81 rfl rfl ?_
    refine qx_iconst (v := 4) (pc := 82) X dX10_callOut_82 (by decide) ?_
    refine qx_iload_n (pc := 83) X 4 dX10_callOut_83 rfl rfl ?_
    refine qx_imul (pc := 84) X dX10_callOut_84 ?_
    refine qx_iload (pc := 85) X 5 dX10_callOut_85 rfl ?_
    refine qx_iadd (pc := 87) X dX10_callOut_87 ?_
    refine qx_iload (pc := 88) X 6 dX10_callOut_88 rfl ?_
    refine qx_iload (pc := 90) X 7 dX10_callOut_90 rfl ?_
    refine qx_aload_n (pc := 92) X 1 dX10_callOut_92 rfl rfl ?_
    refine qx_getr (f := 30) (i := 0) (a := ad 39 0) (pc := 93) X qx_gRX10_35 qx_me30 rfl dX10_callOut_93 ?_
    refine qx_iload_n (pc := 96) X 2 dX10_callOut_96 rfl rfl ?_
    refine qx_iald (f := 39) (i := 0) (pc := 97) X rfl qx_me39 hw.1 dX10_callOut_97 ?_
    have hw := hw.2
    refine qx_iconst (v := 4) (pc := 98) X dX10_callOut_98 (by decide) ?_
    refine qx_idiv (pc := 99) X dX10_callOut_99 (by decide) ?_
    refine qx_iload (pc := 100) X 0 dX10_callOut_100 rfl ?_
    refine qx_iload_n (pc := 102) X 3 dX10_callOut_102 rfl rfl ?_
    refine qx_aload_n (pc := 103) X 1 dX10_callOut_103 rfl rfl ?_
    refine qx_getr (f := 30) (i := 0) (a := ad 49 0) (pc := 104) X qx_gRX10_65 qx_me30 rfl dX10_callOut_104 ?_
    refine qx_iload_n (pc := 107) X 2 dX10_callOut_107 rfl rfl ?_
    refine qx_zald (f := 49) (i := 0) (pc := 108) X rfl qx_me49 hw.1 dX10_callOut_108 ?_
    have hw := hw.2
    refine qx_if_ne (tgt := 118) (pc := 109) X dX10_callOut_109 (by decide) (fun c23 => ?_) (fun c23 => ?_)
    · have hw := hw.2 c23
      refine qx_iconst (v := 1) (pc := 118) X dX10_callOut_118 (by decide) ?_
      refine qx_goto (tgt := 123) (pc := 119) X dX10_callOut_119 (by decide) ?_
      refine qx_callVv (f := 30) (i := 0) (pc := 123) X [.int (((4 : Int32) * a3) + a4), .int a5, .int a6, .int ((σ 39 0 a1.toNatClampNeg) / (4 : Int32)), .int b0, .int a2, .int (1 : Int32)] [] (kX10_enter K.2.1 G t1 t2 ad (((4 : Int32) * a3) + a4) a5 a6 ((σ 39 0 a1.toNatClampNeg) / (4 : Int32)) b0 a2 (1 : Int32) σ _ hw) qx_mcX10_enter qx_lRX10_193 qx_iX10_enter qx_selX10_enter qx_me30 qx_rc30 rfl ⟨rfl, rfl⟩ (by rw [hR]; decide) rfl (Nat.le_of_ble_eq_true rfl) dX10_callOut_123 ⟨Nat.zero_le _, Nat.zero_le _⟩ (fun s16 hw => ?_)
      refine qx_goto (tgt := 158) (pc := 126) X dX10_callOut_126 (by decide) ?_
      exact qx_vret (pc := 158) X hr hlk hw dX10_callOut_158
    · have hw := hw.1 c23
      refine qx_iload_n (pc := 112) X 3 dX10_callOut_112 rfl rfl ?_
      refine qx_bipush (v := 21) (pc := 113) X dX10_callOut_113 (by decide) ?_
      refine qx_icmp_ne (tgt := 122) (pc := 115) X dX10_callOut_115 (by decide) (fun c22 => ?_) (fun c22 => ?_)
      · have hw := hw.2 c22
        refine qx_iconst (v := 0) (pc := 122) X dX10_callOut_122 (by decide) ?_
        refine qx_callVv (f := 30) (i := 0) (pc := 123) X [.int (((4 : Int32) * a3) + a4), .int a5, .int a6, .int ((σ 39 0 a1.toNatClampNeg) / (4 : Int32)), .int b0, .int a2, .int (0 : Int32)] [] (kX10_enter K.2.1 G t1 t2 ad (((4 : Int32) * a3) + a4) a5 a6 ((σ 39 0 a1.toNatClampNeg) / (4 : Int32)) b0 a2 (0 : Int32) σ _ hw) qx_mcX10_enter qx_lRX10_193 qx_iX10_enter qx_selX10_enter qx_me30 qx_rc30 rfl ⟨rfl, rfl⟩ (by rw [hR]; decide) rfl (Nat.le_of_ble_eq_true rfl) dX10_callOut_123 ⟨Nat.zero_le _, Nat.zero_le _⟩ (fun s18 hw => ?_)
        refine qx_goto (tgt := 158) (pc := 126) X dX10_callOut_126 (by decide) ?_
        exact qx_vret (pc := 158) X hr hlk hw dX10_callOut_158
      · have hw := hw.1 c22
        refine qx_iconst (v := 1) (pc := 118) X dX10_callOut_118 (by decide) ?_
        refine qx_goto (tgt := 123) (pc := 119) X dX10_callOut_119 (by decide) ?_
        refine qx_callVv (f := 30) (i := 0) (pc := 123) X [.int (((4 : Int32) * a3) + a4), .int a5, .int a6, .int ((σ 39 0 a1.toNatClampNeg) / (4 : Int32)), .int b0, .int a2, .int (1 : Int32)] [] (kX10_enter K.2.1 G t1 t2 ad (((4 : Int32) * a3) + a4) a5 a6 ((σ 39 0 a1.toNatClampNeg) / (4 : Int32)) b0 a2 (1 : Int32) σ _ hw) qx_mcX10_enter qx_lRX10_193 qx_iX10_enter qx_selX10_enter qx_me30 qx_rc30 rfl ⟨rfl, rfl⟩ (by rw [hR]; decide) rfl (Nat.le_of_ble_eq_true rfl) dX10_callOut_123 ⟨Nat.zero_le _, Nat.zero_le _⟩ (fun s20 hw => ?_)
        refine qx_goto (tgt := 158) (pc := 126) X dX10_callOut_126 (by decide) ?_
        exact qx_vret (pc := 158) X hr hlk hw dX10_callOut_158
  have J22 : ∀ (a1 : Int32) (a2 : Int32) (a3 : Int32) (a4 : Int32) (a5 : Int32) (b0 : Int32) (σ : qx_St), wX10_callOut_j22 p1 p2 p3 p4 post a1 a2 a3 a4 a5 b0 σ → qx_V K G 10 0 0 (MQ K.2.2.2.2.2.2.2.1 (va_Qv post (qx_B G (qx_w0 ad)) G.2.2) K.2.2.2.2.2.2.1 K.2.2.2.2.1 0 0 G.2.2) (qx_w0 ad) σ 22 [(0, .ref (ad 30 0)), (1, .int a1), (2, .int a2), (3, .int a3), (4, .int a4), (5, .int a5)] [.int b0] := by
    intro a1 a2 a3 a4 a5 b0 σ hw
    unfold wX10_callOut_j22 at hw
    refine qx_istore (lv' := [(6, .int b0), (0, .ref (ad 30 0)), (1, .int a1), (2, .int a2), (3, .int a3), (4, .int a4), (5, .int a5)]) (pc := 22) X dX10_callOut_22 (by decide) rfl ?_
    refine qx_aload_n (pc := 24) X 1 dX10_callOut_24 rfl rfl ?_
    refine qx_iload_n (pc := 25) X 2 dX10_callOut_25 rfl rfl ?_
    refine qx_callVi (f := 30) (i := 0) (pc := 26) X [.int a1] [] (kX10_pop K.2.1 G t1 t2 ad a1 σ _ hw) qx_mcX10_pop qx_lRX10_182 qx_iX10_pop qx_selX10_pop qx_me30 qx_rc30 rfl ⟨rfl, rfl⟩ (by rw [hR]; decide) rfl (Nat.le_of_ble_eq_true rfl) dX10_callOut_26 ⟨Nat.zero_le _, Nat.zero_le _⟩ (fun r6 s5 hw => ?_)
    refine qx_istore (lv' := [(7, .int r6), (6, .int b0), (0, .ref (ad 30 0)), (1, .int a1), (2, .int a2), (3, .int a3), (4, .int a4), (5, .int a5)]) (pc := 29) X dX10_callOut_29 (by decide) rfl ?_
    refine qx_aload_n (pc := 31) X 2 dX10_callOut_31 rfl rfl ?_
    refine qx_iload_n (pc := 32) X 3 dX10_callOut_32 rfl rfl ?_
    refine qx_iload_n (pc := 33) X 5 dX10_callOut_33 rfl rfl ?_
    refine qx_iload (pc := 34) X 6 dX10_callOut_34 rfl ?_
    refine qx_iload (pc := 36) X 1 dX10_callOut_36 rfl ?_
    refine qx_callVi (f := 30) (i := 0) (pc := 38) X [.int a1, .int a3, .int a4, .int b0] [] (kX10_shut K.2.1 G t1 t2 ad a1 a3 a4 b0 s5 _ hw) qx_mcX10_shut qx_lRX10_189 qx_iX10_shut qx_selX10_shut qx_me30 qx_rc30 rfl ⟨rfl, rfl⟩ (by rw [hR]; decide) rfl (Nat.le_of_ble_eq_true rfl) dX10_callOut_38 ⟨Nat.zero_le _, Nat.zero_le _⟩ (fun r8 s7 hw => ?_)
    refine qx_istore (lv' := [(8, .int r8), (7, .int r6), (6, .int b0), (0, .ref (ad 30 0)), (1, .int a1), (2, .int a2), (3, .int a3), (4, .int a4), (5, .int a5)]) (pc := 41) X dX10_callOut_41 (by decide) rfl ?_
    refine qx_iload (pc := 43) X 0 dX10_callOut_43 rfl ?_
    refine qx_if_ne (tgt := 129) (pc := 45) X dX10_callOut_45 (by decide) (fun c26 => ?_) (fun c26 => ?_)
    · have hw := hw.2 c26
      refine qx_iload_n (pc := 129) X 5 dX10_callOut_129 rfl rfl ?_
      refine qx_bipush (v := 20) (pc := 130) X dX10_callOut_130 (by decide) ?_
      refine qx_icmp_ne (tgt := 151) (pc := 132) X dX10_callOut_132 (by decide) (fun c15 => ?_) (fun c15 => ?_)
      · have hw := hw.2 c15
        refine qx_aload_n (pc := 151) X 3 dX10_callOut_151 rfl rfl ?_
        refine qx_iload (pc := 152) X 0 dX10_callOut_152 rfl ?_
        refine qx_iconst (v := 0) (pc := 154) X dX10_callOut_154 (by decide) ?_
        refine qx_callVv (f := 30) (i := 0) (pc := 155) X [.int r8, .int (0 : Int32)] [] (kX10_ends K.2.1 G t1 t2 ad r8 (0 : Int32) s7 _ hw) qx_mcX10_ends qx_lRX10_186 qx_iX10_ends qx_selX10_ends qx_me30 qx_rc30 rfl ⟨rfl, rfl⟩ (by rw [hR]; decide) rfl (Nat.le_of_ble_eq_true rfl) dX10_callOut_155 ⟨Nat.zero_le _, Nat.zero_le _⟩ (fun s9 hw => ?_)
        exact qx_vret (pc := 158) X hr hlk hw dX10_callOut_158
      · have hw := hw.1 c15
        refine qx_aload_n (pc := 135) X 3 dX10_callOut_135 rfl rfl ?_
        refine qx_iload_n (pc := 136) X 4 dX10_callOut_136 rfl rfl ?_
        refine qx_iload (pc := 137) X 0 dX10_callOut_137 rfl ?_
        refine qx_callVv (f := 30) (i := 0) (pc := 139) X [.int a1, .int r8] [] (kX10_push K.2.1 G t1 t2 ad a1 r8 s7 _ hw) qx_mcX10_push qx_lRX10_178 qx_iX10_push qx_selX10_push qx_me30 qx_rc30 rfl ⟨rfl, rfl⟩ (by rw [hR]; decide) rfl (Nat.le_of_ble_eq_true rfl) dX10_callOut_139 ⟨Nat.zero_le _, Nat.zero_le _⟩ (fun s11 hw => ?_)
        refine qx_aload_n (pc := 142) X 3 dX10_callOut_142 rfl rfl ?_
        refine qx_iload_n (pc := 143) X 4 dX10_callOut_143 rfl rfl ?_
        refine qx_iconst (v := 0) (pc := 144) X dX10_callOut_144 (by decide) ?_
        refine qx_callVv (f := 30) (i := 0) (pc := 145) X [.int a1, .int (0 : Int32)] [] (kX10_push K.2.1 G t1 t2 ad a1 (0 : Int32) s11 _ hw) qx_mcX10_push qx_lRX10_178 qx_iX10_push qx_selX10_push qx_me30 qx_rc30 rfl ⟨rfl, rfl⟩ (by rw [hR]; decide) rfl (Nat.le_of_ble_eq_true rfl) dX10_callOut_145 ⟨Nat.zero_le _, Nat.zero_le _⟩ (fun s13 hw => ?_)
        refine qx_goto (tgt := 158) (pc := 148) X dX10_callOut_148 (by decide) ?_
        exact qx_vret (pc := 158) X hr hlk hw dX10_callOut_158
    · have hw := hw.1 c26
      refine qx_iload (pc := 48) X 1 dX10_callOut_48 rfl ?_
      refine qx_if_ge (tgt := 57) (pc := 50) X dX10_callOut_50 (by decide) (fun c25 => ?_) (fun c25 => ?_)
      · have hw := hw.1 c25
        refine qx_iload (pc := 57) X 1 dX10_callOut_57 rfl ?_
        refine qx_aload_n (pc := 59) X 3 dX10_callOut_59 rfl rfl ?_
        refine qx_getr (f := 30) (i := 0) (a := ad 43 0) (pc := 60) X qx_gRX10_47 qx_me30 rfl dX10_callOut_60 ?_
        refine qx_iload_n (pc := 63) X 4 dX10_callOut_63 rfl rfl ?_
        refine qx_iald (f := 43) (i := 0) (pc := 64) X rfl qx_me43 hw.1 dX10_callOut_64 ?_
        have hw := hw.2
        refine qx_icmp_ge (tgt := 73) (pc := 65) X dX10_callOut_65 (by decide) (fun c24 => ?_) (fun c24 => ?_)
        · have hw := hw.1 c24
          refine qx_aload_n (pc := 73) X 3 dX10_callOut_73 rfl rfl ?_
          refine qx_getr (f := 30) (i := 0) (a := ad 43 0) (pc := 74) X qx_gRX10_47 qx_me30 rfl dX10_callOut_74 ?_
          refine qx_iload_n (pc := 77) X 4 dX10_callOut_77 rfl rfl ?_
          refine qx_iald (f := 43) (i := 0) (pc := 78) X rfl qx_me43 hw.1 dX10_callOut_78 ?_
          have hw := hw.2
          refine qx_lsub [3, 4, 5, 6, 7, 8, 2, 1, 0] rfl ?_
          exact J79 a1 a2 a3 a4 a5 b0 r6 r8 (s7 43 0 a1.toNatClampNeg) s7 hw
        · have hw := hw.2 c24
          refine qx_iload (pc := 68) X 1 dX10_callOut_68 rfl ?_
          refine qx_goto (tgt := 79) (pc := 70) X dX10_callOut_70 (by decide) ?_
          refine qx_lsub [3, 4, 5, 6, 7, 8, 2, 1, 0] rfl ?_
          exact J79 a1 a2 a3 a4 a5 b0 r6 r8 r6 s7 hw
      · have hw := hw.2 c25
        refine qx_iconst (v := 0) (pc := 53) X dX10_callOut_53 (by decide) ?_
        refine qx_goto (tgt := 79) (pc := 54) X dX10_callOut_54 (by decide) ?_
        refine qx_lsub [3, 4, 5, 6, 7, 8, 2, 1, 0] rfl ?_
        exact J79 a1 a2 a3 a4 a5 b0 r6 r8 (0 : Int32) s7 hw
  refine (show qx_V K G 10 0 0 (MQ K.2.2.2.2.2.2.2.1 (va_Qv post (qx_B G (qx_w0 ad)) G.2.2) K.2.2.2.2.2.2.1 K.2.2.2.2.1 0 0 G.2.2) (qx_w0 ad) σ 0 [(0, .ref (ad 30 0)), (1, .int p1), (2, .int p2), (3, .int p3), (4, .int p4)] [] from ?_)
  refine qx_aload_n (pc := 0) X 0 dX10_callOut_0 rfl rfl ?_
  refine qx_iload_n (pc := 1) X 1 dX10_callOut_1 rfl rfl ?_
  refine qx_callVi (f := 30) (i := 0) (pc := 2) X [.int p1] [] (kX10_pop K.2.1 G t1 t2 ad p1 σ _ hw) qx_mcX10_pop qx_lRX10_182 qx_iX10_pop qx_selX10_pop qx_me30 qx_rc30 rfl ⟨rfl, rfl⟩ (by rw [hR]; decide) rfl (Nat.le_of_ble_eq_true rfl) dX10_callOut_2 ⟨Nat.zero_le _, Nat.zero_le _⟩ (fun r2 s1 hw => ?_)
  refine qx_istore (lv' := [(5, .int r2), (0, .ref (ad 30 0)), (1, .int p1), (2, .int p2), (3, .int p3), (4, .int p4)]) (pc := 5) X dX10_callOut_5 (by decide) rfl ?_
  refine qx_iload_n (pc := 7) X 3 dX10_callOut_7 rfl rfl ?_
  refine qx_bipush (v := 21) (pc := 8) X dX10_callOut_8 (by decide) ?_
  refine qx_icmp_ne (tgt := 17) (pc := 10) X dX10_callOut_10 (by decide) (fun c27 => ?_) (fun c27 => ?_)
  · have hw := hw.2 c27
    refine qx_aload_n (pc := 17) X 1 dX10_callOut_17 rfl rfl ?_
    refine qx_iload_n (pc := 18) X 2 dX10_callOut_18 rfl rfl ?_
    refine qx_callVi (f := 30) (i := 0) (pc := 19) X [.int p1] [] (kX10_pop K.2.1 G t1 t2 ad p1 s1 _ hw) qx_mcX10_pop qx_lRX10_182 qx_iX10_pop qx_selX10_pop qx_me30 qx_rc30 rfl ⟨rfl, rfl⟩ (by rw [hR]; decide) rfl (Nat.le_of_ble_eq_true rfl) dX10_callOut_19 ⟨Nat.zero_le _, Nat.zero_le _⟩ (fun r4 s3 hw => ?_)
    refine qx_lsub [1, 2, 3, 4, 5, 0] rfl ?_
    exact J22 p1 p2 p3 p4 r2 r4 s3 hw
  · have hw := hw.1 c27
    refine qx_iconst (v := 0) (pc := 13) X dX10_callOut_13 (by decide) ?_
    refine qx_goto (tgt := 22) (pc := 14) X dX10_callOut_14 (by decide) ?_
    refine qx_lsub [1, 2, 3, 4, 5, 0] rfl ?_
    exact J22 p1 p2 p3 p4 r2 (0 : Int32) s1 hw
def wX10_act (p1 : Int32) (p2 : Int32) (p3 : Int32) (p4 : Int32) (σ : qx_St) (post : qx_St → Prop) : Prop := (((7 : Int32) ≤ p2 → ((p2 = (7 : Int32) → wX10_save p1 p3 σ (fun s2 => post s2)) ∧ (p2 = (8 : Int32) → wX10_reckon p1 p2 σ (fun s4 => post s4)) ∧ (p2 = (9 : Int32) → wX10_reckon p1 p2 σ (fun s6 => post s6)) ∧ (p2 = (10 : Int32) → wX10_reckon p1 p2 σ (fun s8 => post s8)) ∧ (p2 = (11 : Int32) → wX10_reckon p1 p2 σ (fun s10 => post s10)) ∧ (p2 = (12 : Int32) → wX10_reckon p1 p2 σ (fun s12 => post s12)) ∧ (p2 = (13 : Int32) → wX10_reckon p1 p2 σ (fun s14 => post s14)) ∧ (p2 = (14 : Int32) → (vp_in p1 8 ∧ wX10_pop p1 σ (fun r17 s16 => ((r17 = 0 → (vp_in p1 8 ∧ (∀ s20, s20 = qx_st s16 45 0 p1.toNatClampNeg ((σ 45 0 p1.toNatClampNeg) + p3) → post s20))) ∧ (¬ (r17 = 0) → (vp_in p1 8 ∧ (∀ s18, s18 = qx_st s16 45 0 p1.toNatClampNeg ((σ 45 0 p1.toNatClampNeg) + (0 : Int32)) → post s18))))))) ∧ (p2 = (15 : Int32) → (vp_in p1 8 ∧ wX10_pop p1 σ (fun r24 s23 => ((r24 = 0 → (vp_in p1 8 ∧ (vp_in p1 8 ∧ (∀ s30, s30 = qx_st s23 45 0 p1.toNatClampNeg (s23 45 0 p1.toNatClampNeg) → post s30)))) ∧ (¬ (r24 = 0) → ((0 ≤ (((σ 45 0 p1.toNatClampNeg) - (1 : Int32)) - p3) → (vp_in p1 8 ∧ (∀ s25, s25 = qx_st s23 45 0 p1.toNatClampNeg (((σ 45 0 p1.toNatClampNeg) - (1 : Int32)) - p3) → post s25))) ∧ (¬ (0 ≤ (((σ 45 0 p1.toNatClampNeg) - (1 : Int32)) - p3)) → (vp_in p1 8 ∧ (∀ s27, s27 = qx_st s23 45 0 p1.toNatClampNeg (0 : Int32) → post s27))))))))) ∧ (p2 = (16 : Int32) → (vp_in p1 8 ∧ (vp_in ((((8 : Int32) * p1) + (σ 46 0 p1.toNatClampNeg)) - (1 : Int32)) 64 ∧ wX10_push p1 (σ 50 0 ((((8 : Int32) * p1) + (σ 46 0 p1.toNatClampNeg)) - (1 : Int32)).toNatClampNeg) σ (fun s33 => post s33)))) ∧ (p2 = (17 : Int32) → (vp_in p1 8 ∧ (vp_in p1 8 ∧ (∀ s35, s35 = qx_st σ 46 0 p1.toNatClampNeg ((σ 46 0 p1.toNatClampNeg) - (1 : Int32)) → post s35)))) ∧ (p2 = (18 : Int32) → wX10_reckon p1 p2 σ (fun s37 => post s37)) ∧ (p2 = (19 : Int32) → wX10_callOut p1 p2 p3 p4 σ (fun s39 => post s39)) ∧ (p2 = (20 : Int32) → wX10_callOut p1 p2 p3 p4 σ (fun s41 => post s41)) ∧ (p2 = (21 : Int32) → wX10_callOut p1 p2 p3 p4 σ (fun s43 => post s43)) ∧ (p2 = (22 : Int32) → wX10_tell p1 p3 σ (fun s45 => post s45)) ∧ (p2 = (23 : Int32) → wX10_send p1 p3 σ (fun s47 => post s47)) ∧ (p2 = (24 : Int32) → wX10_pop p1 σ (fun r50 s49 => wX10_ends (0 : Int32) r50 s49 (fun s51 => post s51))) ∧ (p2 = (25 : Int32) → wX10_ends p3 (0 : Int32) σ (fun s53 => post s53)) ∧ ((∀ i : Nat, i < 19 → ¬ p2 = Int32.ofInt (7 + i)) → wX10_reckon p1 p2 σ (fun s55 => post s55)))) ∧ (¬ ((7 : Int32) ≤ p2) → wX10_gives p1 p2 p3 σ (fun r58 s57 => wX10_push p1 r58 s57 (fun s59 => post s59))))
set_option maxHeartbeats 4000000 in
set_option maxRecDepth 100000 in
theorem kX10_act (l : Launch) (G : qx_Gx) (t1 t2 : Nat) (ad : Nat → Nat → Nat) (p1 : Int32) (p2 : Int32) (p3 : Int32) (p4 : Int32) (σ : qx_St) (post : qx_St → Prop) (hw : wX10_act p1 p2 p3 p4 σ post) : qx_Mv l G t1 t2 (qx_w0 ad) yX10_act cX10_act 6 none { frames := 4, cells := 0, slots := 0, locals := 97 } [.ref (ad 30 0), .int p1, .int p2, .int p3, .int p4] σ post := by
  unfold wX10_act at hw
  refine qx_start qx_mcX10_act (Nat.le_of_ble_eq_true rfl) (fun K hKl hR X hr hlk => ?_)
  subst hKl
  refine (show qx_V K G 6 0 0 (MQ K.2.2.2.2.2.2.2.1 (va_Qv post (qx_B G (qx_w0 ad)) G.2.2) K.2.2.2.2.2.2.1 K.2.2.2.2.1 0 0 G.2.2) (qx_w0 ad) σ 0 [(0, .ref (ad 30 0)), (1, .int p1), (2, .int p2), (3, .int p3), (4, .int p4)] [] from ?_)
  refine qx_iload_n (pc := 0) X 2 dX10_act_0 rfl rfl ?_
  refine qx_bipush (v := 7) (pc := 1) X dX10_act_1 (by decide) ?_
  refine qx_icmp_ge (tgt := 19) (pc := 3) X dX10_act_3 (by decide) (fun c61 => ?_) (fun c61 => ?_)
  · have hw := hw.1 c61
    refine qx_iload_n (pc := 19) X 2 dX10_act_19 rfl rfl ?_
    refine qx_switch (pc := 20) X (tgt := 286) (fun i => ([112, 286, 286, 286, 286, 286, 286, 121, 146, 195, 221, 286, 234, 234, 234, 246, 255, 264, 277] : List Nat).getD i 0) dX10_act_20 (by decide) (by decide) (by decide) (by decide) ?_ ?_
    · intro i hi s1
      have hi2 : i < 19 := hi
      rcases (show i = 0 ∨ i = 1 ∨ i = 2 ∨ i = 3 ∨ i = 4 ∨ i = 5 ∨ i = 6 ∨ i = 7 ∨ i = 8 ∨ i = 9 ∨ i = 10 ∨ i = 11 ∨ i = 12 ∨ i = 13 ∨ i = 14 ∨ i = 15 ∨ i = 16 ∨ i = 17 ∨ i = 18 by omega) with rfl | rfl | rfl | rfl | rfl | rfl | rfl | rfl | rfl | rfl | rfl | rfl | rfl | rfl | rfl | rfl | rfl | rfl | rfl
      · have hw := hw.1 (s1.trans (by decide))
        refine qx_aload_n (pc := 112) X 0 dX10_act_112 rfl rfl ?_
        refine qx_iload_n (pc := 113) X 1 dX10_act_113 rfl rfl ?_
        refine qx_iload_n (pc := 114) X 3 dX10_act_114 rfl rfl ?_
        refine qx_callVv (f := 30) (i := 0) (pc := 115) X [.int p1, .int p3] [] (kX10_save K.2.1 G t1 t2 ad p1 p3 σ _ hw) qx_mcX10_save qx_lRX10_201 qx_iX10_save qx_selX10_save qx_me30 qx_rc30 rfl ⟨rfl, rfl⟩ (by rw [hR]; decide) rfl (Nat.le_of_ble_eq_true rfl) dX10_act_115 ⟨Nat.zero_le _, Nat.zero_le _⟩ (fun s2 hw => ?_)
        refine qx_goto (tgt := 292) (pc := 118) X dX10_act_118 (by decide) ?_
        exact qx_vret (pc := 292) X hr hlk hw dX10_act_292
      · have hw := hw.2.1 (s1.trans (by decide))
        refine qx_aload_n (pc := 286) X 0 dX10_act_286 rfl rfl ?_
        refine qx_iload_n (pc := 287) X 1 dX10_act_287 rfl rfl ?_
        refine qx_iload_n (pc := 288) X 2 dX10_act_288 rfl rfl ?_
        refine qx_callVv (f := 30) (i := 0) (pc := 289) X [.int p1, .int p2] [] (kX10_reckon K.2.1 G t1 t2 ad p1 p2 σ _ hw) qx_mcX10_reckon qx_lRX10_214 qx_iX10_reckon qx_selX10_reckon qx_me30 qx_rc30 rfl ⟨rfl, rfl⟩ (by rw [hR]; decide) rfl (Nat.le_of_ble_eq_true rfl) dX10_act_289 ⟨Nat.zero_le _, Nat.zero_le _⟩ (fun s4 hw => ?_)
        exact qx_vret (pc := 292) X hr hlk hw dX10_act_292
      · have hw := hw.2.2.1 (s1.trans (by decide))
        refine qx_aload_n (pc := 286) X 0 dX10_act_286 rfl rfl ?_
        refine qx_iload_n (pc := 287) X 1 dX10_act_287 rfl rfl ?_
        refine qx_iload_n (pc := 288) X 2 dX10_act_288 rfl rfl ?_
        refine qx_callVv (f := 30) (i := 0) (pc := 289) X [.int p1, .int p2] [] (kX10_reckon K.2.1 G t1 t2 ad p1 p2 σ _ hw) qx_mcX10_reckon qx_lRX10_214 qx_iX10_reckon qx_selX10_reckon qx_me30 qx_rc30 rfl ⟨rfl, rfl⟩ (by rw [hR]; decide) rfl (Nat.le_of_ble_eq_true rfl) dX10_act_289 ⟨Nat.zero_le _, Nat.zero_le _⟩ (fun s6 hw => ?_)
        exact qx_vret (pc := 292) X hr hlk hw dX10_act_292
      · have hw := hw.2.2.2.1 (s1.trans (by decide))
        refine qx_aload_n (pc := 286) X 0 dX10_act_286 rfl rfl ?_
        refine qx_iload_n (pc := 287) X 1 dX10_act_287 rfl rfl ?_
        refine qx_iload_n (pc := 288) X 2 dX10_act_288 rfl rfl ?_
        refine qx_callVv (f := 30) (i := 0) (pc := 289) X [.int p1, .int p2] [] (kX10_reckon K.2.1 G t1 t2 ad p1 p2 σ _ hw) qx_mcX10_reckon qx_lRX10_214 qx_iX10_reckon qx_selX10_reckon qx_me30 qx_rc30 rfl ⟨rfl, rfl⟩ (by rw [hR]; decide) rfl (Nat.le_of_ble_eq_true rfl) dX10_act_289 ⟨Nat.zero_le _, Nat.zero_le _⟩ (fun s8 hw => ?_)
        exact qx_vret (pc := 292) X hr hlk hw dX10_act_292
      · have hw := hw.2.2.2.2.1 (s1.trans (by decide))
        refine qx_aload_n (pc := 286) X 0 dX10_act_286 rfl rfl ?_
        refine qx_iload_n (pc := 287) X 1 dX10_act_287 rfl rfl ?_
        refine qx_iload_n (pc := 288) X 2 dX10_act_288 rfl rfl ?_
        refine qx_callVv (f := 30) (i := 0) (pc := 289) X [.int p1, .int p2] [] (kX10_reckon K.2.1 G t1 t2 ad p1 p2 σ _ hw) qx_mcX10_reckon qx_lRX10_214 qx_iX10_reckon qx_selX10_reckon qx_me30 qx_rc30 rfl ⟨rfl, rfl⟩ (by rw [hR]; decide) rfl (Nat.le_of_ble_eq_true rfl) dX10_act_289 ⟨Nat.zero_le _, Nat.zero_le _⟩ (fun s10 hw => ?_)
        exact qx_vret (pc := 292) X hr hlk hw dX10_act_292
      · have hw := hw.2.2.2.2.2.1 (s1.trans (by decide))
        refine qx_aload_n (pc := 286) X 0 dX10_act_286 rfl rfl ?_
        refine qx_iload_n (pc := 287) X 1 dX10_act_287 rfl rfl ?_
        refine qx_iload_n (pc := 288) X 2 dX10_act_288 rfl rfl ?_
        refine qx_callVv (f := 30) (i := 0) (pc := 289) X [.int p1, .int p2] [] (kX10_reckon K.2.1 G t1 t2 ad p1 p2 σ _ hw) qx_mcX10_reckon qx_lRX10_214 qx_iX10_reckon qx_selX10_reckon qx_me30 qx_rc30 rfl ⟨rfl, rfl⟩ (by rw [hR]; decide) rfl (Nat.le_of_ble_eq_true rfl) dX10_act_289 ⟨Nat.zero_le _, Nat.zero_le _⟩ (fun s12 hw => ?_)
        exact qx_vret (pc := 292) X hr hlk hw dX10_act_292
      · have hw := hw.2.2.2.2.2.2.1 (s1.trans (by decide))
        refine qx_aload_n (pc := 286) X 0 dX10_act_286 rfl rfl ?_
        refine qx_iload_n (pc := 287) X 1 dX10_act_287 rfl rfl ?_
        refine qx_iload_n (pc := 288) X 2 dX10_act_288 rfl rfl ?_
        refine qx_callVv (f := 30) (i := 0) (pc := 289) X [.int p1, .int p2] [] (kX10_reckon K.2.1 G t1 t2 ad p1 p2 σ _ hw) qx_mcX10_reckon qx_lRX10_214 qx_iX10_reckon qx_selX10_reckon qx_me30 qx_rc30 rfl ⟨rfl, rfl⟩ (by rw [hR]; decide) rfl (Nat.le_of_ble_eq_true rfl) dX10_act_289 ⟨Nat.zero_le _, Nat.zero_le _⟩ (fun s14 hw => ?_)
        exact qx_vret (pc := 292) X hr hlk hw dX10_act_292
      · have hw := hw.2.2.2.2.2.2.2.1 (s1.trans (by decide))
        refine qx_aload_n (pc := 121) X 0 dX10_act_121 rfl rfl ?_
        refine qx_getr (f := 30) (i := 0) (a := ad 45 0) (pc := 122) X qx_gRX10_53 qx_me30 rfl dX10_act_122 ?_
        refine qx_iload_n (pc := 125) X 1 dX10_act_125 rfl rfl ?_
        refine qx_dup2 (pc := 126) X dX10_act_126 rfl rfl ?_
        refine qx_iald (f := 45) (i := 0) (pc := 127) X rfl qx_me45 hw.1 dX10_act_127 ?_
        have hw := hw.2
        refine qx_aload_n (pc := 128) X 0 dX10_act_128 rfl rfl ?_
        refine qx_iload_n (pc := 129) X 1 dX10_act_129 rfl rfl ?_
        refine qx_callVi (f := 30) (i := 0) (pc := 130) X [.int p1] [.int (σ 45 0 p1.toNatClampNeg), .int p1, .ref (ad 45 0)] (kX10_pop K.2.1 G t1 t2 ad p1 σ _ hw) qx_mcX10_pop qx_lRX10_182 qx_iX10_pop qx_selX10_pop qx_me30 qx_rc30 rfl ⟨rfl, rfl⟩ (by rw [hR]; decide) rfl (Nat.le_of_ble_eq_true rfl) dX10_act_130 ⟨Nat.zero_le _, Nat.zero_le _⟩ (fun r17 s16 hw => ?_)
        refine qx_if_ne (tgt := 140) (pc := 133) X dX10_act_133 (by decide) (fun c22 => ?_) (fun c22 => ?_)
        · have hw := hw.2 c22
          refine qx_iconst (v := 0) (pc := 140) X dX10_act_140 (by decide) ?_
          refine qx_iadd (pc := 141) X dX10_act_141 ?_
          refine qx_iast1 (f := 45) (i := 0) (pc := 142) X rfl qx_me45 hw.1 dX10_act_142 (fun s18 e19 => ?_)
          have hw := hw.2
          have hw := hw s18 e19
          refine qx_goto (tgt := 292) (pc := 143) X dX10_act_143 (by decide) ?_
          exact qx_vret (pc := 292) X hr hlk hw dX10_act_292
        · have hw := hw.1 c22
          refine qx_iload_n (pc := 136) X 3 dX10_act_136 rfl rfl ?_
          refine qx_goto (tgt := 141) (pc := 137) X dX10_act_137 (by decide) ?_
          refine qx_iadd (pc := 141) X dX10_act_141 ?_
          refine qx_iast1 (f := 45) (i := 0) (pc := 142) X rfl qx_me45 hw.1 dX10_act_142 (fun s20 e21 => ?_)
          have hw := hw.2
          have hw := hw s20 e21
          refine qx_goto (tgt := 292) (pc := 143) X dX10_act_143 (by decide) ?_
          exact qx_vret (pc := 292) X hr hlk hw dX10_act_292
      · have hw := hw.2.2.2.2.2.2.2.2.1 (s1.trans (by decide))
        refine qx_aload_n (pc := 146) X 0 dX10_act_146 rfl rfl ?_
        refine qx_getr (f := 30) (i := 0) (a := ad 45 0) (pc := 147) X qx_gRX10_53 qx_me30 rfl dX10_act_147 ?_
        refine qx_iload_n (pc := 150) X 1 dX10_act_150 rfl rfl ?_
        refine qx_iald (f := 45) (i := 0) (pc := 151) X rfl qx_me45 hw.1 dX10_act_151 ?_
        have hw := hw.2
        refine qx_iconst (v := 1) (pc := 152) X dX10_act_152 (by decide) ?_
        refine qx_isub (pc := 153) X dX10_act_153 ?_
        refine qx_iload_n (pc := 154) X 3 dX10_act_154 rfl rfl ?_
        refine qx_isub (pc := 155) X dX10_act_155 ?_
        refine qx_istore (lv' := [(5, .int (((σ 45 0 p1.toNatClampNeg) - (1 : Int32)) - p3)), (0, .ref (ad 30 0)), (1, .int p1), (2, .int p2), (3, .int p3), (4, .int p4)]) (pc := 156) X dX10_act_156 (by decide) rfl ?_
        refine qx_aload_n (pc := 158) X 1 dX10_act_158 rfl rfl ?_
        refine qx_getr (f := 30) (i := 0) (a := ad 45 0) (pc := 159) X qx_gRX10_53 qx_me30 rfl dX10_act_159 ?_
        refine qx_iload_n (pc := 162) X 2 dX10_act_162 rfl rfl ?_
        refine qx_aload_n (pc := 163) X 1 dX10_act_163 rfl rfl ?_
        refine qx_iload_n (pc := 164) X 2 dX10_act_164 rfl rfl ?_
        refine qx_callVi (f := 30) (i := 0) (pc := 165) X [.int p1] [.int p1, .ref (ad 45 0)] (kX10_pop K.2.1 G t1 t2 ad p1 σ _ hw) qx_mcX10_pop qx_lRX10_182 qx_iX10_pop qx_selX10_pop qx_me30 qx_rc30 rfl ⟨rfl, rfl⟩ (by rw [hR]; decide) rfl (Nat.le_of_ble_eq_true rfl) dX10_act_165 ⟨Nat.zero_le _, Nat.zero_le _⟩ (fun r24 s23 hw => ?_)
        refine qx_if_ne (tgt := 180) (pc := 168) X dX10_act_168 (by decide) (fun c32 => ?_) (fun c32 => ?_)
        · have hw := hw.2 c32
          refine qx_iload (pc := 180) X 0 dX10_act_180 rfl ?_
          refine qx_if_ge (tgt := 189) (pc := 182) X dX10_act_182 (by decide) (fun c29 => ?_) (fun c29 => ?_)
          · have hw := hw.1 c29
            refine qx_iload (pc := 189) X 0 dX10_act_189 rfl ?_
            refine qx_iast1 (f := 45) (i := 0) (pc := 191) X rfl qx_me45 hw.1 dX10_act_191 (fun s25 e26 => ?_)
            have hw := hw.2
            have hw := hw s25 e26
            refine qx_goto (tgt := 292) (pc := 192) X dX10_act_192 (by decide) ?_
            exact qx_vret (pc := 292) X hr hlk hw dX10_act_292
          · have hw := hw.2 c29
            refine qx_iconst (v := 0) (pc := 185) X dX10_act_185 (by decide) ?_
            refine qx_goto (tgt := 191) (pc := 186) X dX10_act_186 (by decide) ?_
            refine qx_iast1 (f := 45) (i := 0) (pc := 191) X rfl qx_me45 hw.1 dX10_act_191 (fun s27 e28 => ?_)
            have hw := hw.2
            have hw := hw s27 e28
            refine qx_goto (tgt := 292) (pc := 192) X dX10_act_192 (by decide) ?_
            exact qx_vret (pc := 292) X hr hlk hw dX10_act_292
        · have hw := hw.1 c32
          refine qx_aload_n (pc := 171) X 1 dX10_act_171 rfl rfl ?_
          refine qx_getr (f := 30) (i := 0) (a := ad 45 0) (pc := 172) X qx_gRX10_53 qx_me30 rfl dX10_act_172 ?_
          refine qx_iload_n (pc := 175) X 2 dX10_act_175 rfl rfl ?_
          refine qx_iald (f := 45) (i := 0) (pc := 176) X rfl qx_me45 hw.1 dX10_act_176 ?_
          have hw := hw.2
          refine qx_goto (tgt := 191) (pc := 177) X dX10_act_177 (by decide) ?_
          refine qx_iast1 (f := 45) (i := 0) (pc := 191) X rfl qx_me45 hw.1 dX10_act_191 (fun s30 e31 => ?_)
          have hw := hw.2
          have hw := hw s30 e31
          refine qx_goto (tgt := 292) (pc := 192) X dX10_act_192 (by decide) ?_
          exact qx_vret (pc := 292) X hr hlk hw dX10_act_292
      · have hw := hw.2.2.2.2.2.2.2.2.2.1 (s1.trans (by decide))
        refine qx_aload_n (pc := 195) X 0 dX10_act_195 rfl rfl ?_
        refine qx_iload_n (pc := 196) X 1 dX10_act_196 rfl rfl ?_
        refine qx_aload_n (pc := 197) X 0 dX10_act_197 rfl rfl ?_
        refine qx_getr (f := 30) (i := 0) (a := ad 50 0) (pc := 198) X qx_gRX10_68 qx_me30 rfl dX10_act_198 ?_
        refine qx_bipush (v := 8) (pc := 201) X dX10_act_201 (by decide) ?_
        refine qx_iload_n (pc := 203) X 1 dX10_act_203 rfl rfl ?_
        refine qx_imul (pc := 204) X dX10_act_204 ?_
        refine qx_aload_n (pc := 205) X 0 dX10_act_205 rfl rfl ?_
        refine qx_getr (f := 30) (i := 0) (a := ad 46 0) (pc := 206) X qx_gRX10_56 qx_me30 rfl dX10_act_206 ?_
        refine qx_iload_n (pc := 209) X 1 dX10_act_209 rfl rfl ?_
        refine qx_iald (f := 46) (i := 0) (pc := 210) X rfl qx_me46 hw.1 dX10_act_210 ?_
        have hw := hw.2
        refine qx_iadd (pc := 211) X dX10_act_211 ?_
        refine qx_iconst (v := 1) (pc := 212) X dX10_act_212 (by decide) ?_
        refine qx_isub (pc := 213) X dX10_act_213 ?_
        refine qx_iald (f := 50) (i := 0) (pc := 214) X rfl qx_me50 hw.1 dX10_act_214 ?_
        have hw := hw.2
        refine qx_callVv (f := 30) (i := 0) (pc := 215) X [.int p1, .int (σ 50 0 ((((8 : Int32) * p1) + (σ 46 0 p1.toNatClampNeg)) - (1 : Int32)).toNatClampNeg)] [] (kX10_push K.2.1 G t1 t2 ad p1 (σ 50 0 ((((8 : Int32) * p1) + (σ 46 0 p1.toNatClampNeg)) - (1 : Int32)).toNatClampNeg) σ _ hw) qx_mcX10_push qx_lRX10_178 qx_iX10_push qx_selX10_push qx_me30 qx_rc30 rfl ⟨rfl, rfl⟩ (by rw [hR]; decide) rfl (Nat.le_of_ble_eq_true rfl) dX10_act_215 ⟨Nat.zero_le _, Nat.zero_le _⟩ (fun s33 hw => ?_)
        refine qx_goto (tgt := 292) (pc := 218) X dX10_act_218 (by decide) ?_
        exact qx_vret (pc := 292) X hr hlk hw dX10_act_292
      · have hw := hw.2.2.2.2.2.2.2.2.2.2.1 (s1.trans (by decide))
        refine qx_aload_n (pc := 221) X 0 dX10_act_221 rfl rfl ?_
        refine qx_getr (f := 30) (i := 0) (a := ad 46 0) (pc := 222) X qx_gRX10_56 qx_me30 rfl dX10_act_222 ?_
        refine qx_iload_n (pc := 225) X 1 dX10_act_225 rfl rfl ?_
        refine qx_dup2 (pc := 226) X dX10_act_226 rfl rfl ?_
        refine qx_iald (f := 46) (i := 0) (pc := 227) X rfl qx_me46 hw.1 dX10_act_227 ?_
        have hw := hw.2
        refine qx_iconst (v := 1) (pc := 228) X dX10_act_228 (by decide) ?_
        refine qx_isub (pc := 229) X dX10_act_229 ?_
        refine qx_iast1 (f := 46) (i := 0) (pc := 230) X rfl qx_me46 hw.1 dX10_act_230 (fun s35 e36 => ?_)
        have hw := hw.2
        have hw := hw s35 e36
        refine qx_goto (tgt := 292) (pc := 231) X dX10_act_231 (by decide) ?_
        exact qx_vret (pc := 292) X hr hlk hw dX10_act_292
      · have hw := hw.2.2.2.2.2.2.2.2.2.2.2.1 (s1.trans (by decide))
        refine qx_aload_n (pc := 286) X 0 dX10_act_286 rfl rfl ?_
        refine qx_iload_n (pc := 287) X 1 dX10_act_287 rfl rfl ?_
        refine qx_iload_n (pc := 288) X 2 dX10_act_288 rfl rfl ?_
        refine qx_callVv (f := 30) (i := 0) (pc := 289) X [.int p1, .int p2] [] (kX10_reckon K.2.1 G t1 t2 ad p1 p2 σ _ hw) qx_mcX10_reckon qx_lRX10_214 qx_iX10_reckon qx_selX10_reckon qx_me30 qx_rc30 rfl ⟨rfl, rfl⟩ (by rw [hR]; decide) rfl (Nat.le_of_ble_eq_true rfl) dX10_act_289 ⟨Nat.zero_le _, Nat.zero_le _⟩ (fun s37 hw => ?_)
        exact qx_vret (pc := 292) X hr hlk hw dX10_act_292
      · have hw := hw.2.2.2.2.2.2.2.2.2.2.2.2.1 (s1.trans (by decide))
        refine qx_aload_n (pc := 234) X 0 dX10_act_234 rfl rfl ?_
        refine qx_iload_n (pc := 235) X 1 dX10_act_235 rfl rfl ?_
        refine qx_iload_n (pc := 236) X 2 dX10_act_236 rfl rfl ?_
        refine qx_iload_n (pc := 237) X 3 dX10_act_237 rfl rfl ?_
        refine qx_iload (pc := 238) X 4 dX10_act_238 rfl ?_
        refine qx_callVv (f := 30) (i := 0) (pc := 240) X [.int p1, .int p2, .int p3, .int p4] [] (kX10_callOut K.2.1 G t1 t2 ad p1 p2 p3 p4 σ _ hw) qx_mcX10_callOut qx_lRX10_204 qx_iX10_callOut qx_selX10_callOut qx_me30 qx_rc30 rfl ⟨rfl, rfl⟩ (by rw [hR]; decide) rfl (Nat.le_of_ble_eq_true rfl) dX10_act_240 ⟨Nat.zero_le _, Nat.zero_le _⟩ (fun s39 hw => ?_)
        refine qx_goto (tgt := 292) (pc := 243) X dX10_act_243 (by decide) ?_
        exact qx_vret (pc := 292) X hr hlk hw dX10_act_292
      · have hw := hw.2.2.2.2.2.2.2.2.2.2.2.2.2.1 (s1.trans (by decide))
        refine qx_aload_n (pc := 234) X 0 dX10_act_234 rfl rfl ?_
        refine qx_iload_n (pc := 235) X 1 dX10_act_235 rfl rfl ?_
        refine qx_iload_n (pc := 236) X 2 dX10_act_236 rfl rfl ?_
        refine qx_iload_n (pc := 237) X 3 dX10_act_237 rfl rfl ?_
        refine qx_iload (pc := 238) X 4 dX10_act_238 rfl ?_
        refine qx_callVv (f := 30) (i := 0) (pc := 240) X [.int p1, .int p2, .int p3, .int p4] [] (kX10_callOut K.2.1 G t1 t2 ad p1 p2 p3 p4 σ _ hw) qx_mcX10_callOut qx_lRX10_204 qx_iX10_callOut qx_selX10_callOut qx_me30 qx_rc30 rfl ⟨rfl, rfl⟩ (by rw [hR]; decide) rfl (Nat.le_of_ble_eq_true rfl) dX10_act_240 ⟨Nat.zero_le _, Nat.zero_le _⟩ (fun s41 hw => ?_)
        refine qx_goto (tgt := 292) (pc := 243) X dX10_act_243 (by decide) ?_
        exact qx_vret (pc := 292) X hr hlk hw dX10_act_292
      · have hw := hw.2.2.2.2.2.2.2.2.2.2.2.2.2.2.1 (s1.trans (by decide))
        refine qx_aload_n (pc := 234) X 0 dX10_act_234 rfl rfl ?_
        refine qx_iload_n (pc := 235) X 1 dX10_act_235 rfl rfl ?_
        refine qx_iload_n (pc := 236) X 2 dX10_act_236 rfl rfl ?_
        refine qx_iload_n (pc := 237) X 3 dX10_act_237 rfl rfl ?_
        refine qx_iload (pc := 238) X 4 dX10_act_238 rfl ?_
        refine qx_callVv (f := 30) (i := 0) (pc := 240) X [.int p1, .int p2, .int p3, .int p4] [] (kX10_callOut K.2.1 G t1 t2 ad p1 p2 p3 p4 σ _ hw) qx_mcX10_callOut qx_lRX10_204 qx_iX10_callOut qx_selX10_callOut qx_me30 qx_rc30 rfl ⟨rfl, rfl⟩ (by rw [hR]; decide) rfl (Nat.le_of_ble_eq_true rfl) dX10_act_240 ⟨Nat.zero_le _, Nat.zero_le _⟩ (fun s43 hw => ?_)
        refine qx_goto (tgt := 292) (pc := 243) X dX10_act_243 (by decide) ?_
        exact qx_vret (pc := 292) X hr hlk hw dX10_act_292
      · have hw := hw.2.2.2.2.2.2.2.2.2.2.2.2.2.2.2.1 (s1.trans (by decide))
        refine qx_aload_n (pc := 246) X 0 dX10_act_246 rfl rfl ?_
        refine qx_iload_n (pc := 247) X 1 dX10_act_247 rfl rfl ?_
        refine qx_iload_n (pc := 248) X 3 dX10_act_248 rfl rfl ?_
        refine qx_callVv (f := 30) (i := 0) (pc := 249) X [.int p1, .int p3] [] (kX10_tell K.2.1 G t1 t2 ad p1 p3 σ _ hw) qx_mcX10_tell qx_lRX10_208 qx_iX10_tell qx_selX10_tell qx_me30 qx_rc30 rfl ⟨rfl, rfl⟩ (by rw [hR]; decide) rfl (Nat.le_of_ble_eq_true rfl) dX10_act_249 ⟨Nat.zero_le _, Nat.zero_le _⟩ (fun s45 hw => ?_)
        refine qx_goto (tgt := 292) (pc := 252) X dX10_act_252 (by decide) ?_
        exact qx_vret (pc := 292) X hr hlk hw dX10_act_292
      · have hw := hw.2.2.2.2.2.2.2.2.2.2.2.2.2.2.2.2.1 (s1.trans (by decide))
        refine qx_aload_n (pc := 255) X 0 dX10_act_255 rfl rfl ?_
        refine qx_iload_n (pc := 256) X 1 dX10_act_256 rfl rfl ?_
        refine qx_iload_n (pc := 257) X 3 dX10_act_257 rfl rfl ?_
        refine qx_callVv (f := 30) (i := 0) (pc := 258) X [.int p1, .int p3] [] (kX10_send K.2.1 G t1 t2 ad p1 p3 σ _ hw) qx_mcX10_send qx_lRX10_211 qx_iX10_send qx_selX10_send qx_me30 qx_rc30 rfl ⟨rfl, rfl⟩ (by rw [hR]; decide) rfl (Nat.le_of_ble_eq_true rfl) dX10_act_258 ⟨Nat.zero_le _, Nat.zero_le _⟩ (fun s47 hw => ?_)
        refine qx_goto (tgt := 292) (pc := 261) X dX10_act_261 (by decide) ?_
        exact qx_vret (pc := 292) X hr hlk hw dX10_act_292
      · have hw := hw.2.2.2.2.2.2.2.2.2.2.2.2.2.2.2.2.2.1 (s1.trans (by decide))
        refine qx_aload_n (pc := 264) X 0 dX10_act_264 rfl rfl ?_
        refine qx_iconst (v := 0) (pc := 265) X dX10_act_265 (by decide) ?_
        refine qx_aload_n (pc := 266) X 0 dX10_act_266 rfl rfl ?_
        refine qx_iload_n (pc := 267) X 1 dX10_act_267 rfl rfl ?_
        refine qx_callVi (f := 30) (i := 0) (pc := 268) X [.int p1] [.int (0 : Int32), .ref (ad 30 0)] (kX10_pop K.2.1 G t1 t2 ad p1 σ _ hw) qx_mcX10_pop qx_lRX10_182 qx_iX10_pop qx_selX10_pop qx_me30 qx_rc30 rfl ⟨rfl, rfl⟩ (by rw [hR]; decide) rfl (Nat.le_of_ble_eq_true rfl) dX10_act_268 ⟨Nat.zero_le _, Nat.zero_le _⟩ (fun r50 s49 hw => ?_)
        refine qx_callVv (f := 30) (i := 0) (pc := 271) X [.int (0 : Int32), .int r50] [] (kX10_ends K.2.1 G t1 t2 ad (0 : Int32) r50 s49 _ hw) qx_mcX10_ends qx_lRX10_186 qx_iX10_ends qx_selX10_ends qx_me30 qx_rc30 rfl ⟨rfl, rfl⟩ (by rw [hR]; decide) rfl (Nat.le_of_ble_eq_true rfl) dX10_act_271 ⟨Nat.zero_le _, Nat.zero_le _⟩ (fun s51 hw => ?_)
        refine qx_goto (tgt := 292) (pc := 274) X dX10_act_274 (by decide) ?_
        exact qx_vret (pc := 292) X hr hlk hw dX10_act_292
      · have hw := hw.2.2.2.2.2.2.2.2.2.2.2.2.2.2.2.2.2.2.1 (s1.trans (by decide))
        refine qx_aload_n (pc := 277) X 0 dX10_act_277 rfl rfl ?_
        refine qx_iload_n (pc := 278) X 3 dX10_act_278 rfl rfl ?_
        refine qx_iconst (v := 0) (pc := 279) X dX10_act_279 (by decide) ?_
        refine qx_callVv (f := 30) (i := 0) (pc := 280) X [.int p3, .int (0 : Int32)] [] (kX10_ends K.2.1 G t1 t2 ad p3 (0 : Int32) σ _ hw) qx_mcX10_ends qx_lRX10_186 qx_iX10_ends qx_selX10_ends qx_me30 qx_rc30 rfl ⟨rfl, rfl⟩ (by rw [hR]; decide) rfl (Nat.le_of_ble_eq_true rfl) dX10_act_280 ⟨Nat.zero_le _, Nat.zero_le _⟩ (fun s53 hw => ?_)
        refine qx_goto (tgt := 292) (pc := 283) X dX10_act_283 (by decide) ?_
        exact qx_vret (pc := 292) X hr hlk hw dX10_act_292
    · intro s1
      have hw := hw.2.2.2.2.2.2.2.2.2.2.2.2.2.2.2.2.2.2.2 s1
      refine qx_aload_n (pc := 286) X 0 dX10_act_286 rfl rfl ?_
      refine qx_iload_n (pc := 287) X 1 dX10_act_287 rfl rfl ?_
      refine qx_iload_n (pc := 288) X 2 dX10_act_288 rfl rfl ?_
      refine qx_callVv (f := 30) (i := 0) (pc := 289) X [.int p1, .int p2] [] (kX10_reckon K.2.1 G t1 t2 ad p1 p2 σ _ hw) qx_mcX10_reckon qx_lRX10_214 qx_iX10_reckon qx_selX10_reckon qx_me30 qx_rc30 rfl ⟨rfl, rfl⟩ (by rw [hR]; decide) rfl (Nat.le_of_ble_eq_true rfl) dX10_act_289 ⟨Nat.zero_le _, Nat.zero_le _⟩ (fun s55 hw => ?_)
      exact qx_vret (pc := 292) X hr hlk hw dX10_act_292
  · have hw := hw.2 c61
    refine qx_aload_n (pc := 6) X 0 dX10_act_6 rfl rfl ?_
    refine qx_iload_n (pc := 7) X 1 dX10_act_7 rfl rfl ?_
    refine qx_aload_n (pc := 8) X 0 dX10_act_8 rfl rfl ?_
    refine qx_iload_n (pc := 9) X 1 dX10_act_9 rfl rfl ?_
    refine qx_iload_n (pc := 10) X 2 dX10_act_10 rfl rfl ?_
    refine qx_iload_n (pc := 11) X 3 dX10_act_11 rfl rfl ?_
    refine qx_callVi (f := 30) (i := 0) (pc := 12) X [.int p1, .int p2, .int p3] [.int p1, .ref (ad 30 0)] (kX10_gives K.2.1 G t1 t2 ad p1 p2 p3 σ _ hw) qx_mcX10_gives qx_lRX10_197 qx_iX10_gives qx_selX10_gives qx_me30 qx_rc30 rfl ⟨rfl, rfl⟩ (by rw [hR]; decide) rfl (Nat.le_of_ble_eq_true rfl) dX10_act_12 ⟨Nat.zero_le _, Nat.zero_le _⟩ (fun r58 s57 hw => ?_)
    refine qx_callVv (f := 30) (i := 0) (pc := 15) X [.int p1, .int r58] [] (kX10_push K.2.1 G t1 t2 ad p1 r58 s57 _ hw) qx_mcX10_push qx_lRX10_178 qx_iX10_push qx_selX10_push qx_me30 qx_rc30 rfl ⟨rfl, rfl⟩ (by rw [hR]; decide) rfl (Nat.le_of_ble_eq_true rfl) dX10_act_15 ⟨Nat.zero_le _, Nat.zero_le _⟩ (fun s59 hw => ?_)
    exact qx_vret (pc := 18) X hr hlk hw dX10_act_18
def wX10_oneStep (σ : qx_St) (post : qx_St → Prop) : Prop := (vp_in ((σ 30 0 12) - (1 : Int32)) 8 ∧ (vp_in ((σ 30 0 12) - (1 : Int32)) 8 ∧ (vp_in (σ 39 0 ((σ 30 0 12) - (1 : Int32)).toNatClampNeg) 32 ∧ (((σ 45 0 ((σ 30 0 12) - (1 : Int32)).toNatClampNeg) < (σ 34 0 (σ 39 0 ((σ 30 0 12) - (1 : Int32)).toNatClampNeg).toNatClampNeg) → (vp_in ((σ 30 0 12) - (1 : Int32)) 8 ∧ (((σ 43 0 ((σ 30 0 12) - (1 : Int32)).toNatClampNeg) = 0 → wX10_ends (6 : Int32) (0 : Int32) σ (fun s33 => post s33)) ∧ (¬ ((σ 43 0 ((σ 30 0 12) - (1 : Int32)).toNatClampNeg) = 0) → (vp_in ((σ 30 0 12) - (1 : Int32)) 8 ∧ (vp_in ((σ 30 0 12) - (1 : Int32)) 8 ∧ (∀ s1, s1 = qx_st σ 43 0 ((σ 30 0 12) - (1 : Int32)).toNatClampNeg ((σ 43 0 ((σ 30 0 12) - (1 : Int32)).toNatClampNeg) - (1 : Int32)) → (vp_in ((σ 30 0 12) - (1 : Int32)) 8 ∧ (vp_in ((σ 30 0 12) - (1 : Int32)) 8 ∧ (∀ s3, s3 = qx_st s1 44 0 ((σ 30 0 12) - (1 : Int32)).toNatClampNeg ((s1 44 0 ((σ 30 0 12) - (1 : Int32)).toNatClampNeg) + (1 : Int32)) → (vp_in ((σ 30 0 12) - (1 : Int32)) 8 ∧ (vp_in ((σ 30 0 12) - (1 : Int32)) 8 ∧ (vp_in ((σ 30 0 12) - (1 : Int32)) 8 ∧ (∀ s5, s5 = qx_st s3 45 0 ((σ 30 0 12) - (1 : Int32)).toNatClampNeg ((s3 45 0 ((σ 30 0 12) - (1 : Int32)).toNatClampNeg) + (1 : Int32)) → (vp_in (((20 : Int32) * (σ 39 0 ((σ 30 0 12) - (1 : Int32)).toNatClampNeg)) + (s3 45 0 ((σ 30 0 12) - (1 : Int32)).toNatClampNeg)) 640 ∧ (vp_in ((σ 30 0 12) - (1 : Int32)) 8 ∧ wX10_takes (s5 36 0 (((20 : Int32) * (σ 39 0 ((σ 30 0 12) - (1 : Int32)).toNatClampNeg)) + (s3 45 0 ((σ 30 0 12) - (1 : Int32)).toNatClampNeg)).toNatClampNeg) s5 (fun r8 s7 => (((s5 46 0 ((σ 30 0 12) - (1 : Int32)).toNatClampNeg) < r8 → wX10_ends (8 : Int32) (0 : Int32) s7 (fun s9 => post s9)) ∧ (¬ ((s5 46 0 ((σ 30 0 12) - (1 : Int32)).toNatClampNeg) < r8) → (vp_in ((σ 30 0 12) - (1 : Int32)) 8 ∧ wX10_takes (s5 36 0 (((20 : Int32) * (σ 39 0 ((σ 30 0 12) - (1 : Int32)).toNatClampNeg)) + (s3 45 0 ((σ 30 0 12) - (1 : Int32)).toNatClampNeg)).toNatClampNeg) s7 (fun r12 s11 => wX10_leaves (s5 36 0 (((20 : Int32) * (σ 39 0 ((σ 30 0 12) - (1 : Int32)).toNatClampNeg)) + (s3 45 0 ((σ 30 0 12) - (1 : Int32)).toNatClampNeg)).toNatClampNeg) s11 (fun r14 s13 => (((((s7 46 0 ((σ 30 0 12) - (1 : Int32)).toNatClampNeg) - r12) + r14) ≤ (8 : Int32) → (vp_in ((σ 30 0 12) - (1 : Int32)) 8 ∧ (((s13 49 0 ((σ 30 0 12) - (1 : Int32)).toNatClampNeg) = 0 → (vp_in (((20 : Int32) * (σ 39 0 ((σ 30 0 12) - (1 : Int32)).toNatClampNeg)) + (s3 45 0 ((σ 30 0 12) - (1 : Int32)).toNatClampNeg)) 640 ∧ (vp_in (((20 : Int32) * (σ 39 0 ((σ 30 0 12) - (1 : Int32)).toNatClampNeg)) + (s3 45 0 ((σ 30 0 12) - (1 : Int32)).toNatClampNeg)) 640 ∧ wX10_act ((σ 30 0 12) - (1 : Int32)) (s5 36 0 (((20 : Int32) * (σ 39 0 ((σ 30 0 12) - (1 : Int32)).toNatClampNeg)) + (s3 45 0 ((σ 30 0 12) - (1 : Int32)).toNatClampNeg)).toNatClampNeg) (s13 37 0 (((20 : Int32) * (σ 39 0 ((σ 30 0 12) - (1 : Int32)).toNatClampNeg)) + (s3 45 0 ((σ 30 0 12) - (1 : Int32)).toNatClampNeg)).toNatClampNeg) (s13 38 0 (((20 : Int32) * (σ 39 0 ((σ 30 0 12) - (1 : Int32)).toNatClampNeg)) + (s3 45 0 ((σ 30 0 12) - (1 : Int32)).toNatClampNeg)).toNatClampNeg) s13 (fun s15 => post s15)))) ∧ (¬ ((s13 49 0 ((σ 30 0 12) - (1 : Int32)).toNatClampNeg) = 0) → (((s5 36 0 (((20 : Int32) * (σ 39 0 ((σ 30 0 12) - (1 : Int32)).toNatClampNeg)) + (s3 45 0 ((σ 30 0 12) - (1 : Int32)).toNatClampNeg)).toNatClampNeg) = (7 : Int32) → wX10_ends (2 : Int32) (0 : Int32) s13 (fun s17 => post s17)) ∧ (¬ ((s5 36 0 (((20 : Int32) * (σ 39 0 ((σ 30 0 12) - (1 : Int32)).toNatClampNeg)) + (s3 45 0 ((σ 30 0 12) - (1 : Int32)).toNatClampNeg)).toNatClampNeg) = (7 : Int32)) → (((s5 36 0 (((20 : Int32) * (σ 39 0 ((σ 30 0 12) - (1 : Int32)).toNatClampNeg)) + (s3 45 0 ((σ 30 0 12) - (1 : Int32)).toNatClampNeg)).toNatClampNeg) = (22 : Int32) → wX10_ends (2 : Int32) (0 : Int32) s13 (fun s19 => post s19)) ∧ (¬ ((s5 36 0 (((20 : Int32) * (σ 39 0 ((σ 30 0 12) - (1 : Int32)).toNatClampNeg)) + (s3 45 0 ((σ 30 0 12) - (1 : Int32)).toNatClampNeg)).toNatClampNeg) = (22 : Int32)) → (((s5 36 0 (((20 : Int32) * (σ 39 0 ((σ 30 0 12) - (1 : Int32)).toNatClampNeg)) + (s3 45 0 ((σ 30 0 12) - (1 : Int32)).toNatClampNeg)).toNatClampNeg) = (23 : Int32) → wX10_ends (2 : Int32) (0 : Int32) s13 (fun s23 => post s23)) ∧ (¬ ((s5 36 0 (((20 : Int32) * (σ 39 0 ((σ 30 0 12) - (1 : Int32)).toNatClampNeg)) + (s3 45 0 ((σ 30 0 12) - (1 : Int32)).toNatClampNeg)).toNatClampNeg) = (23 : Int32)) → (vp_in (((20 : Int32) * (σ 39 0 ((σ 30 0 12) - (1 : Int32)).toNatClampNeg)) + (s3 45 0 ((σ 30 0 12) - (1 : Int32)).toNatClampNeg)) 640 ∧ (vp_in (((20 : Int32) * (σ 39 0 ((σ 30 0 12) - (1 : Int32)).toNatClampNeg)) + (s3 45 0 ((σ 30 0 12) - (1 : Int32)).toNatClampNeg)) 640 ∧ wX10_act ((σ 30 0 12) - (1 : Int32)) (s5 36 0 (((20 : Int32) * (σ 39 0 ((σ 30 0 12) - (1 : Int32)).toNatClampNeg)) + (s3 45 0 ((σ 30 0 12) - (1 : Int32)).toNatClampNeg)).toNatClampNeg) (s13 37 0 (((20 : Int32) * (σ 39 0 ((σ 30 0 12) - (1 : Int32)).toNatClampNeg)) + (s3 45 0 ((σ 30 0 12) - (1 : Int32)).toNatClampNeg)).toNatClampNeg) (s13 38 0 (((20 : Int32) * (σ 39 0 ((σ 30 0 12) - (1 : Int32)).toNatClampNeg)) + (s3 45 0 ((σ 30 0 12) - (1 : Int32)).toNatClampNeg)).toNatClampNeg) s13 (fun s21 => post s21))))))))))))) ∧ (¬ ((((s7 46 0 ((σ 30 0 12) - (1 : Int32)).toNatClampNeg) - r12) + r14) ≤ (8 : Int32)) → wX10_ends (8 : Int32) (0 : Int32) s13 (fun s29 => post s29))))))))))))))))))))))))) ∧ (¬ ((σ 45 0 ((σ 30 0 12) - (1 : Int32)).toNatClampNeg) < (σ 34 0 (σ 39 0 ((σ 30 0 12) - (1 : Int32)).toNatClampNeg).toNatClampNeg)) → wX10_ends (0 : Int32) (0 : Int32) σ (fun s36 => post s36))))))
set_option maxHeartbeats 4000000 in
set_option maxRecDepth 100000 in
theorem kX10_oneStep (l : Launch) (G : qx_Gx) (t1 t2 : Nat) (ad : Nat → Nat → Nat) (σ : qx_St) (post : qx_St → Prop) (hw : wX10_oneStep  σ post) : qx_Mv l G t1 t2 (qx_w0 ad) yX10_oneStep cX10_oneStep 5 none { frames := 5, cells := 0, slots := 0, locals := 122 } [.ref (ad 30 0)] σ post := by
  unfold wX10_oneStep at hw
  refine qx_start qx_mcX10_oneStep (Nat.le_of_ble_eq_true rfl) (fun K hKl hR X hr hlk => ?_)
  subst hKl
  refine (show qx_V K G 5 0 0 (MQ K.2.2.2.2.2.2.2.1 (va_Qv post (qx_B G (qx_w0 ad)) G.2.2) K.2.2.2.2.2.2.1 K.2.2.2.2.1 0 0 G.2.2) (qx_w0 ad) σ 0 [(0, .ref (ad 30 0))] [] from ?_)
  refine qx_aload_n (pc := 0) X 0 dX10_oneStep_0 rfl rfl ?_
  refine qx_geti (f := 30) (i := 0) (pc := 1) X qx_gRX10_156 qx_me30 dX10_oneStep_1 ?_
  refine qx_iconst (v := 1) (pc := 4) X dX10_oneStep_4 (by decide) ?_
  refine qx_isub (pc := 5) X dX10_oneStep_5 ?_
  refine qx_istore_n (lv' := [(1, .int ((σ 30 0 12) - (1 : Int32))), (0, .ref (ad 30 0))]) (pc := 6) X dX10_oneStep_6 rfl (by decide) rfl ?_
  refine qx_aload_n (pc := 7) X 1 dX10_oneStep_7 rfl rfl ?_
  refine qx_getr (f := 30) (i := 0) (a := ad 39 0) (pc := 8) X qx_gRX10_35 qx_me30 rfl dX10_oneStep_8 ?_
  refine qx_iload_n (pc := 11) X 0 dX10_oneStep_11 rfl rfl ?_
  refine qx_iald (f := 39) (i := 0) (pc := 12) X rfl qx_me39 hw.1 dX10_oneStep_12 ?_
  have hw := hw.2
  refine qx_istore_n (lv' := [(2, .int (σ 39 0 ((σ 30 0 12) - (1 : Int32)).toNatClampNeg)), (1, .int ((σ 30 0 12) - (1 : Int32))), (0, .ref (ad 30 0))]) (pc := 13) X dX10_oneStep_13 rfl (by decide) rfl ?_
  refine qx_aload_n (pc := 14) X 2 dX10_oneStep_14 rfl rfl ?_
  refine qx_getr (f := 30) (i := 0) (a := ad 45 0) (pc := 15) X qx_gRX10_53 qx_me30 rfl dX10_oneStep_15 ?_
  refine qx_iload_n (pc := 18) X 1 dX10_oneStep_18 rfl rfl ?_
  refine qx_iald (f := 45) (i := 0) (pc := 19) X rfl qx_me45 hw.1 dX10_oneStep_19 ?_
  have hw := hw.2
  refine qx_aload_n (pc := 20) X 2 dX10_oneStep_20 rfl rfl ?_
  refine qx_getr (f := 30) (i := 0) (a := ad 34 0) (pc := 21) X qx_gRX10_19 qx_me30 rfl dX10_oneStep_21 ?_
  refine qx_iload_n (pc := 24) X 0 dX10_oneStep_24 rfl rfl ?_
  refine qx_iald (f := 34) (i := 0) (pc := 25) X rfl qx_me34 hw.1 dX10_oneStep_25 ?_
  have hw := hw.2
  refine qx_icmp_lt (tgt := 36) (pc := 26) X dX10_oneStep_26 (by decide) (fun c38 => ?_) (fun c38 => ?_)
  · have hw := hw.1 c38
    refine qx_aload_n (pc := 36) X 2 dX10_oneStep_36 rfl rfl ?_
    refine qx_getr (f := 30) (i := 0) (a := ad 43 0) (pc := 37) X qx_gRX10_47 qx_me30 rfl dX10_oneStep_37 ?_
    refine qx_iload_n (pc := 40) X 1 dX10_oneStep_40 rfl rfl ?_
    refine qx_iald (f := 43) (i := 0) (pc := 41) X rfl qx_me43 hw.1 dX10_oneStep_41 ?_
    have hw := hw.2
    refine qx_if_ne (tgt := 53) (pc := 42) X dX10_oneStep_42 (by decide) (fun c35 => ?_) (fun c35 => ?_)
    · have hw := hw.2 c35
      refine qx_aload_n (pc := 53) X 2 dX10_oneStep_53 rfl rfl ?_
      refine qx_getr (f := 30) (i := 0) (a := ad 43 0) (pc := 54) X qx_gRX10_47 qx_me30 rfl dX10_oneStep_54 ?_
      refine qx_iload_n (pc := 57) X 1 dX10_oneStep_57 rfl rfl ?_
      refine qx_dup2 (pc := 58) X dX10_oneStep_58 rfl rfl ?_
      refine qx_iald (f := 43) (i := 0) (pc := 59) X rfl qx_me43 hw.1 dX10_oneStep_59 ?_
      have hw := hw.2
      refine qx_iconst (v := 1) (pc := 60) X dX10_oneStep_60 (by decide) ?_
      refine qx_isub (pc := 61) X dX10_oneStep_61 ?_
      refine qx_iast1 (f := 43) (i := 0) (pc := 62) X rfl qx_me43 hw.1 dX10_oneStep_62 (fun s1 e2 => ?_)
      have hw := hw.2
      have hw := hw s1 e2
      refine qx_aload_n (pc := 63) X 2 dX10_oneStep_63 rfl rfl ?_
      refine qx_getr (f := 30) (i := 0) (a := ad 44 0) (pc := 64) X qx_gRX10_50 qx_me30 rfl dX10_oneStep_64 ?_
      refine qx_iload_n (pc := 67) X 1 dX10_oneStep_67 rfl rfl ?_
      refine qx_dup2 (pc := 68) X dX10_oneStep_68 rfl rfl ?_
      refine qx_iald (f := 44) (i := 0) (pc := 69) X rfl qx_me44 hw.1 dX10_oneStep_69 ?_
      have hw := hw.2
      refine qx_iconst (v := 1) (pc := 70) X dX10_oneStep_70 (by decide) ?_
      refine qx_iadd (pc := 71) X dX10_oneStep_71 ?_
      refine qx_iast1 (f := 44) (i := 0) (pc := 72) X rfl qx_me44 hw.1 dX10_oneStep_72 (fun s3 e4 => ?_)
      have hw := hw.2
      have hw := hw s3 e4
      refine qx_bipush (v := 20) (pc := 73) X dX10_oneStep_73 (by decide) ?_
      refine qx_iload_n (pc := 75) X 0 dX10_oneStep_75 rfl rfl ?_
      refine qx_imul (pc := 76) X dX10_oneStep_76 ?_
      refine qx_aload_n (pc := 77) X 2 dX10_oneStep_77 rfl rfl ?_
      refine qx_getr (f := 30) (i := 0) (a := ad 45 0) (pc := 78) X qx_gRX10_53 qx_me30 rfl dX10_oneStep_78 ?_
      refine qx_iload_n (pc := 81) X 1 dX10_oneStep_81 rfl rfl ?_
      refine qx_iald (f := 45) (i := 0) (pc := 82) X rfl qx_me45 hw.1 dX10_oneStep_82 ?_
      have hw := hw.2
      refine qx_iadd (pc := 83) X dX10_oneStep_83 ?_
      refine qx_istore_n (lv' := [(3, .int (((20 : Int32) * (σ 39 0 ((σ 30 0 12) - (1 : Int32)).toNatClampNeg)) + (s3 45 0 ((σ 30 0 12) - (1 : Int32)).toNatClampNeg))), (2, .int (σ 39 0 ((σ 30 0 12) - (1 : Int32)).toNatClampNeg)), (1, .int ((σ 30 0 12) - (1 : Int32))), (0, .ref (ad 30 0))]) (pc := 84) X dX10_oneStep_84 rfl (by decide) rfl ?_
      refine qx_aload_n (pc := 85) X 3 dX10_oneStep_85 rfl rfl ?_
      refine qx_getr (f := 30) (i := 0) (a := ad 45 0) (pc := 86) X qx_gRX10_53 qx_me30 rfl dX10_oneStep_86 ?_
      refine qx_iload_n (pc := 89) X 2 dX10_oneStep_89 rfl rfl ?_
      refine qx_dup2 (pc := 90) X dX10_oneStep_90 rfl rfl ?_
      refine qx_iald (f := 45) (i := 0) (pc := 91) X rfl qx_me45 hw.1 dX10_oneStep_91 ?_
      have hw := hw.2
      refine qx_iconst (v := 1) (pc := 92) X dX10_oneStep_92 (by decide) ?_
      refine qx_iadd (pc := 93) X dX10_oneStep_93 ?_
      refine qx_iast1 (f := 45) (i := 0) (pc := 94) X rfl qx_me45 hw.1 dX10_oneStep_94 (fun s5 e6 => ?_)
      have hw := hw.2
      have hw := hw s5 e6
      refine qx_aload_n (pc := 95) X 3 dX10_oneStep_95 rfl rfl ?_
      refine qx_getr (f := 30) (i := 0) (a := ad 36 0) (pc := 96) X qx_gRX10_26 qx_me30 rfl dX10_oneStep_96 ?_
      refine qx_iload_n (pc := 99) X 0 dX10_oneStep_99 rfl rfl ?_
      refine qx_iald (f := 36) (i := 0) (pc := 100) X rfl qx_me36 hw.1 dX10_oneStep_100 ?_
      have hw := hw.2
      refine qx_istore (lv' := [(4, .int (s5 36 0 (((20 : Int32) * (σ 39 0 ((σ 30 0 12) - (1 : Int32)).toNatClampNeg)) + (s3 45 0 ((σ 30 0 12) - (1 : Int32)).toNatClampNeg)).toNatClampNeg)), (3, .int (((20 : Int32) * (σ 39 0 ((σ 30 0 12) - (1 : Int32)).toNatClampNeg)) + (s3 45 0 ((σ 30 0 12) - (1 : Int32)).toNatClampNeg))), (2, .int (σ 39 0 ((σ 30 0 12) - (1 : Int32)).toNatClampNeg)), (1, .int ((σ 30 0 12) - (1 : Int32))), (0, .ref (ad 30 0))]) (pc := 101) X dX10_oneStep_101 (by decide) rfl ?_
      refine qx_aload_n (pc := 103) X 4 dX10_oneStep_103 rfl rfl ?_
      refine qx_getr (f := 30) (i := 0) (a := ad 46 0) (pc := 104) X qx_gRX10_56 qx_me30 rfl dX10_oneStep_104 ?_
      refine qx_iload_n (pc := 107) X 3 dX10_oneStep_107 rfl rfl ?_
      refine qx_iald (f := 46) (i := 0) (pc := 108) X rfl qx_me46 hw.1 dX10_oneStep_108 ?_
      have hw := hw.2
      refine qx_iload (pc := 109) X 0 dX10_oneStep_109 rfl ?_
      refine qx_callSi (pc := 111) X [.int (s5 36 0 (((20 : Int32) * (σ 39 0 ((σ 30 0 12) - (1 : Int32)).toNatClampNeg)) + (s3 45 0 ((σ 30 0 12) - (1 : Int32)).toNatClampNeg)).toNatClampNeg)] [.int (s5 46 0 ((σ 30 0 12) - (1 : Int32)).toNatClampNeg)] (kX10_takes K.2.1 G t1 t2 ad (s5 36 0 (((20 : Int32) * (σ 39 0 ((σ 30 0 12) - (1 : Int32)).toNatClampNeg)) + (s3 45 0 ((σ 30 0 12) - (1 : Int32)).toNatClampNeg)).toNatClampNeg) s5 _ hw) qx_mcX10_takes qx_lRX10_217 qx_sX10_takes rfl ⟨rfl, rfl⟩ (by rw [hR]; decide) rfl (Nat.le_of_ble_eq_true rfl) dX10_oneStep_111 ⟨Nat.zero_le _, Nat.zero_le _⟩ (fun r8 s7 hw => ?_)
      refine qx_icmp_lt (tgt := 140) (pc := 114) X dX10_oneStep_114 (by decide) (fun c32 => ?_) (fun c32 => ?_)
      · have hw := hw.1 c32
        refine qx_aload_n (pc := 140) X 4 dX10_oneStep_140 rfl rfl ?_
        refine qx_bipush (v := 8) (pc := 141) X dX10_oneStep_141 (by decide) ?_
        refine qx_iconst (v := 0) (pc := 143) X dX10_oneStep_143 (by decide) ?_
        refine qx_callVv (f := 30) (i := 0) (pc := 144) X [.int (8 : Int32), .int (0 : Int32)] [] (kX10_ends K.2.1 G t1 t2 ad (8 : Int32) (0 : Int32) s7 _ hw) qx_mcX10_ends qx_lRX10_186 qx_iX10_ends qx_selX10_ends qx_me30 qx_rc30 rfl ⟨rfl, rfl⟩ (by rw [hR]; decide) rfl (Nat.le_of_ble_eq_true rfl) dX10_oneStep_144 ⟨Nat.zero_le _, Nat.zero_le _⟩ (fun s9 hw => ?_)
        refine qx_goto (tgt := 208) (pc := 147) X dX10_oneStep_147 (by decide) ?_
        exact qx_vret (pc := 208) X hr hlk hw dX10_oneStep_208
      · have hw := hw.2 c32
        refine qx_aload_n (pc := 117) X 4 dX10_oneStep_117 rfl rfl ?_
        refine qx_getr (f := 30) (i := 0) (a := ad 46 0) (pc := 118) X qx_gRX10_56 qx_me30 rfl dX10_oneStep_118 ?_
        refine qx_iload_n (pc := 121) X 3 dX10_oneStep_121 rfl rfl ?_
        refine qx_iald (f := 46) (i := 0) (pc := 122) X rfl qx_me46 hw.1 dX10_oneStep_122 ?_
        have hw := hw.2
        refine qx_iload (pc := 123) X 0 dX10_oneStep_123 rfl ?_
        refine qx_callSi (pc := 125) X [.int (s5 36 0 (((20 : Int32) * (σ 39 0 ((σ 30 0 12) - (1 : Int32)).toNatClampNeg)) + (s3 45 0 ((σ 30 0 12) - (1 : Int32)).toNatClampNeg)).toNatClampNeg)] [.int (s7 46 0 ((σ 30 0 12) - (1 : Int32)).toNatClampNeg)] (kX10_takes K.2.1 G t1 t2 ad (s5 36 0 (((20 : Int32) * (σ 39 0 ((σ 30 0 12) - (1 : Int32)).toNatClampNeg)) + (s3 45 0 ((σ 30 0 12) - (1 : Int32)).toNatClampNeg)).toNatClampNeg) s7 _ hw) qx_mcX10_takes qx_lRX10_217 qx_sX10_takes rfl ⟨rfl, rfl⟩ (by rw [hR]; decide) rfl (Nat.le_of_ble_eq_true rfl) dX10_oneStep_125 ⟨Nat.zero_le _, Nat.zero_le _⟩ (fun r12 s11 hw => ?_)
        refine qx_isub (pc := 128) X dX10_oneStep_128 ?_
        refine qx_iload (pc := 129) X 0 dX10_oneStep_129 rfl ?_
        refine qx_callSi (pc := 131) X [.int (s5 36 0 (((20 : Int32) * (σ 39 0 ((σ 30 0 12) - (1 : Int32)).toNatClampNeg)) + (s3 45 0 ((σ 30 0 12) - (1 : Int32)).toNatClampNeg)).toNatClampNeg)] [.int ((s7 46 0 ((σ 30 0 12) - (1 : Int32)).toNatClampNeg) - r12)] (kX10_leaves K.2.1 G t1 t2 ad (s5 36 0 (((20 : Int32) * (σ 39 0 ((σ 30 0 12) - (1 : Int32)).toNatClampNeg)) + (s3 45 0 ((σ 30 0 12) - (1 : Int32)).toNatClampNeg)).toNatClampNeg) s11 _ hw) qx_mcX10_leaves qx_lRX10_220 qx_sX10_leaves rfl ⟨rfl, rfl⟩ (by rw [hR]; decide) rfl (Nat.le_of_ble_eq_true rfl) dX10_oneStep_131 ⟨Nat.zero_le _, Nat.zero_le _⟩ (fun r14 s13 hw => ?_)
        refine qx_iadd (pc := 134) X dX10_oneStep_134 ?_
        refine qx_bipush (v := 8) (pc := 135) X dX10_oneStep_135 (by decide) ?_
        refine qx_icmp_le (tgt := 150) (pc := 137) X dX10_oneStep_137 (by decide) (fun c31 => ?_) (fun c31 => ?_)
        · have hw := hw.1 c31
          refine qx_aload_n (pc := 150) X 4 dX10_oneStep_150 rfl rfl ?_
          refine qx_getr (f := 30) (i := 0) (a := ad 49 0) (pc := 151) X qx_gRX10_65 qx_me30 rfl dX10_oneStep_151 ?_
          refine qx_iload_n (pc := 154) X 3 dX10_oneStep_154 rfl rfl ?_
          refine qx_zald (f := 49) (i := 0) (pc := 155) X rfl qx_me49 hw.1 dX10_oneStep_155 ?_
          have hw := hw.2
          refine qx_if_eq (tgt := 189) (pc := 156) X dX10_oneStep_156 (by decide) (fun c28 => ?_) (fun c28 => ?_)
          · have hw := hw.1 c28
            refine qx_aload_n (pc := 189) X 4 dX10_oneStep_189 rfl rfl ?_
            refine qx_iload_n (pc := 190) X 3 dX10_oneStep_190 rfl rfl ?_
            refine qx_iload (pc := 191) X 0 dX10_oneStep_191 rfl ?_
            refine qx_aload_n (pc := 193) X 4 dX10_oneStep_193 rfl rfl ?_
            refine qx_getr (f := 30) (i := 0) (a := ad 37 0) (pc := 194) X qx_gRX10_29 qx_me30 rfl dX10_oneStep_194 ?_
            refine qx_iload_n (pc := 197) X 1 dX10_oneStep_197 rfl rfl ?_
            refine qx_iald (f := 37) (i := 0) (pc := 198) X rfl qx_me37 hw.1 dX10_oneStep_198 ?_
            have hw := hw.2
            refine qx_aload_n (pc := 199) X 4 dX10_oneStep_199 rfl rfl ?_
            refine qx_getr (f := 30) (i := 0) (a := ad 38 0) (pc := 200) X qx_gRX10_32 qx_me30 rfl dX10_oneStep_200 ?_
            refine qx_iload_n (pc := 203) X 1 dX10_oneStep_203 rfl rfl ?_
            refine qx_iald (f := 38) (i := 0) (pc := 204) X rfl qx_me38 hw.1 dX10_oneStep_204 ?_
            have hw := hw.2
            refine qx_callVv (f := 30) (i := 0) (pc := 205) X [.int ((σ 30 0 12) - (1 : Int32)), .int (s5 36 0 (((20 : Int32) * (σ 39 0 ((σ 30 0 12) - (1 : Int32)).toNatClampNeg)) + (s3 45 0 ((σ 30 0 12) - (1 : Int32)).toNatClampNeg)).toNatClampNeg), .int (s13 37 0 (((20 : Int32) * (σ 39 0 ((σ 30 0 12) - (1 : Int32)).toNatClampNeg)) + (s3 45 0 ((σ 30 0 12) - (1 : Int32)).toNatClampNeg)).toNatClampNeg), .int (s13 38 0 (((20 : Int32) * (σ 39 0 ((σ 30 0 12) - (1 : Int32)).toNatClampNeg)) + (s3 45 0 ((σ 30 0 12) - (1 : Int32)).toNatClampNeg)).toNatClampNeg)] [] (kX10_act K.2.1 G t1 t2 ad ((σ 30 0 12) - (1 : Int32)) (s5 36 0 (((20 : Int32) * (σ 39 0 ((σ 30 0 12) - (1 : Int32)).toNatClampNeg)) + (s3 45 0 ((σ 30 0 12) - (1 : Int32)).toNatClampNeg)).toNatClampNeg) (s13 37 0 (((20 : Int32) * (σ 39 0 ((σ 30 0 12) - (1 : Int32)).toNatClampNeg)) + (s3 45 0 ((σ 30 0 12) - (1 : Int32)).toNatClampNeg)).toNatClampNeg) (s13 38 0 (((20 : Int32) * (σ 39 0 ((σ 30 0 12) - (1 : Int32)).toNatClampNeg)) + (s3 45 0 ((σ 30 0 12) - (1 : Int32)).toNatClampNeg)).toNatClampNeg) s13 _ hw) qx_mcX10_act qx_lRX10_223 qx_iX10_act qx_selX10_act qx_me30 qx_rc30 rfl ⟨rfl, rfl⟩ (by rw [hR]; decide) rfl (Nat.le_of_ble_eq_true rfl) dX10_oneStep_205 ⟨Nat.zero_le _, Nat.zero_le _⟩ (fun s15 hw => ?_)
            exact qx_vret (pc := 208) X hr hlk hw dX10_oneStep_208
          · have hw := hw.2 c28
            refine qx_iload (pc := 159) X 0 dX10_oneStep_159 rfl ?_
            refine qx_bipush (v := 7) (pc := 161) X dX10_oneStep_161 (by decide) ?_
            refine qx_icmp_eq (tgt := 180) (pc := 163) X dX10_oneStep_163 (by decide) (fun c27 => ?_) (fun c27 => ?_)
            · have hw := hw.1 c27
              refine qx_aload_n (pc := 180) X 4 dX10_oneStep_180 rfl rfl ?_
              refine qx_iconst (v := 2) (pc := 181) X dX10_oneStep_181 (by decide) ?_
              refine qx_iconst (v := 0) (pc := 182) X dX10_oneStep_182 (by decide) ?_
              refine qx_callVv (f := 30) (i := 0) (pc := 183) X [.int (2 : Int32), .int (0 : Int32)] [] (kX10_ends K.2.1 G t1 t2 ad (2 : Int32) (0 : Int32) s13 _ hw) qx_mcX10_ends qx_lRX10_186 qx_iX10_ends qx_selX10_ends qx_me30 qx_rc30 rfl ⟨rfl, rfl⟩ (by rw [hR]; decide) rfl (Nat.le_of_ble_eq_true rfl) dX10_oneStep_183 ⟨Nat.zero_le _, Nat.zero_le _⟩ (fun s17 hw => ?_)
              refine qx_goto (tgt := 208) (pc := 186) X dX10_oneStep_186 (by decide) ?_
              exact qx_vret (pc := 208) X hr hlk hw dX10_oneStep_208
            · have hw := hw.2 c27
              refine qx_iload (pc := 166) X 0 dX10_oneStep_166 rfl ?_
              refine qx_bipush (v := 22) (pc := 168) X dX10_oneStep_168 (by decide) ?_
              refine qx_icmp_eq (tgt := 180) (pc := 170) X dX10_oneStep_170 (by decide) (fun c26 => ?_) (fun c26 => ?_)
              · have hw := hw.1 c26
                refine qx_aload_n (pc := 180) X 4 dX10_oneStep_180 rfl rfl ?_
                refine qx_iconst (v := 2) (pc := 181) X dX10_oneStep_181 (by decide) ?_
                refine qx_iconst (v := 0) (pc := 182) X dX10_oneStep_182 (by decide) ?_
                refine qx_callVv (f := 30) (i := 0) (pc := 183) X [.int (2 : Int32), .int (0 : Int32)] [] (kX10_ends K.2.1 G t1 t2 ad (2 : Int32) (0 : Int32) s13 _ hw) qx_mcX10_ends qx_lRX10_186 qx_iX10_ends qx_selX10_ends qx_me30 qx_rc30 rfl ⟨rfl, rfl⟩ (by rw [hR]; decide) rfl (Nat.le_of_ble_eq_true rfl) dX10_oneStep_183 ⟨Nat.zero_le _, Nat.zero_le _⟩ (fun s19 hw => ?_)
                refine qx_goto (tgt := 208) (pc := 186) X dX10_oneStep_186 (by decide) ?_
                exact qx_vret (pc := 208) X hr hlk hw dX10_oneStep_208
              · have hw := hw.2 c26
                refine qx_iload (pc := 173) X 0 dX10_oneStep_173 rfl ?_
                refine qx_bipush (v := 23) (pc := 175) X dX10_oneStep_175 (by decide) ?_
                refine qx_icmp_ne (tgt := 189) (pc := 177) X dX10_oneStep_177 (by decide) (fun c25 => ?_) (fun c25 => ?_)
                · have hw := hw.2 c25
                  refine qx_aload_n (pc := 189) X 4 dX10_oneStep_189 rfl rfl ?_
                  refine qx_iload_n (pc := 190) X 3 dX10_oneStep_190 rfl rfl ?_
                  refine qx_iload (pc := 191) X 0 dX10_oneStep_191 rfl ?_
                  refine qx_aload_n (pc := 193) X 4 dX10_oneStep_193 rfl rfl ?_
                  refine qx_getr (f := 30) (i := 0) (a := ad 37 0) (pc := 194) X qx_gRX10_29 qx_me30 rfl dX10_oneStep_194 ?_
                  refine qx_iload_n (pc := 197) X 1 dX10_oneStep_197 rfl rfl ?_
                  refine qx_iald (f := 37) (i := 0) (pc := 198) X rfl qx_me37 hw.1 dX10_oneStep_198 ?_
                  have hw := hw.2
                  refine qx_aload_n (pc := 199) X 4 dX10_oneStep_199 rfl rfl ?_
                  refine qx_getr (f := 30) (i := 0) (a := ad 38 0) (pc := 200) X qx_gRX10_32 qx_me30 rfl dX10_oneStep_200 ?_
                  refine qx_iload_n (pc := 203) X 1 dX10_oneStep_203 rfl rfl ?_
                  refine qx_iald (f := 38) (i := 0) (pc := 204) X rfl qx_me38 hw.1 dX10_oneStep_204 ?_
                  have hw := hw.2
                  refine qx_callVv (f := 30) (i := 0) (pc := 205) X [.int ((σ 30 0 12) - (1 : Int32)), .int (s5 36 0 (((20 : Int32) * (σ 39 0 ((σ 30 0 12) - (1 : Int32)).toNatClampNeg)) + (s3 45 0 ((σ 30 0 12) - (1 : Int32)).toNatClampNeg)).toNatClampNeg), .int (s13 37 0 (((20 : Int32) * (σ 39 0 ((σ 30 0 12) - (1 : Int32)).toNatClampNeg)) + (s3 45 0 ((σ 30 0 12) - (1 : Int32)).toNatClampNeg)).toNatClampNeg), .int (s13 38 0 (((20 : Int32) * (σ 39 0 ((σ 30 0 12) - (1 : Int32)).toNatClampNeg)) + (s3 45 0 ((σ 30 0 12) - (1 : Int32)).toNatClampNeg)).toNatClampNeg)] [] (kX10_act K.2.1 G t1 t2 ad ((σ 30 0 12) - (1 : Int32)) (s5 36 0 (((20 : Int32) * (σ 39 0 ((σ 30 0 12) - (1 : Int32)).toNatClampNeg)) + (s3 45 0 ((σ 30 0 12) - (1 : Int32)).toNatClampNeg)).toNatClampNeg) (s13 37 0 (((20 : Int32) * (σ 39 0 ((σ 30 0 12) - (1 : Int32)).toNatClampNeg)) + (s3 45 0 ((σ 30 0 12) - (1 : Int32)).toNatClampNeg)).toNatClampNeg) (s13 38 0 (((20 : Int32) * (σ 39 0 ((σ 30 0 12) - (1 : Int32)).toNatClampNeg)) + (s3 45 0 ((σ 30 0 12) - (1 : Int32)).toNatClampNeg)).toNatClampNeg) s13 _ hw) qx_mcX10_act qx_lRX10_223 qx_iX10_act qx_selX10_act qx_me30 qx_rc30 rfl ⟨rfl, rfl⟩ (by rw [hR]; decide) rfl (Nat.le_of_ble_eq_true rfl) dX10_oneStep_205 ⟨Nat.zero_le _, Nat.zero_le _⟩ (fun s21 hw => ?_)
                  exact qx_vret (pc := 208) X hr hlk hw dX10_oneStep_208
                · have hw := hw.1 c25
                  refine qx_aload_n (pc := 180) X 4 dX10_oneStep_180 rfl rfl ?_
                  refine qx_iconst (v := 2) (pc := 181) X dX10_oneStep_181 (by decide) ?_
                  refine qx_iconst (v := 0) (pc := 182) X dX10_oneStep_182 (by decide) ?_
                  refine qx_callVv (f := 30) (i := 0) (pc := 183) X [.int (2 : Int32), .int (0 : Int32)] [] (kX10_ends K.2.1 G t1 t2 ad (2 : Int32) (0 : Int32) s13 _ hw) qx_mcX10_ends qx_lRX10_186 qx_iX10_ends qx_selX10_ends qx_me30 qx_rc30 rfl ⟨rfl, rfl⟩ (by rw [hR]; decide) rfl (Nat.le_of_ble_eq_true rfl) dX10_oneStep_183 ⟨Nat.zero_le _, Nat.zero_le _⟩ (fun s23 hw => ?_)
                  refine qx_goto (tgt := 208) (pc := 186) X dX10_oneStep_186 (by decide) ?_
                  exact qx_vret (pc := 208) X hr hlk hw dX10_oneStep_208
        · have hw := hw.2 c31
          refine qx_aload_n (pc := 140) X 4 dX10_oneStep_140 rfl rfl ?_
          refine qx_bipush (v := 8) (pc := 141) X dX10_oneStep_141 (by decide) ?_
          refine qx_iconst (v := 0) (pc := 143) X dX10_oneStep_143 (by decide) ?_
          refine qx_callVv (f := 30) (i := 0) (pc := 144) X [.int (8 : Int32), .int (0 : Int32)] [] (kX10_ends K.2.1 G t1 t2 ad (8 : Int32) (0 : Int32) s13 _ hw) qx_mcX10_ends qx_lRX10_186 qx_iX10_ends qx_selX10_ends qx_me30 qx_rc30 rfl ⟨rfl, rfl⟩ (by rw [hR]; decide) rfl (Nat.le_of_ble_eq_true rfl) dX10_oneStep_144 ⟨Nat.zero_le _, Nat.zero_le _⟩ (fun s29 hw => ?_)
          refine qx_goto (tgt := 208) (pc := 147) X dX10_oneStep_147 (by decide) ?_
          exact qx_vret (pc := 208) X hr hlk hw dX10_oneStep_208
    · have hw := hw.1 c35
      refine qx_aload_n (pc := 45) X 2 dX10_oneStep_45 rfl rfl ?_
      refine qx_bipush (v := 6) (pc := 46) X dX10_oneStep_46 (by decide) ?_
      refine qx_iconst (v := 0) (pc := 48) X dX10_oneStep_48 (by decide) ?_
      refine qx_callVv (f := 30) (i := 0) (pc := 49) X [.int (6 : Int32), .int (0 : Int32)] [] (kX10_ends K.2.1 G t1 t2 ad (6 : Int32) (0 : Int32) σ _ hw) qx_mcX10_ends qx_lRX10_186 qx_iX10_ends qx_selX10_ends qx_me30 qx_rc30 rfl ⟨rfl, rfl⟩ (by rw [hR]; decide) rfl (Nat.le_of_ble_eq_true rfl) dX10_oneStep_49 ⟨Nat.zero_le _, Nat.zero_le _⟩ (fun s33 hw => ?_)
      exact qx_vret (pc := 52) X hr hlk hw dX10_oneStep_52
  · have hw := hw.2 c38
    refine qx_aload_n (pc := 29) X 2 dX10_oneStep_29 rfl rfl ?_
    refine qx_iconst (v := 0) (pc := 30) X dX10_oneStep_30 (by decide) ?_
    refine qx_iconst (v := 0) (pc := 31) X dX10_oneStep_31 (by decide) ?_
    refine qx_callVv (f := 30) (i := 0) (pc := 32) X [.int (0 : Int32), .int (0 : Int32)] [] (kX10_ends K.2.1 G t1 t2 ad (0 : Int32) (0 : Int32) σ _ hw) qx_mcX10_ends qx_lRX10_186 qx_iX10_ends qx_selX10_ends qx_me30 qx_rc30 rfl ⟨rfl, rfl⟩ (by rw [hR]; decide) rfl (Nat.le_of_ble_eq_true rfl) dX10_oneStep_32 ⟨Nat.zero_le _, Nat.zero_le _⟩ (fun s36 hw => ?_)
    exact qx_vret (pc := 35) X hr hlk hw dX10_oneStep_35
def wX10_call_j234 (p1 : Int32) (p2 : Int32) (p3 : Int32) (p4 : Int32) (p5 : Int32) (p6 : Int32) (post : Int32 → qx_St → Prop) (a1 : Int32) (a2 : Int32) (a3 : Int32) (a4 : Int32) (a5 : Int32) (a6 : Int32) (b0 : Int32) (b1 : Int32) (σ : qx_St) : Prop := (∀ s31, s31 = qx_st σ 30 0 10 (b1 + b0) → (((s31 30 0 48) = 0 → (∀ s36, s36 = qx_st s31 30 0 11 ((s31 30 0 11) + (0 : Int32)) → (((s36 30 0 48) = 0 → post (1 : Int32) s36) ∧ (¬ ((s36 30 0 48) = 0) → post (0 : Int32) s36)))) ∧ (¬ ((s31 30 0 48) = 0) → (∀ s33, s33 = qx_st s31 30 0 11 ((s31 30 0 11) + (1 : Int32)) → (((s33 30 0 48) = 0 → post (1 : Int32) s33) ∧ (¬ ((s33 30 0 48) = 0) → post (0 : Int32) s33))))))
def wX10_call_j178 (p1 : Int32) (p2 : Int32) (p3 : Int32) (p4 : Int32) (p5 : Int32) (p6 : Int32) (post : Int32 → qx_St → Prop) (a1 : Int32) (a2 : Int32) (a3 : Int32) (a4 : Int32) (a5 : Int32) (a6 : Int32) (b0 : Int32) (σ : qx_St) : Prop := (∀ s25, s25 = qx_st σ 30 0 47 b0 → (vp_in a1 4 ∧ (vp_in a1 4 ∧ (∀ s27, s27 = qx_st s25 31 0 a1.toNatClampNeg ((s25 31 0 a1.toNatClampNeg) - ((s25 30 0 46) - (s25 30 0 47))) → (∀ s29, s29 = qx_st s27 30 0 3 ((s27 30 0 3) + ((s27 30 0 46) - (s27 30 0 47))) → (((s29 30 0 48) = 0 → wX10_call_j234 p1 p2 p3 p4 p5 p6 post a1 a2 a3 a4 a5 a6 (1 : Int32) (s29 30 0 10) s29) ∧ (¬ ((s29 30 0 48) = 0) → wX10_call_j234 p1 p2 p3 p4 p5 p6 post a1 a2 a3 a4 a5 a6 (0 : Int32) (s29 30 0 10) s29)))))))
def wX10_call_l137 (p1 : Int32) (p2 : Int32) (p3 : Int32) (p4 : Int32) (p5 : Int32) (p6 : Int32) (post : Int32 → qx_St → Prop) : Nat → Int32 → Int32 → Int32 → Int32 → Int32 → Int32 → qx_St → Prop
  | 0, _, _, _, _, _, _, _ => False
  | n + 1, a1, a2, a3, a4, a5, a6, σ => (((σ 30 0 12) ≤ 0 → ((((σ 30 0 46) / (2 : Int32)) ≤ (σ 30 0 35) → wX10_call_j178 p1 p2 p3 p4 p5 p6 post a1 a2 a3 a4 a5 a6 ((σ 30 0 46) / (2 : Int32)) σ) ∧ (¬ (((σ 30 0 46) / (2 : Int32)) ≤ (σ 30 0 35)) → wX10_call_j178 p1 p2 p3 p4 p5 p6 post a1 a2 a3 a4 a5 a6 (σ 30 0 35) σ))) ∧ (¬ ((σ 30 0 12) ≤ 0) → wX10_oneStep  σ (fun s42 => wX10_call_l137 p1 p2 p3 p4 p5 p6 post n a1 a2 a3 a4 a5 a6 s42)))
def wX10_call (p1 : Int32) (p2 : Int32) (p3 : Int32) (p4 : Int32) (p5 : Int32) (p6 : Int32) (σ : qx_St) (post : Int32 → qx_St → Prop) : Prop := wX10_in p1 (0 : Int32) (3 : Int32) σ (fun r2 s1 => ((r2 = 0 → post (-101 : Int32) s1) ∧ (¬ (r2 = 0) → wX10_noContract p2 s1 (fun r4 s3 => ((r4 = 0 → wX10_in p3 (0 : Int32) (3 : Int32) s3 (fun r6 s5 => ((r6 = 0 → post (-102 : Int32) s5) ∧ (¬ (r6 = 0) → wX10_in p5 (0 : Int32) (10000 : Int32) s5 (fun r8 s7 => ((r8 = 0 → post (-102 : Int32) s7) ∧ (¬ (r8 = 0) → wX10_in p6 (1 : Int32) (1000 : Int32) s7 (fun r10 s9 => ((r10 = 0 → post (-102 : Int32) s9) ∧ (¬ (r10 = 0) → (vp_in p1 4 ∧ (((s9 31 0 p1.toNatClampNeg) < (p5 + p6) → post (-103 : Int32) s9) ∧ (¬ ((s9 31 0 p1.toNatClampNeg) < (p5 + p6)) → (vp_in (((4 : Int32) * p2) + p3) 32 ∧ (((s9 34 0 (((4 : Int32) * p2) + p3).toNatClampNeg) = 0 → post (-103 : Int32) s9) ∧ (¬ ((s9 34 0 (((4 : Int32) * p2) + p3).toNatClampNeg) = 0) → (∀ s11, s11 = qx_st s9 30 0 12 (0 : Int32) → (∀ s13, s13 = qx_st s11 30 0 36 (0 : Int32) → (∀ s15, s15 = qx_st s13 30 0 37 (0 : Int32) → (∀ s17, s17 = qx_st s15 30 0 30 (0 : Int32) → (∀ s19, s19 = qx_st s17 30 0 35 (0 : Int32) → (∀ s21, s21 = qx_st s19 30 0 44 (1 : Int32) → wX10_enter (((4 : Int32) * p2) + p3) p4 p5 ((100 : Int32) + p1) p6 (0 : Int32) (0 : Int32) s21 (fun s23 => ∃ n, wX10_call_l137 p1 p2 p3 p4 p5 p6 post n p1 p2 p3 p4 p5 p6 s23))))))))))))))))))))))) ∧ (¬ (r4 = 0) → post (-101 : Int32) s3))))))
set_option maxHeartbeats 4000000 in
set_option maxRecDepth 100000 in
theorem kX10_call (l : Launch) (G : qx_Gx) (t1 t2 : Nat) (ad : Nat → Nat → Nat) (p1 : Int32) (p2 : Int32) (p3 : Int32) (p4 : Int32) (p5 : Int32) (p6 : Int32) (σ : qx_St) (post : Int32 → qx_St → Prop) (hw : wX10_call p1 p2 p3 p4 p5 p6 σ post) : qx_Mi l G t1 t2 (qx_w0 ad) yX10_call cX10_call 7 (some .int) { frames := 6, cells := 0, slots := 0, locals := 146 } [.ref (ad 30 0), .int p1, .int p2, .int p3, .int p4, .int p5, .int p6] σ post := by
  unfold wX10_call at hw
  refine qx_start qx_mcX10_call (Nat.le_of_ble_eq_true rfl) (fun K hKl hR X hr hlk => ?_)
  subst hKl
  have J234 : ∀ (a1 : Int32) (a2 : Int32) (a3 : Int32) (a4 : Int32) (a5 : Int32) (a6 : Int32) (b0 : Int32) (b1 : Int32) (σ : qx_St), wX10_call_j234 p1 p2 p3 p4 p5 p6 post a1 a2 a3 a4 a5 a6 b0 b1 σ → qx_V K G 7 0 0 (MQ K.2.2.2.2.2.2.2.1 (va_Qi post (qx_B G (qx_w0 ad)) G.2.2) K.2.2.2.2.2.2.1 K.2.2.2.2.1 0 0 G.2.2) (qx_w0 ad) σ 234 [(0, .ref (ad 30 0)), (1, .int a1), (2, .int a2), (3, .int a3), (4, .int a4), (5, .int a5), (6, .int a6)] [.int b0, .int b1, .ref (ad 30 0)] := by
    intro a1 a2 a3 a4 a5 a6 b0 b1 σ hw
    unfold wX10_call_j234 at hw
    refine qx_iadd (pc := 234) X dX10_call_234 ?_
    refine qx_puti1 (f := 30) (i := 0) (pc := 235) X qx_pRX10_126 qx_me30 dX10_call_235 (fun s31 e32 => ?_)
    have hw := hw s31 e32
    refine qx_aload_n (pc := 238) X 0 dX10_call_238 rfl rfl ?_
    refine qx_dup (pc := 239) X dX10_call_239 rfl ?_
    refine qx_geti (f := 30) (i := 0) (pc := 240) X qx_gRX10_129 qx_me30 dX10_call_240 ?_
    refine qx_aload_n (pc := 243) X 0 dX10_call_243 rfl rfl ?_
    refine qx_geti (f := 30) (i := 0) (pc := 244) X qx_gRX10_172 qx_me30 dX10_call_244 ?_
    refine qx_if_ne (tgt := 254) (pc := 247) X dX10_call_247 (by decide) (fun c39 => ?_) (fun c39 => ?_)
    · have hw := hw.2 c39
      refine qx_iconst (v := 1) (pc := 254) X dX10_call_254 (by decide) ?_
      refine qx_iadd (pc := 255) X dX10_call_255 ?_
      refine qx_puti1 (f := 30) (i := 0) (pc := 256) X qx_pRX10_129 qx_me30 dX10_call_256 (fun s33 e34 => ?_)
      have hw := hw s33 e34
      refine qx_aload_n (pc := 259) X 0 dX10_call_259 rfl rfl ?_
      refine qx_geti (f := 30) (i := 0) (pc := 260) X qx_gRX10_172 qx_me30 dX10_call_260 ?_
      refine qx_if_ne (tgt := 270) (pc := 263) X dX10_call_263 (by decide) (fun c35 => ?_) (fun c35 => ?_)
      · have hw := hw.2 c35
        refine qx_iconst (v := 0) (pc := 270) X dX10_call_270 (by decide) ?_
        exact qx_iret (pc := 271) X hr hlk hw dX10_call_271
      · have hw := hw.1 c35
        refine qx_iconst (v := 1) (pc := 266) X dX10_call_266 (by decide) ?_
        refine qx_goto (tgt := 271) (pc := 267) X dX10_call_267 (by decide) ?_
        exact qx_iret (pc := 271) X hr hlk hw dX10_call_271
    · have hw := hw.1 c39
      refine qx_iconst (v := 0) (pc := 250) X dX10_call_250 (by decide) ?_
      refine qx_goto (tgt := 255) (pc := 251) X dX10_call_251 (by decide) ?_
      refine qx_iadd (pc := 255) X dX10_call_255 ?_
      refine qx_puti1 (f := 30) (i := 0) (pc := 256) X qx_pRX10_129 qx_me30 dX10_call_256 (fun s36 e37 => ?_)
      have hw := hw s36 e37
      refine qx_aload_n (pc := 259) X 0 dX10_call_259 rfl rfl ?_
      refine qx_geti (f := 30) (i := 0) (pc := 260) X qx_gRX10_172 qx_me30 dX10_call_260 ?_
      refine qx_if_ne (tgt := 270) (pc := 263) X dX10_call_263 (by decide) (fun c38 => ?_) (fun c38 => ?_)
      · have hw := hw.2 c38
        refine qx_iconst (v := 0) (pc := 270) X dX10_call_270 (by decide) ?_
        exact qx_iret (pc := 271) X hr hlk hw dX10_call_271
      · have hw := hw.1 c38
        refine qx_iconst (v := 1) (pc := 266) X dX10_call_266 (by decide) ?_
        refine qx_goto (tgt := 271) (pc := 267) X dX10_call_267 (by decide) ?_
        exact qx_iret (pc := 271) X hr hlk hw dX10_call_271
  have J178 : ∀ (a1 : Int32) (a2 : Int32) (a3 : Int32) (a4 : Int32) (a5 : Int32) (a6 : Int32) (b0 : Int32) (σ : qx_St), wX10_call_j178 p1 p2 p3 p4 p5 p6 post a1 a2 a3 a4 a5 a6 b0 σ → qx_V K G 7 0 0 (MQ K.2.2.2.2.2.2.2.1 (va_Qi post (qx_B G (qx_w0 ad)) G.2.2) K.2.2.2.2.2.2.1 K.2.2.2.2.1 0 0 G.2.2) (qx_w0 ad) σ 178 [(0, .ref (ad 30 0)), (1, .int a1), (2, .int a2), (3, .int a3), (4, .int a4), (5, .int a5), (6, .int a6)] [.int b0, .ref (ad 30 0)] := by
    intro a1 a2 a3 a4 a5 a6 b0 σ hw
    unfold wX10_call_j178 at hw
    refine qx_puti1 (f := 30) (i := 0) (pc := 178) X qx_pRX10_229 qx_me30 dX10_call_178 (fun s25 e26 => ?_)
    have hw := hw s25 e26
    refine qx_aload_n (pc := 181) X 0 dX10_call_181 rfl rfl ?_
    refine qx_getr (f := 30) (i := 0) (a := ad 31 0) (pc := 182) X qx_gRX10_7 qx_me30 rfl dX10_call_182 ?_
    refine qx_iload_n (pc := 185) X 1 dX10_call_185 rfl rfl ?_
    refine qx_dup2 (pc := 186) X dX10_call_186 rfl rfl ?_
    refine qx_iald (f := 31) (i := 0) (pc := 187) X rfl qx_me31 hw.1 dX10_call_187 ?_
    have hw := hw.2
    refine qx_aload_n (pc := 188) X 0 dX10_call_188 rfl rfl ?_
    refine qx_geti (f := 30) (i := 0) (pc := 189) X qx_gRX10_169 qx_me30 dX10_call_189 ?_
    refine qx_aload_n (pc := 192) X 0 dX10_call_192 rfl rfl ?_
    refine qx_geti (f := 30) (i := 0) (pc := 193) X qx_gRX10_229 qx_me30 dX10_call_193 ?_
    refine qx_isub (pc := 196) X dX10_call_196 ?_
    refine qx_isub (pc := 197) X dX10_call_197 ?_
    refine qx_iast1 (f := 31) (i := 0) (pc := 198) X rfl qx_me31 hw.1 dX10_call_198 (fun s27 e28 => ?_)
    have hw := hw.2
    have hw := hw s27 e28
    refine qx_aload_n (pc := 199) X 0 dX10_call_199 rfl rfl ?_
    refine qx_dup (pc := 200) X dX10_call_200 rfl ?_
    refine qx_geti (f := 30) (i := 0) (pc := 201) X qx_gRX10_123 qx_me30 dX10_call_201 ?_
    refine qx_aload_n (pc := 204) X 0 dX10_call_204 rfl rfl ?_
    refine qx_geti (f := 30) (i := 0) (pc := 205) X qx_gRX10_169 qx_me30 dX10_call_205 ?_
    refine qx_aload_n (pc := 208) X 0 dX10_call_208 rfl rfl ?_
    refine qx_geti (f := 30) (i := 0) (pc := 209) X qx_gRX10_229 qx_me30 dX10_call_209 ?_
    refine qx_isub (pc := 212) X dX10_call_212 ?_
    refine qx_iadd (pc := 213) X dX10_call_213 ?_
    refine qx_puti1 (f := 30) (i := 0) (pc := 214) X qx_pRX10_123 qx_me30 dX10_call_214 (fun s29 e30 => ?_)
    have hw := hw s29 e30
    refine qx_aload_n (pc := 217) X 0 dX10_call_217 rfl rfl ?_
    refine qx_dup (pc := 218) X dX10_call_218 rfl ?_
    refine qx_geti (f := 30) (i := 0) (pc := 219) X qx_gRX10_126 qx_me30 dX10_call_219 ?_
    refine qx_aload_n (pc := 222) X 0 dX10_call_222 rfl rfl ?_
    refine qx_geti (f := 30) (i := 0) (pc := 223) X qx_gRX10_172 qx_me30 dX10_call_223 ?_
    refine qx_if_ne (tgt := 233) (pc := 226) X dX10_call_226 (by decide) (fun c40 => ?_) (fun c40 => ?_)
    · have hw := hw.2 c40
      refine qx_iconst (v := 0) (pc := 233) X dX10_call_233 (by decide) ?_
      exact J234 a1 a2 a3 a4 a5 a6 (0 : Int32) (s29 30 0 10) s29 hw
    · have hw := hw.1 c40
      refine qx_iconst (v := 1) (pc := 229) X dX10_call_229 (by decide) ?_
      refine qx_goto (tgt := 234) (pc := 230) X dX10_call_230 (by decide) ?_
      exact J234 a1 a2 a3 a4 a5 a6 (1 : Int32) (s29 30 0 10) s29 hw
  have L137 : ∀ (n : Nat) (a1 : Int32) (a2 : Int32) (a3 : Int32) (a4 : Int32) (a5 : Int32) (a6 : Int32) (σ : qx_St), wX10_call_l137 p1 p2 p3 p4 p5 p6 post n a1 a2 a3 a4 a5 a6 σ → qx_V K G 7 0 0 (MQ K.2.2.2.2.2.2.2.1 (va_Qi post (qx_B G (qx_w0 ad)) G.2.2) K.2.2.2.2.2.2.1 K.2.2.2.2.1 0 0 G.2.2) (qx_w0 ad) σ 137 [(0, .ref (ad 30 0)), (1, .int a1), (2, .int a2), (3, .int a3), (4, .int a4), (5, .int a5), (6, .int a6)] [] := by
    intro n
    induction n with
    | zero => intro a1 a2 a3 a4 a5 a6 σ hw; exact hw.elim
    | succ n ih =>
      intro a1 a2 a3 a4 a5 a6 σ hw
      refine qx_aload_n (pc := 137) X 0 dX10_call_137 rfl rfl ?_
      refine qx_geti (f := 30) (i := 0) (pc := 138) X qx_gRX10_156 qx_me30 dX10_call_138 ?_
      refine qx_if_le (tgt := 151) (pc := 141) X dX10_call_141 (by decide) (fun c44 => ?_) (fun c44 => ?_)
      · have hw := hw.1 c44
        refine qx_aload_n (pc := 151) X 0 dX10_call_151 rfl rfl ?_
        refine qx_aload_n (pc := 152) X 0 dX10_call_152 rfl rfl ?_
        refine qx_geti (f := 30) (i := 0) (pc := 153) X qx_gRX10_153 qx_me30 dX10_call_153 ?_
        refine qx_aload_n (pc := 156) X 0 dX10_call_156 rfl rfl ?_
        refine qx_geti (f := 30) (i := 0) (pc := 157) X qx_gRX10_169 qx_me30 dX10_call_157 ?_
        refine qx_iconst (v := 2) (pc := 160) X dX10_call_160 (by decide) ?_
        refine qx_idiv (pc := 161) X dX10_call_161 (by decide) ?_
        refine qx_icmp_ge (tgt := 172) (pc := 162) X dX10_call_162 (by decide) (fun c41 => ?_) (fun c41 => ?_)
        · have hw := hw.1 c41
          refine qx_aload_n (pc := 172) X 0 dX10_call_172 rfl rfl ?_
          refine qx_geti (f := 30) (i := 0) (pc := 173) X qx_gRX10_169 qx_me30 dX10_call_173 ?_
          refine qx_iconst (v := 2) (pc := 176) X dX10_call_176 (by decide) ?_
          refine qx_idiv (pc := 177) X dX10_call_177 (by decide) ?_
          exact J178 a1 a2 a3 a4 a5 a6 ((σ 30 0 46) / (2 : Int32)) σ hw
        · have hw := hw.2 c41
          refine qx_aload_n (pc := 165) X 0 dX10_call_165 rfl rfl ?_
          refine qx_geti (f := 30) (i := 0) (pc := 166) X qx_gRX10_153 qx_me30 dX10_call_166 ?_
          refine qx_goto (tgt := 178) (pc := 169) X dX10_call_169 (by decide) ?_
          exact J178 a1 a2 a3 a4 a5 a6 (σ 30 0 35) σ hw
      · have hw := hw.2 c44
        refine qx_aload_n (pc := 144) X 0 dX10_call_144 rfl rfl ?_
        refine qx_callVv (f := 30) (i := 0) (pc := 145) X [] [] (kX10_oneStep K.2.1 G t1 t2 ad  σ _ hw) qx_mcX10_oneStep qx_lRX10_226 qx_iX10_oneStep qx_selX10_oneStep qx_me30 qx_rc30 rfl ⟨rfl, rfl⟩ (by rw [hR]; decide) rfl (Nat.le_of_ble_eq_true rfl) dX10_call_145 ⟨Nat.zero_le _, Nat.zero_le _⟩ (fun s42 hw => ?_)
        refine qx_goto (tgt := 137) (pc := 148) X dX10_call_148 (by decide) ?_
        exact ih a1 a2 a3 a4 a5 a6 s42 hw
  refine (show qx_V K G 7 0 0 (MQ K.2.2.2.2.2.2.2.1 (va_Qi post (qx_B G (qx_w0 ad)) G.2.2) K.2.2.2.2.2.2.1 K.2.2.2.2.1 0 0 G.2.2) (qx_w0 ad) σ 0 [(0, .ref (ad 30 0)), (1, .int p1), (2, .int p2), (3, .int p3), (4, .int p4), (5, .int p5), (6, .int p6)] [] from ?_)
  refine qx_iload_n (pc := 0) X 1 dX10_call_0 rfl rfl ?_
  refine qx_iconst (v := 0) (pc := 1) X dX10_call_1 (by decide) ?_
  refine qx_iconst (v := 3) (pc := 2) X dX10_call_2 (by decide) ?_
  refine qx_callSi (pc := 3) X [.int p1, .int (0 : Int32), .int (3 : Int32)] [] (kX10_in K.2.1 G t1 t2 ad p1 (0 : Int32) (3 : Int32) σ _ hw) qx_mcX10_in qx_lRX10_142 qx_sX10_in rfl ⟨rfl, rfl⟩ (by rw [hR]; decide) rfl (Nat.le_of_ble_eq_true rfl) dX10_call_3 ⟨Nat.zero_le _, Nat.zero_le _⟩ (fun r2 s1 hw => ?_)
  refine qx_if_eq (tgt := 17) (pc := 6) X dX10_call_6 (by decide) (fun c51 => ?_) (fun c51 => ?_)
  · have hw := hw.1 c51
    refine qx_bipush (v := -101) (pc := 17) X dX10_call_17 (by decide) ?_
    exact qx_iret (pc := 19) X hr hlk hw dX10_call_19
  · have hw := hw.2 c51
    refine qx_aload_n (pc := 9) X 0 dX10_call_9 rfl rfl ?_
    refine qx_iload_n (pc := 10) X 2 dX10_call_10 rfl rfl ?_
    refine qx_callVi (f := 30) (i := 0) (pc := 11) X [.int p2] [] (kX10_noContract K.2.1 G t1 t2 ad p2 s1 _ hw) qx_mcX10_noContract qx_lRX10_146 qx_iX10_noContract qx_selX10_noContract qx_me30 qx_rc30 rfl ⟨rfl, rfl⟩ (by rw [hR]; decide) rfl (Nat.le_of_ble_eq_true rfl) dX10_call_11 ⟨Nat.zero_le _, Nat.zero_le _⟩ (fun r4 s3 hw => ?_)
    refine qx_if_eq (tgt := 20) (pc := 14) X dX10_call_14 (by decide) (fun c50 => ?_) (fun c50 => ?_)
    · have hw := hw.1 c50
      refine qx_iload_n (pc := 20) X 3 dX10_call_20 rfl rfl ?_
      refine qx_iconst (v := 0) (pc := 21) X dX10_call_21 (by decide) ?_
      refine qx_iconst (v := 3) (pc := 22) X dX10_call_22 (by decide) ?_
      refine qx_callSi (pc := 23) X [.int p3, .int (0 : Int32), .int (3 : Int32)] [] (kX10_in K.2.1 G t1 t2 ad p3 (0 : Int32) (3 : Int32) s3 _ hw) qx_mcX10_in qx_lRX10_142 qx_sX10_in rfl ⟨rfl, rfl⟩ (by rw [hR]; decide) rfl (Nat.le_of_ble_eq_true rfl) dX10_call_23 ⟨Nat.zero_le _, Nat.zero_le _⟩ (fun r6 s5 hw => ?_)
      refine qx_if_eq (tgt := 53) (pc := 26) X dX10_call_26 (by decide) (fun c49 => ?_) (fun c49 => ?_)
      · have hw := hw.1 c49
        refine qx_bipush (v := -102) (pc := 53) X dX10_call_53 (by decide) ?_
        exact qx_iret (pc := 55) X hr hlk hw dX10_call_55
      · have hw := hw.2 c49
        refine qx_iload (pc := 29) X 5 dX10_call_29 rfl ?_
        refine qx_iconst (v := 0) (pc := 31) X dX10_call_31 (by decide) ?_
        refine qx_sipush (v := 10000) (pc := 32) X dX10_call_32 (by decide) ?_
        refine qx_callSi (pc := 35) X [.int p5, .int (0 : Int32), .int (10000 : Int32)] [] (kX10_in K.2.1 G t1 t2 ad p5 (0 : Int32) (10000 : Int32) s5 _ hw) qx_mcX10_in qx_lRX10_142 qx_sX10_in rfl ⟨rfl, rfl⟩ (by rw [hR]; decide) rfl (Nat.le_of_ble_eq_true rfl) dX10_call_35 ⟨Nat.zero_le _, Nat.zero_le _⟩ (fun r8 s7 hw => ?_)
        refine qx_if_eq (tgt := 53) (pc := 38) X dX10_call_38 (by decide) (fun c48 => ?_) (fun c48 => ?_)
        · have hw := hw.1 c48
          refine qx_bipush (v := -102) (pc := 53) X dX10_call_53 (by decide) ?_
          exact qx_iret (pc := 55) X hr hlk hw dX10_call_55
        · have hw := hw.2 c48
          refine qx_iload (pc := 41) X 6 dX10_call_41 rfl ?_
          refine qx_iconst (v := 1) (pc := 43) X dX10_call_43 (by decide) ?_
          refine qx_sipush (v := 1000) (pc := 44) X dX10_call_44 (by decide) ?_
          refine qx_callSi (pc := 47) X [.int p6, .int (1 : Int32), .int (1000 : Int32)] [] (kX10_in K.2.1 G t1 t2 ad p6 (1 : Int32) (1000 : Int32) s7 _ hw) qx_mcX10_in qx_lRX10_142 qx_sX10_in rfl ⟨rfl, rfl⟩ (by rw [hR]; decide) rfl (Nat.le_of_ble_eq_true rfl) dX10_call_47 ⟨Nat.zero_le _, Nat.zero_le _⟩ (fun r10 s9 hw => ?_)
          refine qx_if_ne (tgt := 56) (pc := 50) X dX10_call_50 (by decide) (fun c47 => ?_) (fun c47 => ?_)
          · have hw := hw.2 c47
            refine qx_aload_n (pc := 56) X 0 dX10_call_56 rfl rfl ?_
            refine qx_getr (f := 30) (i := 0) (a := ad 31 0) (pc := 57) X qx_gRX10_7 qx_me30 rfl dX10_call_57 ?_
            refine qx_iload_n (pc := 60) X 1 dX10_call_60 rfl rfl ?_
            refine qx_iald (f := 31) (i := 0) (pc := 61) X rfl qx_me31 hw.1 dX10_call_61 ?_
            have hw := hw.2
            refine qx_iload (pc := 62) X 5 dX10_call_62 rfl ?_
            refine qx_iload (pc := 64) X 6 dX10_call_64 rfl ?_
            refine qx_iadd (pc := 66) X dX10_call_66 ?_
            refine qx_icmp_lt (tgt := 83) (pc := 67) X dX10_call_67 (by decide) (fun c46 => ?_) (fun c46 => ?_)
            · have hw := hw.1 c46
              refine qx_bipush (v := -103) (pc := 83) X dX10_call_83 (by decide) ?_
              exact qx_iret (pc := 85) X hr hlk hw dX10_call_85
            · have hw := hw.2 c46
              refine qx_aload_n (pc := 70) X 0 dX10_call_70 rfl rfl ?_
              refine qx_getr (f := 30) (i := 0) (a := ad 34 0) (pc := 71) X qx_gRX10_19 qx_me30 rfl dX10_call_71 ?_
              refine qx_iconst (v := 4) (pc := 74) X dX10_call_74 (by decide) ?_
              refine qx_iload_n (pc := 75) X 2 dX10_call_75 rfl rfl ?_
              refine qx_imul (pc := 76) X dX10_call_76 ?_
              refine qx_iload_n (pc := 77) X 3 dX10_call_77 rfl rfl ?_
              refine qx_iadd (pc := 78) X dX10_call_78 ?_
              refine qx_iald (f := 34) (i := 0) (pc := 79) X rfl qx_me34 hw.1 dX10_call_79 ?_
              have hw := hw.2
              refine qx_if_ne (tgt := 86) (pc := 80) X dX10_call_80 (by decide) (fun c45 => ?_) (fun c45 => ?_)
              · have hw := hw.2 c45
                refine qx_aload_n (pc := 86) X 0 dX10_call_86 rfl rfl ?_
                refine qx_iconst (v := 0) (pc := 87) X dX10_call_87 (by decide) ?_
                refine qx_puti1 (f := 30) (i := 0) (pc := 88) X qx_pRX10_156 qx_me30 dX10_call_88 (fun s11 e12 => ?_)
                have hw := hw s11 e12
                refine qx_aload_n (pc := 91) X 0 dX10_call_91 rfl rfl ?_
                refine qx_iconst (v := 0) (pc := 92) X dX10_call_92 (by decide) ?_
                refine qx_puti1 (f := 30) (i := 0) (pc := 93) X qx_pRX10_139 qx_me30 dX10_call_93 (fun s13 e14 => ?_)
                have hw := hw s13 e14
                refine qx_aload_n (pc := 96) X 0 dX10_call_96 rfl rfl ?_
                refine qx_iconst (v := 0) (pc := 97) X dX10_call_97 (by decide) ?_
                refine qx_puti1 (f := 30) (i := 0) (pc := 98) X qx_pRX10_163 qx_me30 dX10_call_98 (fun s15 e16 => ?_)
                have hw := hw s15 e16
                refine qx_aload_n (pc := 101) X 0 dX10_call_101 rfl rfl ?_
                refine qx_iconst (v := 0) (pc := 102) X dX10_call_102 (by decide) ?_
                refine qx_puti1 (f := 30) (i := 0) (pc := 103) X qx_pRX10_136 qx_me30 dX10_call_103 (fun s17 e18 => ?_)
                have hw := hw s17 e18
                refine qx_aload_n (pc := 106) X 0 dX10_call_106 rfl rfl ?_
                refine qx_iconst (v := 0) (pc := 107) X dX10_call_107 (by decide) ?_
                refine qx_puti1 (f := 30) (i := 0) (pc := 108) X qx_pRX10_153 qx_me30 dX10_call_108 (fun s19 e20 => ?_)
                have hw := hw s19 e20
                refine qx_aload_n (pc := 111) X 0 dX10_call_111 rfl rfl ?_
                refine qx_iconst (v := 1) (pc := 112) X dX10_call_112 (by decide) ?_
                refine qx_putz1 (f := 30) (i := 0) (pc := 113) X qx_pRX10_132 qx_me30 (Or.inr rfl) dX10_call_113 (fun s21 e22 => ?_)
                have hw := hw s21 e22
                refine qx_aload_n (pc := 116) X 0 dX10_call_116 rfl rfl ?_
                refine qx_iconst (v := 4) (pc := 117) X dX10_call_117 (by decide) ?_
                refine qx_iload_n (pc := 118) X 2 dX10_call_118 rfl rfl ?_
                refine qx_imul (pc := 119) X dX10_call_119 ?_
                refine qx_iload_n (pc := 120) X 3 dX10_call_120 rfl rfl ?_
                refine qx_iadd (pc := 121) X dX10_call_121 ?_
                refine qx_iload (pc := 122) X 4 dX10_call_122 rfl ?_
                refine qx_iload (pc := 124) X 5 dX10_call_124 rfl ?_
                refine qx_bipush (v := 100) (pc := 126) X dX10_call_126 (by decide) ?_
                refine qx_iload_n (pc := 128) X 1 dX10_call_128 rfl rfl ?_
                refine qx_iadd (pc := 129) X dX10_call_129 ?_
                refine qx_iload (pc := 130) X 6 dX10_call_130 rfl ?_
                refine qx_iconst (v := 0) (pc := 132) X dX10_call_132 (by decide) ?_
                refine qx_iconst (v := 0) (pc := 133) X dX10_call_133 (by decide) ?_
                refine qx_callVv (f := 30) (i := 0) (pc := 134) X [.int (((4 : Int32) * p2) + p3), .int p4, .int p5, .int ((100 : Int32) + p1), .int p6, .int (0 : Int32), .int (0 : Int32)] [] (kX10_enter K.2.1 G t1 t2 ad (((4 : Int32) * p2) + p3) p4 p5 ((100 : Int32) + p1) p6 (0 : Int32) (0 : Int32) s21 _ hw) qx_mcX10_enter qx_lRX10_193 qx_iX10_enter qx_selX10_enter qx_me30 qx_rc30 rfl ⟨rfl, rfl⟩ (by rw [hR]; decide) rfl (Nat.le_of_ble_eq_true rfl) dX10_call_134 ⟨Nat.zero_le _, Nat.zero_le _⟩ (fun s23 hw => ?_)
                obtain ⟨n, hw⟩ := hw
                exact L137 n p1 p2 p3 p4 p5 p6 s23 hw
              · have hw := hw.1 c45
                refine qx_bipush (v := -103) (pc := 83) X dX10_call_83 (by decide) ?_
                exact qx_iret (pc := 85) X hr hlk hw dX10_call_85
          · have hw := hw.1 c47
            refine qx_bipush (v := -102) (pc := 53) X dX10_call_53 (by decide) ?_
            exact qx_iret (pc := 55) X hr hlk hw dX10_call_55
    · have hw := hw.2 c50
      refine qx_bipush (v := -101) (pc := 17) X dX10_call_17 (by decide) ?_
      exact qx_iret (pc := 19) X hr hlk hw dX10_call_19
def wX10_told (p1 : Int32) (σ : qx_St) (post : Int32 → qx_St → Prop) : Prop := wX10_in p1 (0 : Int32) (5 : Int32) σ (fun r2 s1 => ((r2 = 0 → post (-102 : Int32) s1) ∧ (¬ (r2 = 0) → (((s1 30 0 44) = 0 → post (-103 : Int32) s1) ∧ (¬ ((s1 30 0 44) = 0) → ((p1 = (0 : Int32) → post (s1 30 0 45) s1) ∧ (p1 = (1 : Int32) → post (s1 30 0 46) s1) ∧ (p1 = (2 : Int32) → post (s1 30 0 47) s1) ∧ (p1 = (3 : Int32) → post (s1 30 0 36) s1) ∧ (p1 = (4 : Int32) → post (s1 30 0 37) s1) ∧ ((∀ i : Nat, i < 5 → ¬ p1 = Int32.ofInt (0 + i)) → post (s1 30 0 30) s1)))))))
set_option maxHeartbeats 4000000 in
set_option maxRecDepth 100000 in
theorem kX10_told (l : Launch) (G : qx_Gx) (t1 t2 : Nat) (ad : Nat → Nat → Nat) (p1 : Int32) (σ : qx_St) (post : Int32 → qx_St → Prop) (hw : wX10_told p1 σ post) : qx_Mi l G t1 t2 (qx_w0 ad) yX10_told cX10_told 2 (some .int) { frames := 1, cells := 0, slots := 0, locals := 22 } [.ref (ad 30 0), .int p1] σ post := by
  unfold wX10_told at hw
  refine qx_start qx_mcX10_told (Nat.le_of_ble_eq_true rfl) (fun K hKl hR X hr hlk => ?_)
  subst hKl
  refine (show qx_V K G 2 0 0 (MQ K.2.2.2.2.2.2.2.1 (va_Qi post (qx_B G (qx_w0 ad)) G.2.2) K.2.2.2.2.2.2.1 K.2.2.2.2.1 0 0 G.2.2) (qx_w0 ad) σ 0 [(0, .ref (ad 30 0)), (1, .int p1)] [] from ?_)
  refine qx_iload_n (pc := 0) X 1 dX10_told_0 rfl rfl ?_
  refine qx_iconst (v := 0) (pc := 1) X dX10_told_1 (by decide) ?_
  refine qx_iconst (v := 5) (pc := 2) X dX10_told_2 (by decide) ?_
  refine qx_callSi (pc := 3) X [.int p1, .int (0 : Int32), .int (5 : Int32)] [] (kX10_in K.2.1 G t1 t2 ad p1 (0 : Int32) (5 : Int32) σ _ hw) qx_mcX10_in qx_lRX10_142 qx_sX10_in rfl ⟨rfl, rfl⟩ (by rw [hR]; decide) rfl (Nat.le_of_ble_eq_true rfl) dX10_told_3 ⟨Nat.zero_le _, Nat.zero_le _⟩ (fun r2 s1 hw => ?_)
  refine qx_if_ne (tgt := 12) (pc := 6) X dX10_told_6 (by decide) (fun c5 => ?_) (fun c5 => ?_)
  · have hw := hw.2 c5
    refine qx_aload_n (pc := 12) X 0 dX10_told_12 rfl rfl ?_
    refine qx_geti (f := 30) (i := 0) (pc := 13) X qx_gRX10_132 qx_me30 dX10_told_13 ?_
    refine qx_if_ne (tgt := 22) (pc := 16) X dX10_told_16 (by decide) (fun c4 => ?_) (fun c4 => ?_)
    · have hw := hw.2 c4
      refine qx_iload_n (pc := 22) X 1 dX10_told_22 rfl rfl ?_
      refine qx_switch (pc := 23) X (tgt := 81) (fun i => ([56, 61, 66, 71, 76] : List Nat).getD i 0) dX10_told_23 (by decide) (by decide) (by decide) (by decide) ?_ ?_
      · intro i hi s3
        have hi2 : i < 5 := hi
        rcases (show i = 0 ∨ i = 1 ∨ i = 2 ∨ i = 3 ∨ i = 4 by omega) with rfl | rfl | rfl | rfl | rfl
        · have hw := hw.1 (s3.trans (by decide))
          refine qx_aload_n (pc := 56) X 0 dX10_told_56 rfl rfl ?_
          refine qx_geti (f := 30) (i := 0) (pc := 57) X qx_gRX10_175 qx_me30 dX10_told_57 ?_
          exact qx_iret (pc := 60) X hr hlk hw dX10_told_60
        · have hw := hw.2.1 (s3.trans (by decide))
          refine qx_aload_n (pc := 61) X 0 dX10_told_61 rfl rfl ?_
          refine qx_geti (f := 30) (i := 0) (pc := 62) X qx_gRX10_169 qx_me30 dX10_told_62 ?_
          exact qx_iret (pc := 65) X hr hlk hw dX10_told_65
        · have hw := hw.2.2.1 (s3.trans (by decide))
          refine qx_aload_n (pc := 66) X 0 dX10_told_66 rfl rfl ?_
          refine qx_geti (f := 30) (i := 0) (pc := 67) X qx_gRX10_229 qx_me30 dX10_told_67 ?_
          exact qx_iret (pc := 70) X hr hlk hw dX10_told_70
        · have hw := hw.2.2.2.1 (s3.trans (by decide))
          refine qx_aload_n (pc := 71) X 0 dX10_told_71 rfl rfl ?_
          refine qx_geti (f := 30) (i := 0) (pc := 72) X qx_gRX10_139 qx_me30 dX10_told_72 ?_
          exact qx_iret (pc := 75) X hr hlk hw dX10_told_75
        · have hw := hw.2.2.2.2.1 (s3.trans (by decide))
          refine qx_aload_n (pc := 76) X 0 dX10_told_76 rfl rfl ?_
          refine qx_geti (f := 30) (i := 0) (pc := 77) X qx_gRX10_163 qx_me30 dX10_told_77 ?_
          exact qx_iret (pc := 80) X hr hlk hw dX10_told_80
      · intro s3
        have hw := hw.2.2.2.2.2 s3
        refine qx_aload_n (pc := 81) X 0 dX10_told_81 rfl rfl ?_
        refine qx_geti (f := 30) (i := 0) (pc := 82) X qx_gRX10_136 qx_me30 dX10_told_82 ?_
        exact qx_iret (pc := 85) X hr hlk hw dX10_told_85
    · have hw := hw.1 c4
      refine qx_bipush (v := -103) (pc := 19) X dX10_told_19 (by decide) ?_
      exact qx_iret (pc := 21) X hr hlk hw dX10_told_21
  · have hw := hw.1 c5
    refine qx_bipush (v := -102) (pc := 9) X dX10_told_9 (by decide) ?_
    exact qx_iret (pc := 11) X hr hlk hw dX10_told_11
def wX10_frame_j40 (p1 : Int32) (p2 : Int32) (post : Int32 → qx_St → Prop) (a1 : Int32) (a2 : Int32) (b0 : Int32) (b1 : Int32) (b2 : Int32) (σ : qx_St) : Prop := wX10_in b2 b1 (b0 - (1 : Int32)) σ (fun r4 s3 => ((r4 = 0 → post (-109 : Int32) s3) ∧ (¬ (r4 = 0) → ((a2 = (0 : Int32) → (vp_in a1 40 ∧ post ((s3 60 0 a1.toNatClampNeg) / (4 : Int32)) s3)) ∧ (a2 = (1 : Int32) → (vp_in a1 40 ∧ post ((s3 60 0 a1.toNatClampNeg) - (s3 60 0 a1.toNatClampNeg) / (4 : Int32) * (4 : Int32)) s3)) ∧ (a2 = (2 : Int32) → (vp_in a1 40 ∧ post (s3 61 0 a1.toNatClampNeg) s3)) ∧ (a2 = (3 : Int32) → (vp_in a1 40 ∧ post (s3 62 0 a1.toNatClampNeg) s3)) ∧ (a2 = (4 : Int32) → (vp_in a1 40 ∧ post (s3 63 0 a1.toNatClampNeg) s3)) ∧ (a2 = (5 : Int32) → (vp_in a1 40 ∧ post (s3 64 0 a1.toNatClampNeg) s3)) ∧ ((∀ i : Nat, i < 6 → ¬ a2 = Int32.ofInt (0 + i)) → (vp_in a1 40 ∧ (((s3 65 0 a1.toNatClampNeg) = 0 → post (0 : Int32) s3) ∧ (¬ ((s3 65 0 a1.toNatClampNeg) = 0) → post (1 : Int32) s3))))))))
def wX10_frame (p1 : Int32) (p2 : Int32) (σ : qx_St) (post : Int32 → qx_St → Prop) : Prop := wX10_in p2 (0 : Int32) (6 : Int32) σ (fun r2 s1 => ((r2 = 0 → post (-102 : Int32) s1) ∧ (¬ (r2 = 0) → (((s1 30 0 44) = 0 → post (-109 : Int32) s1) ∧ (¬ ((s1 30 0 44) = 0) → (((40 : Int32) ≤ (s1 30 0 36) → wX10_frame_j40 p1 p2 post p1 p2 (40 : Int32) (0 : Int32) p1 s1) ∧ (¬ ((40 : Int32) ≤ (s1 30 0 36)) → wX10_frame_j40 p1 p2 post p1 p2 (s1 30 0 36) (0 : Int32) p1 s1)))))))
set_option maxHeartbeats 4000000 in
set_option maxRecDepth 100000 in
theorem kX10_frame (l : Launch) (G : qx_Gx) (t1 t2 : Nat) (ad : Nat → Nat → Nat) (p1 : Int32) (p2 : Int32) (σ : qx_St) (post : Int32 → qx_St → Prop) (hw : wX10_frame p1 p2 σ post) : qx_Mi l G t1 t2 (qx_w0 ad) yX10_frame cX10_frame 3 (some .int) { frames := 1, cells := 0, slots := 0, locals := 22 } [.ref (ad 30 0), .int p1, .int p2] σ post := by
  unfold wX10_frame at hw
  refine qx_start qx_mcX10_frame (Nat.le_of_ble_eq_true rfl) (fun K hKl hR X hr hlk => ?_)
  subst hKl
  have J40 : ∀ (a1 : Int32) (a2 : Int32) (b0 : Int32) (b1 : Int32) (b2 : Int32) (σ : qx_St), wX10_frame_j40 p1 p2 post a1 a2 b0 b1 b2 σ → qx_V K G 3 0 0 (MQ K.2.2.2.2.2.2.2.1 (va_Qi post (qx_B G (qx_w0 ad)) G.2.2) K.2.2.2.2.2.2.1 K.2.2.2.2.1 0 0 G.2.2) (qx_w0 ad) σ 40 [(0, .ref (ad 30 0)), (1, .int a1), (2, .int a2)] [.int b0, .int b1, .int b2] := by
    intro a1 a2 b0 b1 b2 σ hw
    unfold wX10_frame_j40 at hw
    refine qx_iconst (v := 1) (pc := 40) X dX10_frame_40 (by decide) ?_
    refine qx_isub (pc := 41) X dX10_frame_41 ?_
    refine qx_callSi (pc := 42) X [.int b2, .int b1, .int (b0 - (1 : Int32))] [] (kX10_in K.2.1 G t1 t2 ad b2 b1 (b0 - (1 : Int32)) σ _ hw) qx_mcX10_in qx_lRX10_142 qx_sX10_in rfl ⟨rfl, rfl⟩ (by rw [hR]; decide) rfl (Nat.le_of_ble_eq_true rfl) dX10_frame_42 ⟨Nat.zero_le _, Nat.zero_le _⟩ (fun r4 s3 hw => ?_)
    refine qx_if_ne (tgt := 51) (pc := 45) X dX10_frame_45 (by decide) (fun c7 => ?_) (fun c7 => ?_)
    · have hw := hw.2 c7
      refine qx_iload_n (pc := 51) X 2 dX10_frame_51 rfl rfl ?_
      refine qx_switch (pc := 52) X (tgt := 138) (fun i => ([92, 101, 110, 117, 124, 131] : List Nat).getD i 0) dX10_frame_52 (by decide) (by decide) (by decide) (by decide) ?_ ?_
      · intro i hi s5
        have hi2 : i < 6 := hi
        rcases (show i = 0 ∨ i = 1 ∨ i = 2 ∨ i = 3 ∨ i = 4 ∨ i = 5 by omega) with rfl | rfl | rfl | rfl | rfl | rfl
        · have hw := hw.1 (s5.trans (by decide))
          refine qx_aload_n (pc := 92) X 0 dX10_frame_92 rfl rfl ?_
          refine qx_getr (f := 30) (i := 0) (a := ad 60 0) (pc := 93) X qx_gRX10_98 qx_me30 rfl dX10_frame_93 ?_
          refine qx_iload_n (pc := 96) X 1 dX10_frame_96 rfl rfl ?_
          refine qx_iald (f := 60) (i := 0) (pc := 97) X rfl qx_me60 hw.1 dX10_frame_97 ?_
          have hw := hw.2
          refine qx_iconst (v := 4) (pc := 98) X dX10_frame_98 (by decide) ?_
          refine qx_idiv (pc := 99) X dX10_frame_99 (by decide) ?_
          exact qx_iret (pc := 100) X hr hlk hw dX10_frame_100
        · have hw := hw.2.1 (s5.trans (by decide))
          refine qx_aload_n (pc := 101) X 0 dX10_frame_101 rfl rfl ?_
          refine qx_getr (f := 30) (i := 0) (a := ad 60 0) (pc := 102) X qx_gRX10_98 qx_me30 rfl dX10_frame_102 ?_
          refine qx_iload_n (pc := 105) X 1 dX10_frame_105 rfl rfl ?_
          refine qx_iald (f := 60) (i := 0) (pc := 106) X rfl qx_me60 hw.1 dX10_frame_106 ?_
          have hw := hw.2
          refine qx_iconst (v := 4) (pc := 107) X dX10_frame_107 (by decide) ?_
          refine qx_irem (pc := 108) X dX10_frame_108 (by decide) ?_
          exact qx_iret (pc := 109) X hr hlk hw dX10_frame_109
        · have hw := hw.2.2.1 (s5.trans (by decide))
          refine qx_aload_n (pc := 110) X 0 dX10_frame_110 rfl rfl ?_
          refine qx_getr (f := 30) (i := 0) (a := ad 61 0) (pc := 111) X qx_gRX10_101 qx_me30 rfl dX10_frame_111 ?_
          refine qx_iload_n (pc := 114) X 1 dX10_frame_114 rfl rfl ?_
          refine qx_iald (f := 61) (i := 0) (pc := 115) X rfl qx_me61 hw.1 dX10_frame_115 ?_
          have hw := hw.2
          exact qx_iret (pc := 116) X hr hlk hw dX10_frame_116
        · have hw := hw.2.2.2.1 (s5.trans (by decide))
          refine qx_aload_n (pc := 117) X 0 dX10_frame_117 rfl rfl ?_
          refine qx_getr (f := 30) (i := 0) (a := ad 62 0) (pc := 118) X qx_gRX10_104 qx_me30 rfl dX10_frame_118 ?_
          refine qx_iload_n (pc := 121) X 1 dX10_frame_121 rfl rfl ?_
          refine qx_iald (f := 62) (i := 0) (pc := 122) X rfl qx_me62 hw.1 dX10_frame_122 ?_
          have hw := hw.2
          exact qx_iret (pc := 123) X hr hlk hw dX10_frame_123
        · have hw := hw.2.2.2.2.1 (s5.trans (by decide))
          refine qx_aload_n (pc := 124) X 0 dX10_frame_124 rfl rfl ?_
          refine qx_getr (f := 30) (i := 0) (a := ad 63 0) (pc := 125) X qx_gRX10_107 qx_me30 rfl dX10_frame_125 ?_
          refine qx_iload_n (pc := 128) X 1 dX10_frame_128 rfl rfl ?_
          refine qx_iald (f := 63) (i := 0) (pc := 129) X rfl qx_me63 hw.1 dX10_frame_129 ?_
          have hw := hw.2
          exact qx_iret (pc := 130) X hr hlk hw dX10_frame_130
        · have hw := hw.2.2.2.2.2.1 (s5.trans (by decide))
          refine qx_aload_n (pc := 131) X 0 dX10_frame_131 rfl rfl ?_
          refine qx_getr (f := 30) (i := 0) (a := ad 64 0) (pc := 132) X qx_gRX10_110 qx_me30 rfl dX10_frame_132 ?_
          refine qx_iload_n (pc := 135) X 1 dX10_frame_135 rfl rfl ?_
          refine qx_iald (f := 64) (i := 0) (pc := 136) X rfl qx_me64 hw.1 dX10_frame_136 ?_
          have hw := hw.2
          exact qx_iret (pc := 137) X hr hlk hw dX10_frame_137
      · intro s5
        have hw := hw.2.2.2.2.2.2 s5
        refine qx_aload_n (pc := 138) X 0 dX10_frame_138 rfl rfl ?_
        refine qx_getr (f := 30) (i := 0) (a := ad 65 0) (pc := 139) X qx_gRX10_113 qx_me30 rfl dX10_frame_139 ?_
        refine qx_iload_n (pc := 142) X 1 dX10_frame_142 rfl rfl ?_
        refine qx_zald (f := 65) (i := 0) (pc := 143) X rfl qx_me65 hw.1 dX10_frame_143 ?_
        have hw := hw.2
        refine qx_if_eq (tgt := 151) (pc := 144) X dX10_frame_144 (by decide) (fun c6 => ?_) (fun c6 => ?_)
        · have hw := hw.1 c6
          refine qx_iconst (v := 0) (pc := 151) X dX10_frame_151 (by decide) ?_
          exact qx_iret (pc := 152) X hr hlk hw dX10_frame_152
        · have hw := hw.2 c6
          refine qx_iconst (v := 1) (pc := 147) X dX10_frame_147 (by decide) ?_
          refine qx_goto (tgt := 152) (pc := 148) X dX10_frame_148 (by decide) ?_
          exact qx_iret (pc := 152) X hr hlk hw dX10_frame_152
    · have hw := hw.1 c7
      refine qx_bipush (v := -109) (pc := 48) X dX10_frame_48 (by decide) ?_
      exact qx_iret (pc := 50) X hr hlk hw dX10_frame_50
  refine (show qx_V K G 3 0 0 (MQ K.2.2.2.2.2.2.2.1 (va_Qi post (qx_B G (qx_w0 ad)) G.2.2) K.2.2.2.2.2.2.1 K.2.2.2.2.1 0 0 G.2.2) (qx_w0 ad) σ 0 [(0, .ref (ad 30 0)), (1, .int p1), (2, .int p2)] [] from ?_)
  refine qx_iload_n (pc := 0) X 2 dX10_frame_0 rfl rfl ?_
  refine qx_iconst (v := 0) (pc := 1) X dX10_frame_1 (by decide) ?_
  refine qx_bipush (v := 6) (pc := 2) X dX10_frame_2 (by decide) ?_
  refine qx_callSi (pc := 4) X [.int p2, .int (0 : Int32), .int (6 : Int32)] [] (kX10_in K.2.1 G t1 t2 ad p2 (0 : Int32) (6 : Int32) σ _ hw) qx_mcX10_in qx_lRX10_142 qx_sX10_in rfl ⟨rfl, rfl⟩ (by rw [hR]; decide) rfl (Nat.le_of_ble_eq_true rfl) dX10_frame_4 ⟨Nat.zero_le _, Nat.zero_le _⟩ (fun r2 s1 hw => ?_)
  refine qx_if_ne (tgt := 13) (pc := 7) X dX10_frame_7 (by decide) (fun c10 => ?_) (fun c10 => ?_)
  · have hw := hw.2 c10
    refine qx_aload_n (pc := 13) X 0 dX10_frame_13 rfl rfl ?_
    refine qx_geti (f := 30) (i := 0) (pc := 14) X qx_gRX10_132 qx_me30 dX10_frame_14 ?_
    refine qx_if_eq (tgt := 48) (pc := 17) X dX10_frame_17 (by decide) (fun c9 => ?_) (fun c9 => ?_)
    · have hw := hw.1 c9
      refine qx_bipush (v := -109) (pc := 48) X dX10_frame_48 (by decide) ?_
      exact qx_iret (pc := 50) X hr hlk hw dX10_frame_50
    · have hw := hw.2 c9
      refine qx_iload_n (pc := 20) X 1 dX10_frame_20 rfl rfl ?_
      refine qx_iconst (v := 0) (pc := 21) X dX10_frame_21 (by decide) ?_
      refine qx_aload_n (pc := 22) X 0 dX10_frame_22 rfl rfl ?_
      refine qx_geti (f := 30) (i := 0) (pc := 23) X qx_gRX10_139 qx_me30 dX10_frame_23 ?_
      refine qx_bipush (v := 40) (pc := 26) X dX10_frame_26 (by decide) ?_
      refine qx_icmp_ge (tgt := 38) (pc := 28) X dX10_frame_28 (by decide) (fun c8 => ?_) (fun c8 => ?_)
      · have hw := hw.1 c8
        refine qx_bipush (v := 40) (pc := 38) X dX10_frame_38 (by decide) ?_
        exact J40 p1 p2 (40 : Int32) (0 : Int32) p1 s1 hw
      · have hw := hw.2 c8
        refine qx_aload_n (pc := 31) X 0 dX10_frame_31 rfl rfl ?_
        refine qx_geti (f := 30) (i := 0) (pc := 32) X qx_gRX10_139 qx_me30 dX10_frame_32 ?_
        refine qx_goto (tgt := 40) (pc := 35) X dX10_frame_35 (by decide) ?_
        exact J40 p1 p2 (s1 30 0 36) (0 : Int32) p1 s1 hw
  · have hw := hw.1 c10
    refine qx_bipush (v := -102) (pc := 10) X dX10_frame_10 (by decide) ?_
    exact qx_iret (pc := 12) X hr hlk hw dX10_frame_12
def wX10_event (p1 : Int32) (p2 : Int32) (σ : qx_St) (post : Int32 → qx_St → Prop) : Prop := wX10_in p2 (0 : Int32) (3 : Int32) σ (fun r2 s1 => ((r2 = 0 → post (-102 : Int32) s1) ∧ (¬ (r2 = 0) → wX10_in p1 (0 : Int32) ((s1 30 0 30) - (1 : Int32)) s1 (fun r4 s3 => ((r4 = 0 → post (-109 : Int32) s3) ∧ (¬ (r4 = 0) → ((p2 = 0 → (vp_in p1 60 ∧ post (s3 56 0 p1.toNatClampNeg) s3)) ∧ (¬ (p2 = 0) → ((p2 = (1 : Int32) → (vp_in p1 60 ∧ post (s3 57 0 p1.toNatClampNeg) s3)) ∧ (¬ (p2 = (1 : Int32)) → ((p2 = (2 : Int32) → (vp_in p1 60 ∧ post (s3 58 0 p1.toNatClampNeg) s3)) ∧ (¬ (p2 = (2 : Int32)) → (vp_in p1 60 ∧ post (s3 59 0 p1.toNatClampNeg) s3)))))))))))))
set_option maxHeartbeats 4000000 in
set_option maxRecDepth 100000 in
theorem kX10_event (l : Launch) (G : qx_Gx) (t1 t2 : Nat) (ad : Nat → Nat → Nat) (p1 : Int32) (p2 : Int32) (σ : qx_St) (post : Int32 → qx_St → Prop) (hw : wX10_event p1 p2 σ post) : qx_Mi l G t1 t2 (qx_w0 ad) yX10_event cX10_event 3 (some .int) { frames := 1, cells := 0, slots := 0, locals := 22 } [.ref (ad 30 0), .int p1, .int p2] σ post := by
  unfold wX10_event at hw
  refine qx_start qx_mcX10_event (Nat.le_of_ble_eq_true rfl) (fun K hKl hR X hr hlk => ?_)
  subst hKl
  refine (show qx_V K G 3 0 0 (MQ K.2.2.2.2.2.2.2.1 (va_Qi post (qx_B G (qx_w0 ad)) G.2.2) K.2.2.2.2.2.2.1 K.2.2.2.2.1 0 0 G.2.2) (qx_w0 ad) σ 0 [(0, .ref (ad 30 0)), (1, .int p1), (2, .int p2)] [] from ?_)
  refine qx_iload_n (pc := 0) X 2 dX10_event_0 rfl rfl ?_
  refine qx_iconst (v := 0) (pc := 1) X dX10_event_1 (by decide) ?_
  refine qx_iconst (v := 3) (pc := 2) X dX10_event_2 (by decide) ?_
  refine qx_callSi (pc := 3) X [.int p2, .int (0 : Int32), .int (3 : Int32)] [] (kX10_in K.2.1 G t1 t2 ad p2 (0 : Int32) (3 : Int32) σ _ hw) qx_mcX10_in qx_lRX10_142 qx_sX10_in rfl ⟨rfl, rfl⟩ (by rw [hR]; decide) rfl (Nat.le_of_ble_eq_true rfl) dX10_event_3 ⟨Nat.zero_le _, Nat.zero_le _⟩ (fun r2 s1 hw => ?_)
  refine qx_if_ne (tgt := 12) (pc := 6) X dX10_event_6 (by decide) (fun c9 => ?_) (fun c9 => ?_)
  · have hw := hw.2 c9
    refine qx_iload_n (pc := 12) X 1 dX10_event_12 rfl rfl ?_
    refine qx_iconst (v := 0) (pc := 13) X dX10_event_13 (by decide) ?_
    refine qx_aload_n (pc := 14) X 0 dX10_event_14 rfl rfl ?_
    refine qx_geti (f := 30) (i := 0) (pc := 15) X qx_gRX10_136 qx_me30 dX10_event_15 ?_
    refine qx_iconst (v := 1) (pc := 18) X dX10_event_18 (by decide) ?_
    refine qx_isub (pc := 19) X dX10_event_19 ?_
    refine qx_callSi (pc := 20) X [.int p1, .int (0 : Int32), .int ((s1 30 0 30) - (1 : Int32))] [] (kX10_in K.2.1 G t1 t2 ad p1 (0 : Int32) ((s1 30 0 30) - (1 : Int32)) s1 _ hw) qx_mcX10_in qx_lRX10_142 qx_sX10_in rfl ⟨rfl, rfl⟩ (by rw [hR]; decide) rfl (Nat.le_of_ble_eq_true rfl) dX10_event_20 ⟨Nat.zero_le _, Nat.zero_le _⟩ (fun r4 s3 hw => ?_)
    refine qx_if_ne (tgt := 29) (pc := 23) X dX10_event_23 (by decide) (fun c8 => ?_) (fun c8 => ?_)
    · have hw := hw.2 c8
      refine qx_iload_n (pc := 29) X 2 dX10_event_29 rfl rfl ?_
      refine qx_if_ne (tgt := 42) (pc := 30) X dX10_event_30 (by decide) (fun c7 => ?_) (fun c7 => ?_)
      · have hw := hw.2 c7
        refine qx_iload_n (pc := 42) X 2 dX10_event_42 rfl rfl ?_
        refine qx_iconst (v := 1) (pc := 43) X dX10_event_43 (by decide) ?_
        refine qx_icmp_ne (tgt := 56) (pc := 44) X dX10_event_44 (by decide) (fun c6 => ?_) (fun c6 => ?_)
        · have hw := hw.2 c6
          refine qx_iload_n (pc := 56) X 2 dX10_event_56 rfl rfl ?_
          refine qx_iconst (v := 2) (pc := 57) X dX10_event_57 (by decide) ?_
          refine qx_icmp_ne (tgt := 70) (pc := 58) X dX10_event_58 (by decide) (fun c5 => ?_) (fun c5 => ?_)
          · have hw := hw.2 c5
            refine qx_aload_n (pc := 70) X 0 dX10_event_70 rfl rfl ?_
            refine qx_getr (f := 30) (i := 0) (a := ad 59 0) (pc := 71) X qx_gRX10_95 qx_me30 rfl dX10_event_71 ?_
            refine qx_iload_n (pc := 74) X 1 dX10_event_74 rfl rfl ?_
            refine qx_iald (f := 59) (i := 0) (pc := 75) X rfl qx_me59 hw.1 dX10_event_75 ?_
            have hw := hw.2
            exact qx_iret (pc := 76) X hr hlk hw dX10_event_76
          · have hw := hw.1 c5
            refine qx_aload_n (pc := 61) X 0 dX10_event_61 rfl rfl ?_
            refine qx_getr (f := 30) (i := 0) (a := ad 58 0) (pc := 62) X qx_gRX10_92 qx_me30 rfl dX10_event_62 ?_
            refine qx_iload_n (pc := 65) X 1 dX10_event_65 rfl rfl ?_
            refine qx_iald (f := 58) (i := 0) (pc := 66) X rfl qx_me58 hw.1 dX10_event_66 ?_
            have hw := hw.2
            refine qx_goto (tgt := 76) (pc := 67) X dX10_event_67 (by decide) ?_
            exact qx_iret (pc := 76) X hr hlk hw dX10_event_76
        · have hw := hw.1 c6
          refine qx_aload_n (pc := 47) X 0 dX10_event_47 rfl rfl ?_
          refine qx_getr (f := 30) (i := 0) (a := ad 57 0) (pc := 48) X qx_gRX10_89 qx_me30 rfl dX10_event_48 ?_
          refine qx_iload_n (pc := 51) X 1 dX10_event_51 rfl rfl ?_
          refine qx_iald (f := 57) (i := 0) (pc := 52) X rfl qx_me57 hw.1 dX10_event_52 ?_
          have hw := hw.2
          refine qx_goto (tgt := 76) (pc := 53) X dX10_event_53 (by decide) ?_
          exact qx_iret (pc := 76) X hr hlk hw dX10_event_76
      · have hw := hw.1 c7
        refine qx_aload_n (pc := 33) X 0 dX10_event_33 rfl rfl ?_
        refine qx_getr (f := 30) (i := 0) (a := ad 56 0) (pc := 34) X qx_gRX10_86 qx_me30 rfl dX10_event_34 ?_
        refine qx_iload_n (pc := 37) X 1 dX10_event_37 rfl rfl ?_
        refine qx_iald (f := 56) (i := 0) (pc := 38) X rfl qx_me56 hw.1 dX10_event_38 ?_
        have hw := hw.2
        refine qx_goto (tgt := 76) (pc := 39) X dX10_event_39 (by decide) ?_
        exact qx_iret (pc := 76) X hr hlk hw dX10_event_76
    · have hw := hw.1 c8
      refine qx_bipush (v := -109) (pc := 26) X dX10_event_26 (by decide) ?_
      exact qx_iret (pc := 28) X hr hlk hw dX10_event_28
  · have hw := hw.1 c9
    refine qx_bipush (v := -102) (pc := 9) X dX10_event_9 (by decide) ?_
    exact qx_iret (pc := 11) X hr hlk hw dX10_event_11
def wX10_store (p1 : Int32) (p2 : Int32) (σ : qx_St) (post : Int32 → qx_St → Prop) : Prop := wX10_noContract p1 σ (fun r2 s1 => ((r2 = 0 → wX10_in p2 (0 : Int32) (7 : Int32) s1 (fun r4 s3 => ((r4 = 0 → post (-109 : Int32) s3) ∧ (¬ (r4 = 0) → (vp_in (((8 : Int32) * p1) + p2) 64 ∧ post (s3 33 0 (((8 : Int32) * p1) + p2).toNatClampNeg) s3))))) ∧ (¬ (r2 = 0) → post (-101 : Int32) s1)))
set_option maxHeartbeats 4000000 in
set_option maxRecDepth 100000 in
theorem kX10_store (l : Launch) (G : qx_Gx) (t1 t2 : Nat) (ad : Nat → Nat → Nat) (p1 : Int32) (p2 : Int32) (σ : qx_St) (post : Int32 → qx_St → Prop) (hw : wX10_store p1 p2 σ post) : qx_Mi l G t1 t2 (qx_w0 ad) yX10_store cX10_store 3 (some .int) { frames := 2, cells := 0, slots := 0, locals := 43 } [.ref (ad 30 0), .int p1, .int p2] σ post := by
  unfold wX10_store at hw
  refine qx_start qx_mcX10_store (Nat.le_of_ble_eq_true rfl) (fun K hKl hR X hr hlk => ?_)
  subst hKl
  refine (show qx_V K G 3 0 0 (MQ K.2.2.2.2.2.2.2.1 (va_Qi post (qx_B G (qx_w0 ad)) G.2.2) K.2.2.2.2.2.2.1 K.2.2.2.2.1 0 0 G.2.2) (qx_w0 ad) σ 0 [(0, .ref (ad 30 0)), (1, .int p1), (2, .int p2)] [] from ?_)
  refine qx_aload_n (pc := 0) X 0 dX10_store_0 rfl rfl ?_
  refine qx_iload_n (pc := 1) X 1 dX10_store_1 rfl rfl ?_
  refine qx_callVi (f := 30) (i := 0) (pc := 2) X [.int p1] [] (kX10_noContract K.2.1 G t1 t2 ad p1 σ _ hw) qx_mcX10_noContract qx_lRX10_146 qx_iX10_noContract qx_selX10_noContract qx_me30 qx_rc30 rfl ⟨rfl, rfl⟩ (by rw [hR]; decide) rfl (Nat.le_of_ble_eq_true rfl) dX10_store_2 ⟨Nat.zero_le _, Nat.zero_le _⟩ (fun r2 s1 hw => ?_)
  refine qx_if_eq (tgt := 11) (pc := 5) X dX10_store_5 (by decide) (fun c6 => ?_) (fun c6 => ?_)
  · have hw := hw.1 c6
    refine qx_iload_n (pc := 11) X 2 dX10_store_11 rfl rfl ?_
    refine qx_iconst (v := 0) (pc := 12) X dX10_store_12 (by decide) ?_
    refine qx_bipush (v := 7) (pc := 13) X dX10_store_13 (by decide) ?_
    refine qx_callSi (pc := 15) X [.int p2, .int (0 : Int32), .int (7 : Int32)] [] (kX10_in K.2.1 G t1 t2 ad p2 (0 : Int32) (7 : Int32) s1 _ hw) qx_mcX10_in qx_lRX10_142 qx_sX10_in rfl ⟨rfl, rfl⟩ (by rw [hR]; decide) rfl (Nat.le_of_ble_eq_true rfl) dX10_store_15 ⟨Nat.zero_le _, Nat.zero_le _⟩ (fun r4 s3 hw => ?_)
    refine qx_if_eq (tgt := 35) (pc := 18) X dX10_store_18 (by decide) (fun c5 => ?_) (fun c5 => ?_)
    · have hw := hw.1 c5
      refine qx_bipush (v := -109) (pc := 35) X dX10_store_35 (by decide) ?_
      exact qx_iret (pc := 37) X hr hlk hw dX10_store_37
    · have hw := hw.2 c5
      refine qx_aload_n (pc := 21) X 0 dX10_store_21 rfl rfl ?_
      refine qx_getr (f := 30) (i := 0) (a := ad 33 0) (pc := 22) X qx_gRX10_16 qx_me30 rfl dX10_store_22 ?_
      refine qx_bipush (v := 8) (pc := 25) X dX10_store_25 (by decide) ?_
      refine qx_iload_n (pc := 27) X 1 dX10_store_27 rfl rfl ?_
      refine qx_imul (pc := 28) X dX10_store_28 ?_
      refine qx_iload_n (pc := 29) X 2 dX10_store_29 rfl rfl ?_
      refine qx_iadd (pc := 30) X dX10_store_30 ?_
      refine qx_iald (f := 33) (i := 0) (pc := 31) X rfl qx_me33 hw.1 dX10_store_31 ?_
      have hw := hw.2
      refine qx_goto (tgt := 37) (pc := 32) X dX10_store_32 (by decide) ?_
      exact qx_iret (pc := 37) X hr hlk hw dX10_store_37
  · have hw := hw.2 c6
    refine qx_bipush (v := -101) (pc := 8) X dX10_store_8 (by decide) ?_
    exact qx_iret (pc := 10) X hr hlk hw dX10_store_10
def wX10_coins (p1 : Int32) (p2 : Int32) (σ : qx_St) (post : Int32 → qx_St → Prop) : Prop := wX10_in p1 (0 : Int32) (2 : Int32) σ (fun r2 s1 => ((r2 = 0 → post (-102 : Int32) s1) ∧ (¬ (r2 = 0) → ((p1 = (2 : Int32) → post (s1 30 0 3) s1) ∧ (¬ (p1 = (2 : Int32)) → ((p1 = 0 → wX10_noContract p2 s1 (fun r7 s6 => ((r7 = 0 → (vp_in p2 8 ∧ post (s6 32 0 p2.toNatClampNeg) s6)) ∧ (¬ (r7 = 0) → post (-101 : Int32) s6)))) ∧ (¬ (p1 = 0) → wX10_in p2 (0 : Int32) (3 : Int32) s1 (fun r4 s3 => ((r4 = 0 → post (-101 : Int32) s3) ∧ (¬ (r4 = 0) → (vp_in p2 4 ∧ post (s3 31 0 p2.toNatClampNeg) s3)))))))))))
set_option maxHeartbeats 4000000 in
set_option maxRecDepth 100000 in
theorem kX10_coins (l : Launch) (G : qx_Gx) (t1 t2 : Nat) (ad : Nat → Nat → Nat) (p1 : Int32) (p2 : Int32) (σ : qx_St) (post : Int32 → qx_St → Prop) (hw : wX10_coins p1 p2 σ post) : qx_Mi l G t1 t2 (qx_w0 ad) yX10_coins cX10_coins 3 (some .int) { frames := 2, cells := 0, slots := 0, locals := 43 } [.ref (ad 30 0), .int p1, .int p2] σ post := by
  unfold wX10_coins at hw
  refine qx_start qx_mcX10_coins (Nat.le_of_ble_eq_true rfl) (fun K hKl hR X hr hlk => ?_)
  subst hKl
  refine (show qx_V K G 3 0 0 (MQ K.2.2.2.2.2.2.2.1 (va_Qi post (qx_B G (qx_w0 ad)) G.2.2) K.2.2.2.2.2.2.1 K.2.2.2.2.1 0 0 G.2.2) (qx_w0 ad) σ 0 [(0, .ref (ad 30 0)), (1, .int p1), (2, .int p2)] [] from ?_)
  refine qx_iload_n (pc := 0) X 1 dX10_coins_0 rfl rfl ?_
  refine qx_iconst (v := 0) (pc := 1) X dX10_coins_1 (by decide) ?_
  refine qx_iconst (v := 2) (pc := 2) X dX10_coins_2 (by decide) ?_
  refine qx_callSi (pc := 3) X [.int p1, .int (0 : Int32), .int (2 : Int32)] [] (kX10_in K.2.1 G t1 t2 ad p1 (0 : Int32) (2 : Int32) σ _ hw) qx_mcX10_in qx_lRX10_142 qx_sX10_in rfl ⟨rfl, rfl⟩ (by rw [hR]; decide) rfl (Nat.le_of_ble_eq_true rfl) dX10_coins_3 ⟨Nat.zero_le _, Nat.zero_le _⟩ (fun r2 s1 hw => ?_)
  refine qx_if_ne (tgt := 12) (pc := 6) X dX10_coins_6 (by decide) (fun c11 => ?_) (fun c11 => ?_)
  · have hw := hw.2 c11
    refine qx_iload_n (pc := 12) X 1 dX10_coins_12 rfl rfl ?_
    refine qx_iconst (v := 2) (pc := 13) X dX10_coins_13 (by decide) ?_
    refine qx_icmp_ne (tgt := 22) (pc := 14) X dX10_coins_14 (by decide) (fun c10 => ?_) (fun c10 => ?_)
    · have hw := hw.2 c10
      refine qx_iload_n (pc := 22) X 1 dX10_coins_22 rfl rfl ?_
      refine qx_if_ne (tgt := 46) (pc := 23) X dX10_coins_23 (by decide) (fun c9 => ?_) (fun c9 => ?_)
      · have hw := hw.2 c9
        refine qx_iload_n (pc := 46) X 2 dX10_coins_46 rfl rfl ?_
        refine qx_iconst (v := 0) (pc := 47) X dX10_coins_47 (by decide) ?_
        refine qx_iconst (v := 3) (pc := 48) X dX10_coins_48 (by decide) ?_
        refine qx_callSi (pc := 49) X [.int p2, .int (0 : Int32), .int (3 : Int32)] [] (kX10_in K.2.1 G t1 t2 ad p2 (0 : Int32) (3 : Int32) s1 _ hw) qx_mcX10_in qx_lRX10_142 qx_sX10_in rfl ⟨rfl, rfl⟩ (by rw [hR]; decide) rfl (Nat.le_of_ble_eq_true rfl) dX10_coins_49 ⟨Nat.zero_le _, Nat.zero_le _⟩ (fun r4 s3 hw => ?_)
        refine qx_if_eq (tgt := 64) (pc := 52) X dX10_coins_52 (by decide) (fun c5 => ?_) (fun c5 => ?_)
        · have hw := hw.1 c5
          refine qx_bipush (v := -101) (pc := 64) X dX10_coins_64 (by decide) ?_
          exact qx_iret (pc := 66) X hr hlk hw dX10_coins_66
        · have hw := hw.2 c5
          refine qx_aload_n (pc := 55) X 0 dX10_coins_55 rfl rfl ?_
          refine qx_getr (f := 30) (i := 0) (a := ad 31 0) (pc := 56) X qx_gRX10_7 qx_me30 rfl dX10_coins_56 ?_
          refine qx_iload_n (pc := 59) X 2 dX10_coins_59 rfl rfl ?_
          refine qx_iald (f := 31) (i := 0) (pc := 60) X rfl qx_me31 hw.1 dX10_coins_60 ?_
          have hw := hw.2
          refine qx_goto (tgt := 66) (pc := 61) X dX10_coins_61 (by decide) ?_
          exact qx_iret (pc := 66) X hr hlk hw dX10_coins_66
      · have hw := hw.1 c9
        refine qx_aload_n (pc := 26) X 0 dX10_coins_26 rfl rfl ?_
        refine qx_iload_n (pc := 27) X 2 dX10_coins_27 rfl rfl ?_
        refine qx_callVi (f := 30) (i := 0) (pc := 28) X [.int p2] [] (kX10_noContract K.2.1 G t1 t2 ad p2 s1 _ hw) qx_mcX10_noContract qx_lRX10_146 qx_iX10_noContract qx_selX10_noContract qx_me30 qx_rc30 rfl ⟨rfl, rfl⟩ (by rw [hR]; decide) rfl (Nat.le_of_ble_eq_true rfl) dX10_coins_28 ⟨Nat.zero_le _, Nat.zero_le _⟩ (fun r7 s6 hw => ?_)
        refine qx_if_eq (tgt := 39) (pc := 31) X dX10_coins_31 (by decide) (fun c8 => ?_) (fun c8 => ?_)
        · have hw := hw.1 c8
          refine qx_aload_n (pc := 39) X 0 dX10_coins_39 rfl rfl ?_
          refine qx_getr (f := 30) (i := 0) (a := ad 32 0) (pc := 40) X qx_gRX10_13 qx_me30 rfl dX10_coins_40 ?_
          refine qx_iload_n (pc := 43) X 2 dX10_coins_43 rfl rfl ?_
          refine qx_iald (f := 32) (i := 0) (pc := 44) X rfl qx_me32 hw.1 dX10_coins_44 ?_
          have hw := hw.2
          exact qx_iret (pc := 45) X hr hlk hw dX10_coins_45
        · have hw := hw.2 c8
          refine qx_bipush (v := -101) (pc := 34) X dX10_coins_34 (by decide) ?_
          refine qx_goto (tgt := 45) (pc := 36) X dX10_coins_36 (by decide) ?_
          exact qx_iret (pc := 45) X hr hlk hw dX10_coins_45
    · have hw := hw.1 c10
      refine qx_aload_n (pc := 17) X 0 dX10_coins_17 rfl rfl ?_
      refine qx_geti (f := 30) (i := 0) (pc := 18) X qx_gRX10_123 qx_me30 dX10_coins_18 ?_
      exact qx_iret (pc := 21) X hr hlk hw dX10_coins_21
  · have hw := hw.1 c11
    refine qx_bipush (v := -102) (pc := 9) X dX10_coins_9 (by decide) ?_
    exact qx_iret (pc := 11) X hr hlk hw dX10_coins_11
def wX10_count_l4 (p1 : Int32) (post : Int32 → qx_St → Prop) : Nat → Int32 → Int32 → Int32 → qx_St → Prop
  | 0, _, _, _, _ => False
  | n + 1, a1, a2, a3, σ => ((((4 : Int32) * (σ 30 0 0)) ≤ a3 → ((a1 = (0 : Int32) → post (σ 30 0 0) σ) ∧ (a1 = (1 : Int32) → post (σ 30 0 10) σ) ∧ (a1 = (2 : Int32) → post (σ 30 0 11) σ) ∧ (a1 = (3 : Int32) → post a2 σ) ∧ ((∀ i : Nat, i < 4 → ¬ a1 = Int32.ofInt (0 + i)) → post (-102 : Int32) σ))) ∧ (¬ (((4 : Int32) * (σ 30 0 0)) ≤ a3) → (vp_in a3 32 ∧ wX10_count_l4 p1 post n a1 (a2 + (σ 34 0 a3.toNatClampNeg)) (a3 + 1) σ)))
def wX10_count (p1 : Int32) (σ : qx_St) (post : Int32 → qx_St → Prop) : Prop := ∃ n, wX10_count_l4 p1 post n p1 (0 : Int32) (0 : Int32) σ
set_option maxHeartbeats 4000000 in
set_option maxRecDepth 100000 in
theorem kX10_count (l : Launch) (G : qx_Gx) (t1 t2 : Nat) (ad : Nat → Nat → Nat) (p1 : Int32) (σ : qx_St) (post : Int32 → qx_St → Prop) (hw : wX10_count p1 σ post) : qx_Mi l G t1 t2 (qx_w0 ad) yX10_count cX10_count 4 (some .int) { frames := 0, cells := 0, slots := 0, locals := 0 } [.ref (ad 30 0), .int p1] σ post := by
  unfold wX10_count at hw
  refine qx_start qx_mcX10_count (Nat.le_of_ble_eq_true rfl) (fun K hKl hR X hr hlk => ?_)
  subst hKl
  have L4 : ∀ (n : Nat) (a1 : Int32) (a2 : Int32) (a3 : Int32) (σ : qx_St), wX10_count_l4 p1 post n a1 a2 a3 σ → qx_V K G 4 0 0 (MQ K.2.2.2.2.2.2.2.1 (va_Qi post (qx_B G (qx_w0 ad)) G.2.2) K.2.2.2.2.2.2.1 K.2.2.2.2.1 0 0 G.2.2) (qx_w0 ad) σ 4 [(0, .ref (ad 30 0)), (1, .int a1), (2, .int a2), (3, .int a3)] [] := by
    intro n
    induction n with
    | zero => intro a1 a2 a3 σ hw; exact hw.elim
    | succ n ih =>
      intro a1 a2 a3 σ hw
      refine qx_iload_n (pc := 4) X 3 dX10_count_4 rfl rfl ?_
      refine qx_iconst (v := 4) (pc := 5) X dX10_count_5 (by decide) ?_
      refine qx_aload_n (pc := 6) X 0 dX10_count_6 rfl rfl ?_
      refine qx_geti (f := 30) (i := 0) (pc := 7) X qx_gRX10_119 qx_me30 dX10_count_7 ?_
      refine qx_imul (pc := 10) X dX10_count_10 ?_
      refine qx_icmp_ge (tgt := 29) (pc := 11) X dX10_count_11 (by decide) (fun c2 => ?_) (fun c2 => ?_)
      · have hw := hw.1 c2
        refine qx_iload_n (pc := 29) X 1 dX10_count_29 rfl rfl ?_
        refine qx_switch (pc := 30) X (tgt := 77) (fun i => ([60, 65, 70, 75] : List Nat).getD i 0) dX10_count_30 (by decide) (by decide) (by decide) (by decide) ?_ ?_
        · intro i hi s1
          have hi2 : i < 4 := hi
          rcases (show i = 0 ∨ i = 1 ∨ i = 2 ∨ i = 3 by omega) with rfl | rfl | rfl | rfl
          · have hw := hw.1 (s1.trans (by decide))
            refine qx_aload_n (pc := 60) X 0 dX10_count_60 rfl rfl ?_
            refine qx_geti (f := 30) (i := 0) (pc := 61) X qx_gRX10_119 qx_me30 dX10_count_61 ?_
            exact qx_iret (pc := 64) X hr hlk hw dX10_count_64
          · have hw := hw.2.1 (s1.trans (by decide))
            refine qx_aload_n (pc := 65) X 0 dX10_count_65 rfl rfl ?_
            refine qx_geti (f := 30) (i := 0) (pc := 66) X qx_gRX10_126 qx_me30 dX10_count_66 ?_
            exact qx_iret (pc := 69) X hr hlk hw dX10_count_69
          · have hw := hw.2.2.1 (s1.trans (by decide))
            refine qx_aload_n (pc := 70) X 0 dX10_count_70 rfl rfl ?_
            refine qx_geti (f := 30) (i := 0) (pc := 71) X qx_gRX10_129 qx_me30 dX10_count_71 ?_
            exact qx_iret (pc := 74) X hr hlk hw dX10_count_74
          · have hw := hw.2.2.2.1 (s1.trans (by decide))
            refine qx_iload_n (pc := 75) X 2 dX10_count_75 rfl rfl ?_
            exact qx_iret (pc := 76) X hr hlk hw dX10_count_76
        · intro s1
          have hw := hw.2.2.2.2 s1
          refine qx_bipush (v := -102) (pc := 77) X dX10_count_77 (by decide) ?_
          exact qx_iret (pc := 79) X hr hlk hw dX10_count_79
      · have hw := hw.2 c2
        refine qx_iload_n (pc := 14) X 2 dX10_count_14 rfl rfl ?_
        refine qx_aload_n (pc := 15) X 0 dX10_count_15 rfl rfl ?_
        refine qx_getr (f := 30) (i := 0) (a := ad 34 0) (pc := 16) X qx_gRX10_19 qx_me30 rfl dX10_count_16 ?_
        refine qx_iload_n (pc := 19) X 3 dX10_count_19 rfl rfl ?_
        refine qx_iald (f := 34) (i := 0) (pc := 20) X rfl qx_me34 hw.1 dX10_count_20 ?_
        have hw := hw.2
        refine qx_iadd (pc := 21) X dX10_count_21 ?_
        refine qx_istore_n (lv' := [(2, .int (a2 + (σ 34 0 a3.toNatClampNeg))), (0, .ref (ad 30 0)), (1, .int a1), (3, .int a3)]) (pc := 22) X dX10_count_22 rfl (by decide) rfl ?_
        refine qx_iinc (v := (a3 + 1)) (lv' := [(3, .int (a3 + 1)), (2, .int (a2 + (σ 34 0 a3.toNatClampNeg))), (0, .ref (ad 30 0)), (1, .int a1)]) (pc := 23) X 3 dX10_count_23 rfl rfl (by decide) rfl ?_
        refine qx_goto (tgt := 4) (pc := 26) X dX10_count_26 (by decide) ?_
        refine qx_lsub [2, 3, 1, 0] rfl ?_
        exact ih a1 (a2 + (σ 34 0 a3.toNatClampNeg)) (a3 + 1) σ hw
  refine (show qx_V K G 4 0 0 (MQ K.2.2.2.2.2.2.2.1 (va_Qi post (qx_B G (qx_w0 ad)) G.2.2) K.2.2.2.2.2.2.1 K.2.2.2.2.1 0 0 G.2.2) (qx_w0 ad) σ 0 [(0, .ref (ad 30 0)), (1, .int p1)] [] from ?_)
  refine qx_iconst (v := 0) (pc := 0) X dX10_count_0 (by decide) ?_
  refine qx_istore_n (lv' := [(2, .int (0 : Int32)), (0, .ref (ad 30 0)), (1, .int p1)]) (pc := 1) X dX10_count_1 rfl (by decide) rfl ?_
  refine qx_iconst (v := 0) (pc := 2) X dX10_count_2 (by decide) ?_
  refine qx_istore_n (lv' := [(3, .int (0 : Int32)), (2, .int (0 : Int32)), (0, .ref (ad 30 0)), (1, .int p1)]) (pc := 3) X dX10_count_3 rfl (by decide) rfl ?_
  refine qx_lsub [2, 3, 1, 0] rfl ?_
  obtain ⟨n, hw⟩ := hw
  exact L4 n p1 (0 : Int32) (0 : Int32) σ hw
def wX10_clear (σ : qx_St) (post : Int32 → qx_St → Prop) : Prop := wX10_begin  σ (fun s1 => post (σ 30 0 0) s1)
set_option maxHeartbeats 4000000 in
set_option maxRecDepth 100000 in
theorem kX10_clear (l : Launch) (G : qx_Gx) (t1 t2 : Nat) (ad : Nat → Nat → Nat) (σ : qx_St) (post : Int32 → qx_St → Prop) (hw : wX10_clear  σ post) : qx_Mi l G t1 t2 (qx_w0 ad) yX10_clear cX10_clear 2 (some .int) { frames := 1, cells := 0, slots := 0, locals := 21 } [.ref (ad 30 0)] σ post := by
  unfold wX10_clear at hw
  refine qx_start qx_mcX10_clear (Nat.le_of_ble_eq_true rfl) (fun K hKl hR X hr hlk => ?_)
  subst hKl
  refine (show qx_V K G 2 0 0 (MQ K.2.2.2.2.2.2.2.1 (va_Qi post (qx_B G (qx_w0 ad)) G.2.2) K.2.2.2.2.2.2.1 K.2.2.2.2.1 0 0 G.2.2) (qx_w0 ad) σ 0 [(0, .ref (ad 30 0))] [] from ?_)
  refine qx_aload_n (pc := 0) X 0 dX10_clear_0 rfl rfl ?_
  refine qx_geti (f := 30) (i := 0) (pc := 1) X qx_gRX10_119 qx_me30 dX10_clear_1 ?_
  refine qx_istore_n (lv' := [(1, .int (σ 30 0 0)), (0, .ref (ad 30 0))]) (pc := 4) X dX10_clear_4 rfl (by decide) rfl ?_
  refine qx_aload_n (pc := 5) X 1 dX10_clear_5 rfl rfl ?_
  refine qx_callVv (f := 30) (i := 0) (pc := 6) X [] [] (kX10_begin K.2.1 G t1 t2 ad  σ _ hw) qx_mcX10_begin qx_lRX10_116 qx_iX10_begin qx_selX10_begin qx_me30 qx_rc30 rfl ⟨rfl, rfl⟩ (by rw [hR]; decide) rfl (Nat.le_of_ble_eq_true rfl) dX10_clear_6 ⟨Nat.zero_le _, Nat.zero_le _⟩ (fun s1 hw => ?_)
  refine qx_iload_n (pc := 9) X 0 dX10_clear_9 rfl rfl ?_
  exact qx_iret (pc := 10) X hr hlk hw dX10_clear_10
