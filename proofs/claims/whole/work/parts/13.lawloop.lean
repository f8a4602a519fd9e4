def wL_loop (L : Nat) (xs : Nat → Int32) : Nat → Int32 → qx_St → Prop
  | 0, _, _ => False
  | n + 1, a3, σ => ((((Int32.ofNat L) - (7 : Int32)) < a3 → True) ∧ (¬ (((Int32.ofNat L) - (7 : Int32)) < a3) → (vp_in a3 L ∧ ((((xs a3.toNatClampNeg) &&& (15 : Int32)) = (0 : Int32) → wX9_contract  σ (fun r3 s2 => wX10_contract  s2 (fun r5 s4 => ((r3 = r5 → wL_loop L xs n (a3 + 7) s4) ∧ (¬ (r3 = r5) → False))))) ∧ (((xs a3.toNatClampNeg) &&& (15 : Int32)) = (1 : Int32) → (vp_in (a3 + (1 : Int32)) L ∧ (vp_in (a3 + (2 : Int32)) L ∧ (vp_in (a3 + (3 : Int32)) L ∧ (vp_in (a3 + (4 : Int32)) L ∧ (vp_in (a3 + (5 : Int32)) L ∧ wX9_step (xs (a3 + (1 : Int32)).toNatClampNeg) (xs (a3 + (2 : Int32)).toNatClampNeg) (xs (a3 + (3 : Int32)).toNatClampNeg) (xs (a3 + (4 : Int32)).toNatClampNeg) (xs (a3 + (5 : Int32)).toNatClampNeg) σ (fun r8 s7 => (vp_in (a3 + (1 : Int32)) L ∧ (vp_in (a3 + (2 : Int32)) L ∧ (vp_in (a3 + (3 : Int32)) L ∧ (vp_in (a3 + (4 : Int32)) L ∧ (vp_in (a3 + (5 : Int32)) L ∧ wX10_step (xs (a3 + (1 : Int32)).toNatClampNeg) (xs (a3 + (2 : Int32)).toNatClampNeg) (xs (a3 + (3 : Int32)).toNatClampNeg) (xs (a3 + (4 : Int32)).toNatClampNeg) (xs (a3 + (5 : Int32)).toNatClampNeg) s7 (fun r10 s9 => ((r8 = r10 → wL_loop L xs n (a3 + 7) s9) ∧ (¬ (r8 = r10) → False))))))))))))))) ∧ (((xs a3.toNatClampNeg) &&& (15 : Int32)) = (2 : Int32) → (vp_in (a3 + (1 : Int32)) L ∧ (vp_in (a3 + (2 : Int32)) L ∧ wX9_empty (xs (a3 + (1 : Int32)).toNatClampNeg) (xs (a3 + (2 : Int32)).toNatClampNeg) σ (fun r13 s12 => (vp_in (a3 + (1 : Int32)) L ∧ (vp_in (a3 + (2 : Int32)) L ∧ wX10_empty (xs (a3 + (1 : Int32)).toNatClampNeg) (xs (a3 + (2 : Int32)).toNatClampNeg) s12 (fun r15 s14 => ((r13 = r15 → wL_loop L xs n (a3 + 7) s14) ∧ (¬ (r13 = r15) → False))))))))) ∧ (((xs a3.toNatClampNeg) &&& (15 : Int32)) = (3 : Int32) → (vp_in (a3 + (1 : Int32)) L ∧ (vp_in (a3 + (2 : Int32)) L ∧ (vp_in (a3 + (3 : Int32)) L ∧ (((xs (a3 + (3 : Int32)).toNatClampNeg) = 0 → wX9_guard (xs (a3 + (1 : Int32)).toNatClampNeg) (xs (a3 + (2 : Int32)).toNatClampNeg) (0 : Int32) σ (fun r18 s17 => (vp_in (a3 + (1 : Int32)) L ∧ (vp_in (a3 + (2 : Int32)) L ∧ (vp_in (a3 + (3 : Int32)) L ∧ (((xs (a3 + (3 : Int32)).toNatClampNeg) = 0 → wX10_guard (xs (a3 + (1 : Int32)).toNatClampNeg) (xs (a3 + (2 : Int32)).toNatClampNeg) (0 : Int32) s17 (fun r20 s19 => ((r18 = r20 → wL_loop L xs n (a3 + 7) s19) ∧ (¬ (r18 = r20) → False)))) ∧ (¬ ((xs (a3 + (3 : Int32)).toNatClampNeg) = 0) → wX10_guard (xs (a3 + (1 : Int32)).toNatClampNeg) (xs (a3 + (2 : Int32)).toNatClampNeg) (1 : Int32) s17 (fun r23 s22 => ((r18 = r23 → wL_loop L xs n (a3 + 7) s22) ∧ (¬ (r18 = r23) → False)))))))))) ∧ (¬ ((xs (a3 + (3 : Int32)).toNatClampNeg) = 0) → wX9_guard (xs (a3 + (1 : Int32)).toNatClampNeg) (xs (a3 + (2 : Int32)).toNatClampNeg) (1 : Int32) σ (fun r27 s26 => (vp_in (a3 + (1 : Int32)) L ∧ (vp_in (a3 + (2 : Int32)) L ∧ (vp_in (a3 + (3 : Int32)) L ∧ (((xs (a3 + (3 : Int32)).toNatClampNeg) = 0 → wX10_guard (xs (a3 + (1 : Int32)).toNatClampNeg) (xs (a3 + (2 : Int32)).toNatClampNeg) (0 : Int32) s26 (fun r29 s28 => ((r27 = r29 → wL_loop L xs n (a3 + 7) s28) ∧ (¬ (r27 = r29) → False)))) ∧ (¬ ((xs (a3 + (3 : Int32)).toNatClampNeg) = 0) → wX10_guard (xs (a3 + (1 : Int32)).toNatClampNeg) (xs (a3 + (2 : Int32)).toNatClampNeg) (1 : Int32) s26 (fun r32 s31 => ((r27 = r32 → wL_loop L xs n (a3 + 7) s31) ∧ (¬ (r27 = r32) → False))))))))))))))) ∧ (((xs a3.toNatClampNeg) &&& (15 : Int32)) = (4 : Int32) → (vp_in (a3 + (1 : Int32)) L ∧ (vp_in (a3 + (2 : Int32)) L ∧ (vp_in (a3 + (3 : Int32)) L ∧ (vp_in (a3 + (4 : Int32)) L ∧ (vp_in (a3 + (5 : Int32)) L ∧ (vp_in (a3 + (6 : Int32)) L ∧ wX9_call (xs (a3 + (1 : Int32)).toNatClampNeg) (xs (a3 + (2 : Int32)).toNatClampNeg) (xs (a3 + (3 : Int32)).toNatClampNeg) (xs (a3 + (4 : Int32)).toNatClampNeg) (xs (a3 + (5 : Int32)).toNatClampNeg) (xs (a3 + (6 : Int32)).toNatClampNeg) σ (fun r37 s36 => (vp_in (a3 + (1 : Int32)) L ∧ (vp_in (a3 + (2 : Int32)) L ∧ (vp_in (a3 + (3 : Int32)) L ∧ (vp_in (a3 + (4 : Int32)) L ∧ (vp_in (a3 + (5 : Int32)) L ∧ (vp_in (a3 + (6 : Int32)) L ∧ wX10_call (xs (a3 + (1 : Int32)).toNatClampNeg) (xs (a3 + (2 : Int32)).toNatClampNeg) (xs (a3 + (3 : Int32)).toNatClampNeg) (xs (a3 + (4 : Int32)).toNatClampNeg) (xs (a3 + (5 : Int32)).toNatClampNeg) (xs (a3 + (6 : Int32)).toNatClampNeg) s36 (fun r39 s38 => ((r37 = r39 → wL_loop L xs n (a3 + 7) s38) ∧ (¬ (r37 = r39) → False))))))))))))))))) ∧ (((xs a3.toNatClampNeg) &&& (15 : Int32)) = (5 : Int32) → (vp_in (a3 + (1 : Int32)) L ∧ wX9_told (xs (a3 + (1 : Int32)).toNatClampNeg) σ (fun r42 s41 => (vp_in (a3 + (1 : Int32)) L ∧ wX10_told (xs (a3 + (1 : Int32)).toNatClampNeg) s41 (fun r44 s43 => ((r42 = r44 → wL_loop L xs n (a3 + 7) s43) ∧ (¬ (r42 = r44) → False))))))) ∧ (((xs a3.toNatClampNeg) &&& (15 : Int32)) = (6 : Int32) → (vp_in (a3 + (1 : Int32)) L ∧ (vp_in (a3 + (2 : Int32)) L ∧ wX9_frame (xs (a3 + (1 : Int32)).toNatClampNeg) (xs (a3 + (2 : Int32)).toNatClampNeg) σ (fun r47 s46 => (vp_in (a3 + (1 : Int32)) L ∧ (vp_in (a3 + (2 : Int32)) L ∧ wX10_frame (xs (a3 + (1 : Int32)).toNatClampNeg) (xs (a3 + (2 : Int32)).toNatClampNeg) s46 (fun r49 s48 => ((r47 = r49 → wL_loop L xs n (a3 + 7) s48) ∧ (¬ (r47 = r49) → False))))))))) ∧ (((xs a3.toNatClampNeg) &&& (15 : Int32)) = (7 : Int32) → (vp_in (a3 + (1 : Int32)) L ∧ (vp_in (a3 + (2 : Int32)) L ∧ wX9_event (xs (a3 + (1 : Int32)).toNatClampNeg) (xs (a3 + (2 : Int32)).toNatClampNeg) σ (fun r52 s51 => (vp_in (a3 + (1 : Int32)) L ∧ (vp_in (a3 + (2 : Int32)) L ∧ wX10_event (xs (a3 + (1 : Int32)).toNatClampNeg) (xs (a3 + (2 : Int32)).toNatClampNeg) s51 (fun r54 s53 => ((r52 = r54 → wL_loop L xs n (a3 + 7) s53) ∧ (¬ (r52 = r54) → False))))))))) ∧ (((xs a3.toNatClampNeg) &&& (15 : Int32)) = (8 : Int32) → (vp_in (a3 + (1 : Int32)) L ∧ (vp_in (a3 + (2 : Int32)) L ∧ wX9_store (xs (a3 + (1 : Int32)).toNatClampNeg) (xs (a3 + (2 : Int32)).toNatClampNeg) σ (fun r57 s56 => (vp_in (a3 + (1 : Int32)) L ∧ (vp_in (a3 + (2 : Int32)) L ∧ wX10_store (xs (a3 + (1 : Int32)).toNatClampNeg) (xs (a3 + (2 : Int32)).toNatClampNeg) s56 (fun r59 s58 => ((r57 = r59 → wL_loop L xs n (a3 + 7) s58) ∧ (¬ (r57 = r59) → False))))))))) ∧ (((xs a3.toNatClampNeg) &&& (15 : Int32)) = (9 : Int32) → (vp_in (a3 + (1 : Int32)) L ∧ (vp_in (a3 + (2 : Int32)) L ∧ wX9_coins (xs (a3 + (1 : Int32)).toNatClampNeg) (xs (a3 + (2 : Int32)).toNatClampNeg) σ (fun r62 s61 => (vp_in (a3 + (1 : Int32)) L ∧ (vp_in (a3 + (2 : Int32)) L ∧ wX10_coins (xs (a3 + (1 : Int32)).toNatClampNeg) (xs (a3 + (2 : Int32)).toNatClampNeg) s61 (fun r64 s63 => ((r62 = r64 → wL_loop L xs n (a3 + 7) s63) ∧ (¬ (r62 = r64) → False))))))))) ∧ (((xs a3.toNatClampNeg) &&& (15 : Int32)) = (10 : Int32) → (vp_in (a3 + (1 : Int32)) L ∧ wX9_count (xs (a3 + (1 : Int32)).toNatClampNeg) σ (fun r67 s66 => (vp_in (a3 + (1 : Int32)) L ∧ wX10_count (xs (a3 + (1 : Int32)).toNatClampNeg) s66 (fun r69 s68 => ((r67 = r69 → wL_loop L xs n (a3 + 7) s68) ∧ (¬ (r67 = r69) → False))))))) ∧ (((xs a3.toNatClampNeg) &&& (15 : Int32)) = (11 : Int32) → wX9_clear  σ (fun r72 s71 => wX10_clear  s71 (fun r74 s73 => ((r72 = r74 → wL_loop L xs n (a3 + 7) s73) ∧ (¬ (r72 = r74) → False))))) ∧ ((∀ i : Nat, i < 12 → ¬ ((xs a3.toNatClampNeg) &&& (15 : Int32)) = Int32.ofInt (0 + i)) → wL_loop L xs n (a3 + 7) σ)))))
set_option maxHeartbeats 4000000 in
set_option maxRecDepth 100000 in
theorem kL_loop {p : Program} {l : Launch} {e : Env} {s : State} {m : MethodId} {below : List Frame} {meth : Method} {c : Code} {b L : Nat} {xs : Nat → Int32} {G : qx_Gx} {t1 t2 : Nat} {ad : Nat → Nat → Nat} {cells slots : Nat} (K : qx_Cx) (hK : K = (p, l, e, room_1, s, m, #[Value.ref b], below, meth, c)) (X : qx_Ok K G t1 t2 cL_law RL 4) (hr : meth.sig.returnType = ret) (hlk : meth.locks = false) (hX : va_X b L xs K.2.2.2.2.1 K.2.2.2.2.1.heap) (hbl : b < K.2.2.2.2.1.heap.size) (hbA : ¬ G.2.2 b) (hA : ∀ q, G.2.2 q → s.heap.size ≤ q) (hcs : cells ≤ room_1.cells ∧ slots ≤ room_1.slots) : ∀ (n : Nat) (a3 : Int32) (σ : qx_St), wL_loop L xs n a3 σ → qx_V K G 4 cells slots (lw_Z below #[Value.ref b] s) (qx_w0 ad) σ 18 [(0, .ref b), (1, .ref (ad 0 0)), (2, .ref (ad 30 0)), (3, .int a3)] [] := by
  have hR : K.2.2.2.1 = room_1 := by rw [hK]
  intro n
  induction n with
  | zero => intro a3 σ hw; exact hw.elim
  | succ n ih =>
    intro a3 σ hw
    refine qx_iload_n (pc := 18) X 3 dL_law_18 rfl rfl ?_
    refine qx_aload_n (pc := 19) X 0 dL_law_19 rfl rfl ?_
    refine qx_slen (pc := 20) X hX hbl hbA dL_law_20 ?_
    refine qx_bipush (v := 7) (pc := 21) X dL_law_21 (by decide) ?_
    refine qx_isub (pc := 23) X dL_law_23 ?_
    refine qx_icmp_gt (tgt := 536) (pc := 24) X dL_law_24 (by decide) (fun c76 => ?_) (fun c76 => ?_)
    · have hw := hw.1 c76
      refine qx_iconst (v := 1) (pc := 536) X dL_law_536 (by decide) ?_
      exact qx_lret hK (pc := 537) X hr hlk hA hcs dL_law_537
    · have hw := hw.2 c76
      refine qx_aload_n (pc := 27) X 0 dL_law_27 rfl rfl ?_
      refine qx_iload_n (pc := 28) X 3 dL_law_28 rfl rfl ?_
      refine qx_sld (pc := 29) X hX hbl hbA hw.1 dL_law_29 ?_
      have hw := hw.2
      refine qx_bipush (v := 15) (pc := 30) X dL_law_30 (by decide) ?_
      refine qx_iand (pc := 32) X dL_law_32 ?_
      refine qx_switch (pc := 33) X (tgt := 530) (fun i => ([96, 109, 172, 205, 264, 339, 362, 395, 428, 461, 494, 517] : List Nat).getD i 0) dL_law_33 (by decide) (by decide) (by decide) (by decide) ?_ ?_
      · intro i hi s1
        have hi2 : i < 12 := hi
        rcases (show i = 0 ∨ i = 1 ∨ i = 2 ∨ i = 3 ∨ i = 4 ∨ i = 5 ∨ i = 6 ∨ i = 7 ∨ i = 8 ∨ i = 9 ∨ i = 10 ∨ i = 11 by omega) with rfl | rfl | rfl | rfl | rfl | rfl | rfl | rfl | rfl | rfl | rfl | rfl
        · have hw := hw.1 (s1.trans (by decide))
          refine qx_aload_n (pc := 96) X 1 dL_law_96 rfl rfl ?_
          refine qx_callVi (f := 0) (i := 0) (pc := 97) X [] [] (kX9_contract K.2.1 G t1 t2 ad  σ _ hw) qx_mcX9_contract qx_lRL_13 qx_iX9_contract qx_selX9_contract qx_me0 qx_rc0 rfl ⟨rfl, rfl⟩ (by rw [hR]; decide) rfl (Nat.le_of_ble_eq_true rfl) dL_law_97 (by rw [hR]; exact hcs) (fun r3 s2 hw => ?_)
          refine qx_aload_n (pc := 100) X 2 dL_law_100 rfl rfl ?_
          refine qx_callVi (f := 30) (i := 0) (pc := 101) X [] [.int r3] (kX10_contract K.2.1 G t1 t2 ad  s2 _ hw) qx_mcX10_contract qx_lRL_17 qx_iX10_contract qx_selX10_contract qx_me30 qx_rc30 rfl ⟨rfl, rfl⟩ (by rw [hR]; decide) rfl (Nat.le_of_ble_eq_true rfl) dL_law_101 (by rw [hR]; exact hcs) (fun r5 s4 hw => ?_)
          refine qx_icmp_eq (tgt := 530) (pc := 104) X dL_law_104 (by decide) (fun c6 => ?_) (fun c6 => ?_)
          · have hw := hw.1 c6
            refine qx_iinc (v := (a3 + 7)) (lv' := [(3, .int (a3 + 7)), (0, .ref b), (1, .ref (ad 0 0)), (2, .ref (ad 30 0))]) (pc := 530) X 3 dL_law_530 rfl rfl (by decide) rfl ?_
            refine qx_goto (tgt := 18) (pc := 533) X dL_law_533 (by decide) ?_
            refine qx_lsub [1, 2, 3, 0] rfl ?_
            exact ih (a3 + 7) s4 hw
          · have hw := hw.2 c6
            refine qx_iconst (v := 0) (pc := 107) X dL_law_107 (by decide) ?_
            exact hw.elim
        · have hw := hw.2.1 (s1.trans (by decide))
          refine qx_aload_n (pc := 109) X 1 dL_law_109 rfl rfl ?_
          refine qx_aload_n (pc := 110) X 0 dL_law_110 rfl rfl ?_
          refine qx_iload_n (pc := 111) X 3 dL_law_111 rfl rfl ?_
          refine qx_iconst (v := 1) (pc := 112) X dL_law_112 (by decide) ?_
          refine qx_iadd (pc := 113) X dL_law_113 ?_
          refine qx_sld (pc := 114) X hX hbl hbA hw.1 dL_law_114 ?_
          have hw := hw.2
          refine qx_aload_n (pc := 115) X 0 dL_law_115 rfl rfl ?_
          refine qx_iload_n (pc := 116) X 3 dL_law_116 rfl rfl ?_
          refine qx_iconst (v := 2) (pc := 117) X dL_law_117 (by decide) ?_
          refine qx_iadd (pc := 118) X dL_law_118 ?_
          refine qx_sld (pc := 119) X hX hbl hbA hw.1 dL_law_119 ?_
          have hw := hw.2
          refine qx_aload_n (pc := 120) X 0 dL_law_120 rfl rfl ?_
          refine qx_iload_n (pc := 121) X 3 dL_law_121 rfl rfl ?_
          refine qx_iconst (v := 3) (pc := 122) X dL_law_122 (by decide) ?_
          refine qx_iadd (pc := 123) X dL_law_123 ?_
          refine qx_sld (pc := 124) X hX hbl hbA hw.1 dL_law_124 ?_
          have hw := hw.2
          refine qx_aload_n (pc := 125) X 0 dL_law_125 rfl rfl ?_
          refine qx_iload_n (pc := 126) X 3 dL_law_126 rfl rfl ?_
          refine qx_iconst (v := 4) (pc := 127) X dL_law_127 (by decide) ?_
          refine qx_iadd (pc := 128) X dL_law_128 ?_
          refine qx_sld (pc := 129) X hX hbl hbA hw.1 dL_law_129 ?_
          have hw := hw.2
          refine qx_aload_n (pc := 130) X 0 dL_law_130 rfl rfl ?_
          refine qx_iload_n (pc := 131) X 3 dL_law_131 rfl rfl ?_
          refine qx_iconst (v := 5) (pc := 132) X dL_law_132 (by decide) ?_
          refine qx_iadd (pc := 133) X dL_law_133 ?_
          refine qx_sld (pc := 134) X hX hbl hbA hw.1 dL_law_134 ?_
          have hw := hw.2
          refine qx_callVi (f := 0) (i := 0) (pc := 135) X [.int (xs (a3 + (1 : Int32)).toNatClampNeg), .int (xs (a3 + (2 : Int32)).toNatClampNeg), .int (xs (a3 + (3 : Int32)).toNatClampNeg), .int (xs (a3 + (4 : Int32)).toNatClampNeg), .int (xs (a3 + (5 : Int32)).toNatClampNeg)] [] (kX9_step K.2.1 G t1 t2 ad (xs (a3 + (1 : Int32)).toNatClampNeg) (xs (a3 + (2 : Int32)).toNatClampNeg) (xs (a3 + (3 : Int32)).toNatClampNeg) (xs (a3 + (4 : Int32)).toNatClampNeg) (xs (a3 + (5 : Int32)).toNatClampNeg) σ _ hw) qx_mcX9_step qx_lRL_18 qx_iX9_step qx_selX9_step qx_me0 qx_rc0 rfl ⟨rfl, rfl⟩ (by rw [hR]; decide) rfl (Nat.le_of_ble_eq_true rfl) dL_law_135 (by rw [hR]; exact hcs) (fun r8 s7 hw => ?_)
          refine qx_aload_n (pc := 138) X 2 dL_law_138 rfl rfl ?_
          refine qx_aload_n (pc := 139) X 0 dL_law_139 rfl rfl ?_
          refine qx_iload_n (pc := 140) X 3 dL_law_140 rfl rfl ?_
          refine qx_iconst (v := 1) (pc := 141) X dL_law_141 (by decide) ?_
          refine qx_iadd (pc := 142) X dL_law_142 ?_
          refine qx_sld (pc := 143) X hX hbl hbA hw.1 dL_law_143 ?_
          have hw := hw.2
          refine qx_aload_n (pc := 144) X 0 dL_law_144 rfl rfl ?_
          refine qx_iload_n (pc := 145) X 3 dL_law_145 rfl rfl ?_
          refine qx_iconst (v := 2) (pc := 146) X dL_law_146 (by decide) ?_
          refine qx_iadd (pc := 147) X dL_law_147 ?_
          refine qx_sld (pc := 148) X hX hbl hbA hw.1 dL_law_148 ?_
          have hw := hw.2
          refine qx_aload_n (pc := 149) X 0 dL_law_149 rfl rfl ?_
          refine qx_iload_n (pc := 150) X 3 dL_law_150 rfl rfl ?_
          refine qx_iconst (v := 3) (pc := 151) X dL_law_151 (by decide) ?_
          refine qx_iadd (pc := 152) X dL_law_152 ?_
          refine qx_sld (pc := 153) X hX hbl hbA hw.1 dL_law_153 ?_
          have hw := hw.2
          refine qx_aload_n (pc := 154) X 0 dL_law_154 rfl rfl ?_
          refine qx_iload_n (pc := 155) X 3 dL_law_155 rfl rfl ?_
          refine qx_iconst (v := 4) (pc := 156) X dL_law_156 (by decide) ?_
          refine qx_iadd (pc := 157) X dL_law_157 ?_
          refine qx_sld (pc := 158) X hX hbl hbA hw.1 dL_law_158 ?_
          have hw := hw.2
          refine qx_aload_n (pc := 159) X 0 dL_law_159 rfl rfl ?_
          refine qx_iload_n (pc := 160) X 3 dL_law_160 rfl rfl ?_
          refine qx_iconst (v := 5) (pc := 161) X dL_law_161 (by decide) ?_
          refine qx_iadd (pc := 162) X dL_law_162 ?_
          refine qx_sld (pc := 163) X hX hbl hbA hw.1 dL_law_163 ?_
          have hw := hw.2
          refine qx_callVi (f := 30) (i := 0) (pc := 164) X [.int (xs (a3 + (1 : Int32)).toNatClampNeg), .int (xs (a3 + (2 : Int32)).toNatClampNeg), .int (xs (a3 + (3 : Int32)).toNatClampNeg), .int (xs (a3 + (4 : Int32)).toNatClampNeg), .int (xs (a3 + (5 : Int32)).toNatClampNeg)] [.int r8] (kX10_step K.2.1 G t1 t2 ad (xs (a3 + (1 : Int32)).toNatClampNeg) (xs (a3 + (2 : Int32)).toNatClampNeg) (xs (a3 + (3 : Int32)).toNatClampNeg) (xs (a3 + (4 : Int32)).toNatClampNeg) (xs (a3 + (5 : Int32)).toNatClampNeg) s7 _ hw) qx_mcX10_step qx_lRL_22 qx_iX10_step qx_selX10_step qx_me30 qx_rc30 rfl ⟨rfl, rfl⟩ (by rw [hR]; decide) rfl (Nat.le_of_ble_eq_true rfl) dL_law_164 (by rw [hR]; exact hcs) (fun r10 s9 hw => ?_)
          refine qx_icmp_eq (tgt := 530) (pc := 167) X dL_law_167 (by decide) (fun c11 => ?_) (fun c11 => ?_)
          · have hw := hw.1 c11
            refine qx_iinc (v := (a3 + 7)) (lv' := [(3, .int (a3 + 7)), (0, .ref b), (1, .ref (ad 0 0)), (2, .ref (ad 30 0))]) (pc := 530) X 3 dL_law_530 rfl rfl (by decide) rfl ?_
            refine qx_goto (tgt := 18) (pc := 533) X dL_law_533 (by decide) ?_
            refine qx_lsub [1, 2, 3, 0] rfl ?_
            exact ih (a3 + 7) s9 hw
          · have hw := hw.2 c11
            refine qx_iconst (v := 0) (pc := 170) X dL_law_170 (by decide) ?_
            exact hw.elim
        · have hw := hw.2.2.1 (s1.trans (by decide))
          refine qx_aload_n (pc := 172) X 1 dL_law_172 rfl rfl ?_
          refine qx_aload_n (pc := 173) X 0 dL_law_173 rfl rfl ?_
          refine qx_iload_n (pc := 174) X 3 dL_law_174 rfl rfl ?_
          refine qx_iconst (v := 1) (pc := 175) X dL_law_175 (by decide) ?_
          refine qx_iadd (pc := 176) X dL_law_176 ?_
          refine qx_sld (pc := 177) X hX hbl hbA hw.1 dL_law_177 ?_
          have hw := hw.2
          refine qx_aload_n (pc := 178) X 0 dL_law_178 rfl rfl ?_
          refine qx_iload_n (pc := 179) X 3 dL_law_179 rfl rfl ?_
          refine qx_iconst (v := 2) (pc := 180) X dL_law_180 (by decide) ?_
          refine qx_iadd (pc := 181) X dL_law_181 ?_
          refine qx_sld (pc := 182) X hX hbl hbA hw.1 dL_law_182 ?_
          have hw := hw.2
          refine qx_callVi (f := 0) (i := 0) (pc := 183) X [.int (xs (a3 + (1 : Int32)).toNatClampNeg), .int (xs (a3 + (2 : Int32)).toNatClampNeg)] [] (kX9_empty K.2.1 G t1 t2 ad (xs (a3 + (1 : Int32)).toNatClampNeg) (xs (a3 + (2 : Int32)).toNatClampNeg) σ _ hw) qx_mcX9_empty qx_lRL_23 qx_iX9_empty qx_selX9_empty qx_me0 qx_rc0 rfl ⟨rfl, rfl⟩ (by rw [hR]; decide) rfl (Nat.le_of_ble_eq_true rfl) dL_law_183 (by rw [hR]; exact hcs) (fun r13 s12 hw => ?_)
          refine qx_aload_n (pc := 186) X 2 dL_law_186 rfl rfl ?_
          refine qx_aload_n (pc := 187) X 0 dL_law_187 rfl rfl ?_
          refine qx_iload_n (pc := 188) X 3 dL_law_188 rfl rfl ?_
          refine qx_iconst (v := 1) (pc := 189) X dL_law_189 (by decide) ?_
          refine qx_iadd (pc := 190) X dL_law_190 ?_
          refine qx_sld (pc := 191) X hX hbl hbA hw.1 dL_law_191 ?_
          have hw := hw.2
          refine qx_aload_n (pc := 192) X 0 dL_law_192 rfl rfl ?_
          refine qx_iload_n (pc := 193) X 3 dL_law_193 rfl rfl ?_
          refine qx_iconst (v := 2) (pc := 194) X dL_law_194 (by decide) ?_
          refine qx_iadd (pc := 195) X dL_law_195 ?_
          refine qx_sld (pc := 196) X hX hbl hbA hw.1 dL_law_196 ?_
          have hw := hw.2
          refine qx_callVi (f := 30) (i := 0) (pc := 197) X [.int (xs (a3 + (1 : Int32)).toNatClampNeg), .int (xs (a3 + (2 : Int32)).toNatClampNeg)] [.int r13] (kX10_empty K.2.1 G t1 t2 ad (xs (a3 + (1 : Int32)).toNatClampNeg) (xs (a3 + (2 : Int32)).toNatClampNeg) s12 _ hw) qx_mcX10_empty qx_lRL_27 qx_iX10_empty qx_selX10_empty qx_me30 qx_rc30 rfl ⟨rfl, rfl⟩ (by rw [hR]; decide) rfl (Nat.le_of_ble_eq_true rfl) dL_law_197 (by rw [hR]; exact hcs) (fun r15 s14 hw => ?_)
          refine qx_icmp_eq (tgt := 530) (pc := 200) X dL_law_200 (by decide) (fun c16 => ?_) (fun c16 => ?_)
          · have hw := hw.1 c16
            refine qx_iinc (v := (a3 + 7)) (lv' := [(3, .int (a3 + 7)), (0, .ref b), (1, .ref (ad 0 0)), (2, .ref (ad 30 0))]) (pc := 530) X 3 dL_law_530 rfl rfl (by decide) rfl ?_
            refine qx_goto (tgt := 18) (pc := 533) X dL_law_533 (by decide) ?_
            refine qx_lsub [1, 2, 3, 0] rfl ?_
            exact ih (a3 + 7) s14 hw
          · have hw := hw.2 c16
            refine qx_iconst (v := 0) (pc := 203) X dL_law_203 (by decide) ?_
            exact hw.elim
        · have hw := hw.2.2.2.1 (s1.trans (by decide))
          refine qx_aload_n (pc := 205) X 1 dL_law_205 rfl rfl ?_
          refine qx_aload_n (pc := 206) X 0 dL_law_206 rfl rfl ?_
          refine qx_iload_n (pc := 207) X 3 dL_law_207 rfl rfl ?_
          refine qx_iconst (v := 1) (pc := 208) X dL_law_208 (by decide) ?_
          refine qx_iadd (pc := 209) X dL_law_209 ?_
          refine qx_sld (pc := 210) X hX hbl hbA hw.1 dL_law_210 ?_
          have hw := hw.2
          refine qx_aload_n (pc := 211) X 0 dL_law_211 rfl rfl ?_
          refine qx_iload_n (pc := 212) X 3 dL_law_212 rfl rfl ?_
          refine qx_iconst (v := 2) (pc := 213) X dL_law_213 (by decide) ?_
          refine qx_iadd (pc := 214) X dL_law_214 ?_
          refine qx_sld (pc := 215) X hX hbl hbA hw.1 dL_law_215 ?_
          have hw := hw.2
          refine qx_aload_n (pc := 216) X 0 dL_law_216 rfl rfl ?_
          refine qx_iload_n (pc := 217) X 3 dL_law_217 rfl rfl ?_
          refine qx_iconst (v := 3) (pc := 218) X dL_law_218 (by decide) ?_
          refine qx_iadd (pc := 219) X dL_law_219 ?_
          refine qx_sld (pc := 220) X hX hbl hbA hw.1 dL_law_220 ?_
          have hw := hw.2
          refine qx_if_eq (tgt := 228) (pc := 221) X dL_law_221 (by decide) (fun c35 => ?_) (fun c35 => ?_)
          · have hw := hw.1 c35
            refine qx_iconst (v := 0) (pc := 228) X dL_law_228 (by decide) ?_
            refine qx_callVi (f := 0) (i := 0) (pc := 229) X [.int (xs (a3 + (1 : Int32)).toNatClampNeg), .int (xs (a3 + (2 : Int32)).toNatClampNeg), .int (0 : Int32)] [] (kX9_guard K.2.1 G t1 t2 ad (xs (a3 + (1 : Int32)).toNatClampNeg) (xs (a3 + (2 : Int32)).toNatClampNeg) (0 : Int32) σ _ hw) qx_mcX9_guard qx_lRL_28 qx_iX9_guard qx_selX9_guard qx_me0 qx_rc0 rfl ⟨rfl, rfl⟩ (by rw [hR]; decide) rfl (Nat.le_of_ble_eq_true rfl) dL_law_229 (by rw [hR]; exact hcs) (fun r18 s17 hw => ?_)
            refine qx_aload_n (pc := 232) X 2 dL_law_232 rfl rfl ?_
            refine qx_aload_n (pc := 233) X 0 dL_law_233 rfl rfl ?_
            refine qx_iload_n (pc := 234) X 3 dL_law_234 rfl rfl ?_
            refine qx_iconst (v := 1) (pc := 235) X dL_law_235 (by decide) ?_
            refine qx_iadd (pc := 236) X dL_law_236 ?_
            refine qx_sld (pc := 237) X hX hbl hbA hw.1 dL_law_237 ?_
            have hw := hw.2
            refine qx_aload_n (pc := 238) X 0 dL_law_238 rfl rfl ?_
            refine qx_iload_n (pc := 239) X 3 dL_law_239 rfl rfl ?_
            refine qx_iconst (v := 2) (pc := 240) X dL_law_240 (by decide) ?_
            refine qx_iadd (pc := 241) X dL_law_241 ?_
            refine qx_sld (pc := 242) X hX hbl hbA hw.1 dL_law_242 ?_
            have hw := hw.2
            refine qx_aload_n (pc := 243) X 0 dL_law_243 rfl rfl ?_
            refine qx_iload_n (pc := 244) X 3 dL_law_244 rfl rfl ?_
            refine qx_iconst (v := 3) (pc := 245) X dL_law_245 (by decide) ?_
            refine qx_iadd (pc := 246) X dL_law_246 ?_
            refine qx_sld (pc := 247) X hX hbl hbA hw.1 dL_law_247 ?_
            have hw := hw.2
            refine qx_if_eq (tgt := 255) (pc := 248) X dL_law_248 (by decide) (fun c25 => ?_) (fun c25 => ?_)
            · have hw := hw.1 c25
              refine qx_iconst (v := 0) (pc := 255) X dL_law_255 (by decide) ?_
              refine qx_callVi (f := 30) (i := 0) (pc := 256) X [.int (xs (a3 + (1 : Int32)).toNatClampNeg), .int (xs (a3 + (2 : Int32)).toNatClampNeg), .int (0 : Int32)] [.int r18] (kX10_guard K.2.1 G t1 t2 ad (xs (a3 + (1 : Int32)).toNatClampNeg) (xs (a3 + (2 : Int32)).toNatClampNeg) (0 : Int32) s17 _ hw) qx_mcX10_guard qx_lRL_32 qx_iX10_guard qx_selX10_guard qx_me30 qx_rc30 rfl ⟨rfl, rfl⟩ (by rw [hR]; decide) rfl (Nat.le_of_ble_eq_true rfl) dL_law_256 (by rw [hR]; exact hcs) (fun r20 s19 hw => ?_)
              refine qx_icmp_eq (tgt := 530) (pc := 259) X dL_law_259 (by decide) (fun c21 => ?_) (fun c21 => ?_)
              · have hw := hw.1 c21
                refine qx_iinc (v := (a3 + 7)) (lv' := [(3, .int (a3 + 7)), (0, .ref b), (1, .ref (ad 0 0)), (2, .ref (ad 30 0))]) (pc := 530) X 3 dL_law_530 rfl rfl (by decide) rfl ?_
                refine qx_goto (tgt := 18) (pc := 533) X dL_law_533 (by decide) ?_
                refine qx_lsub [1, 2, 3, 0] rfl ?_
                exact ih (a3 + 7) s19 hw
              · have hw := hw.2 c21
                refine qx_iconst (v := 0) (pc := 262) X dL_law_262 (by decide) ?_
                exact hw.elim
            · have hw := hw.2 c25
              refine qx_iconst (v := 1) (pc := 251) X dL_law_251 (by decide) ?_
              refine qx_goto (tgt := 256) (pc := 252) X dL_law_252 (by decide) ?_
              refine qx_callVi (f := 30) (i := 0) (pc := 256) X [.int (xs (a3 + (1 : Int32)).toNatClampNeg), .int (xs (a3 + (2 : Int32)).toNatClampNeg), .int (1 : Int32)] [.int r18] (kX10_guard K.2.1 G t1 t2 ad (xs (a3 + (1 : Int32)).toNatClampNeg) (xs (a3 + (2 : Int32)).toNatClampNeg) (1 : Int32) s17 _ hw) qx_mcX10_guard qx_lRL_32 qx_iX10_guard qx_selX10_guard qx_me30 qx_rc30 rfl ⟨rfl, rfl⟩ (by rw [hR]; decide) rfl (Nat.le_of_ble_eq_true rfl) dL_law_256 (by rw [hR]; exact hcs) (fun r23 s22 hw => ?_)
              refine qx_icmp_eq (tgt := 530) (pc := 259) X dL_law_259 (by decide) (fun c24 => ?_) (fun c24 => ?_)
              · have hw := hw.1 c24
                refine qx_iinc (v := (a3 + 7)) (lv' := [(3, .int (a3 + 7)), (0, .ref b), (1, .ref (ad 0 0)), (2, .ref (ad 30 0))]) (pc := 530) X 3 dL_law_530 rfl rfl (by decide) rfl ?_
                refine qx_goto (tgt := 18) (pc := 533) X dL_law_533 (by decide) ?_
                refine qx_lsub [1, 2, 3, 0] rfl ?_
                exact ih (a3 + 7) s22 hw
              · have hw := hw.2 c24
                refine qx_iconst (v := 0) (pc := 262) X dL_law_262 (by decide) ?_
                exact hw.elim
          · have hw := hw.2 c35
            refine qx_iconst (v := 1) (pc := 224) X dL_law_224 (by decide) ?_
            refine qx_goto (tgt := 229) (pc := 225) X dL_law_225 (by decide) ?_
            refine qx_callVi (f := 0) (i := 0) (pc := 229) X [.int (xs (a3 + (1 : Int32)).toNatClampNeg), .int (xs (a3 + (2 : Int32)).toNatClampNeg), .int (1 : Int32)] [] (kX9_guard K.2.1 G t1 t2 ad (xs (a3 + (1 : Int32)).toNatClampNeg) (xs (a3 + (2 : Int32)).toNatClampNeg) (1 : Int32) σ _ hw) qx_mcX9_guard qx_lRL_28 qx_iX9_guard qx_selX9_guard qx_me0 qx_rc0 rfl ⟨rfl, rfl⟩ (by rw [hR]; decide) rfl (Nat.le_of_ble_eq_true rfl) dL_law_229 (by rw [hR]; exact hcs) (fun r27 s26 hw => ?_)
            refine qx_aload_n (pc := 232) X 2 dL_law_232 rfl rfl ?_
            refine qx_aload_n (pc := 233) X 0 dL_law_233 rfl rfl ?_
            refine qx_iload_n (pc := 234) X 3 dL_law_234 rfl rfl ?_
            refine qx_iconst (v := 1) (pc := 235) X dL_law_235 (by decide) ?_
            refine qx_iadd (pc := 236) X dL_law_236 ?_
            refine qx_sld (pc := 237) X hX hbl hbA hw.1 dL_law_237 ?_
            have hw := hw.2
            refine qx_aload_n (pc := 238) X 0 dL_law_238 rfl rfl ?_
            refine qx_iload_n (pc := 239) X 3 dL_law_239 rfl rfl ?_
            refine qx_iconst (v := 2) (pc := 240) X dL_law_240 (by decide) ?_
            refine qx_iadd (pc := 241) X dL_law_241 ?_
            refine qx_sld (pc := 242) X hX hbl hbA hw.1 dL_law_242 ?_
            have hw := hw.2
            refine qx_aload_n (pc := 243) X 0 dL_law_243 rfl rfl ?_
            refine qx_iload_n (pc := 244) X 3 dL_law_244 rfl rfl ?_
            refine qx_iconst (v := 3) (pc := 245) X dL_law_245 (by decide) ?_
            refine qx_iadd (pc := 246) X dL_law_246 ?_
            refine qx_sld (pc := 247) X hX hbl hbA hw.1 dL_law_247 ?_
            have hw := hw.2
            refine qx_if_eq (tgt := 255) (pc := 248) X dL_law_248 (by decide) (fun c34 => ?_) (fun c34 => ?_)
            · have hw := hw.1 c34
              refine qx_iconst (v := 0) (pc := 255) X dL_law_255 (by decide) ?_
              refine qx_callVi (f := 30) (i := 0) (pc := 256) X [.int (xs (a3 + (1 : Int32)).toNatClampNeg), .int (xs (a3 + (2 : Int32)).toNatClampNeg), .int (0 : Int32)] [.int r27] (kX10_guard K.2.1 G t1 t2 ad (xs (a3 + (1 : Int32)).toNatClampNeg) (xs (a3 + (2 : Int32)).toNatClampNeg) (0 : Int32) s26 _ hw) qx_mcX10_guard qx_lRL_32 qx_iX10_guard qx_selX10_guard qx_me30 qx_rc30 rfl ⟨rfl, rfl⟩ (by rw [hR]; decide) rfl (Nat.le_of_ble_eq_true rfl) dL_law_256 (by rw [hR]; exact hcs) (fun r29 s28 hw => ?_)
              refine qx_icmp_eq (tgt := 530) (pc := 259) X dL_law_259 (by decide) (fun c30 => ?_) (fun c30 => ?_)
              · have hw := hw.1 c30
                refine qx_iinc (v := (a3 + 7)) (lv' := [(3, .int (a3 + 7)), (0, .ref b), (1, .ref (ad 0 0)), (2, .ref (ad 30 0))]) (pc := 530) X 3 dL_law_530 rfl rfl (by decide) rfl ?_
                refine qx_goto (tgt := 18) (pc := 533) X dL_law_533 (by decide) ?_
                refine qx_lsub [1, 2, 3, 0] rfl ?_
                exact ih (a3 + 7) s28 hw
              · have hw := hw.2 c30
                refine qx_iconst (v := 0) (pc := 262) X dL_law_262 (by decide) ?_
                exact hw.elim
            · have hw := hw.2 c34
              refine qx_iconst (v := 1) (pc := 251) X dL_law_251 (by decide) ?_
              refine qx_goto (tgt := 256) (pc := 252) X dL_law_252 (by decide) ?_
              refine qx_callVi (f := 30) (i := 0) (pc := 256) X [.int (xs (a3 + (1 : Int32)).toNatClampNeg), .int (xs (a3 + (2 : Int32)).toNatClampNeg), .int (1 : Int32)] [.int r27] (kX10_guard K.2.1 G t1 t2 ad (xs (a3 + (1 : Int32)).toNatClampNeg) (xs (a3 + (2 : Int32)).toNatClampNeg) (1 : Int32) s26 _ hw) qx_mcX10_guard qx_lRL_32 qx_iX10_guard qx_selX10_guard qx_me30 qx_rc30 rfl ⟨rfl, rfl⟩ (by rw [hR]; decide) rfl (Nat.le_of_ble_eq_true rfl) dL_law_256 (by rw [hR]; exact hcs) (fun r32 s31 hw => ?_)
              refine qx_icmp_eq (tgt := 530) (pc := 259) X dL_law_259 (by decide) (fun c33 => ?_) (fun c33 => ?_)
              · have hw := hw.1 c33
                refine qx_iinc (v := (a3 + 7)) (lv' := [(3, .int (a3 + 7)), (0, .ref b), (1, .ref (ad 0 0)), (2, .ref (ad 30 0))]) (pc := 530) X 3 dL_law_530 rfl rfl (by decide) rfl ?_
                refine qx_goto (tgt := 18) (pc := 533) X dL_law_533 (by decide) ?_
                refine qx_lsub [1, 2, 3, 0] rfl ?_
                exact ih (a3 + 7) s31 hw
              · have hw := hw.2 c33
                refine qx_iconst (v := 0) (pc := 262) X dL_law_262 (by decide) ?_
                exact hw.elim
        · have hw := hw.2.2.2.2.1 (s1.trans (by decide))
          refine qx_aload_n (pc := 264) X 1 dL_law_264 rfl rfl ?_
          refine qx_aload_n (pc := 265) X 0 dL_law_265 rfl rfl ?_
          refine qx_iload_n (pc := 266) X 3 dL_law_266 rfl rfl ?_
          refine qx_iconst (v := 1) (pc := 267) X dL_law_267 (by decide) ?_
          refine qx_iadd (pc := 268) X dL_law_268 ?_
          refine qx_sld (pc := 269) X hX hbl hbA hw.1 dL_law_269 ?_
          have hw := hw.2
          refine qx_aload_n (pc := 270) X 0 dL_law_270 rfl rfl ?_
          refine qx_iload_n (pc := 271) X 3 dL_law_271 rfl rfl ?_
          refine qx_iconst (v := 2) (pc := 272) X dL_law_272 (by decide) ?_
          refine qx_iadd (pc := 273) X dL_law_273 ?_
          refine qx_sld (pc := 274) X hX hbl hbA hw.1 dL_law_274 ?_
          have hw := hw.2
          refine qx_aload_n (pc := 275) X 0 dL_law_275 rfl rfl ?_
          refine qx_iload_n (pc := 276) X 3 dL_law_276 rfl rfl ?_
          refine qx_iconst (v := 3) (pc := 277) X dL_law_277 (by decide) ?_
          refine qx_iadd (pc := 278) X dL_law_278 ?_
          refine qx_sld (pc := 279) X hX hbl hbA hw.1 dL_law_279 ?_
          have hw := hw.2
          refine qx_aload_n (pc := 280) X 0 dL_law_280 rfl rfl ?_
          refine qx_iload_n (pc := 281) X 3 dL_law_281 rfl rfl ?_
          refine qx_iconst (v := 4) (pc := 282) X dL_law_282 (by decide) ?_
          refine qx_iadd (pc := 283) X dL_law_283 ?_
          refine qx_sld (pc := 284) X hX hbl hbA hw.1 dL_law_284 ?_
          have hw := hw.2
          refine qx_aload_n (pc := 285) X 0 dL_law_285 rfl rfl ?_
          refine qx_iload_n (pc := 286) X 3 dL_law_286 rfl rfl ?_
          refine qx_iconst (v := 5) (pc := 287) X dL_law_287 (by decide) ?_
          refine qx_iadd (pc := 288) X dL_law_288 ?_
          refine qx_sld (pc := 289) X hX hbl hbA hw.1 dL_law_289 ?_
          have hw := hw.2
          refine qx_aload_n (pc := 290) X 0 dL_law_290 rfl rfl ?_
          refine qx_iload_n (pc := 291) X 3 dL_law_291 rfl rfl ?_
          refine qx_bipush (v := 6) (pc := 292) X dL_law_292 (by decide) ?_
          refine qx_iadd (pc := 294) X dL_law_294 ?_
          refine qx_sld (pc := 295) X hX hbl hbA hw.1 dL_law_295 ?_
          have hw := hw.2
          refine qx_callVi (f := 0) (i := 0) (pc := 296) X [.int (xs (a3 + (1 : Int32)).toNatClampNeg), .int (xs (a3 + (2 : Int32)).toNatClampNeg), .int (xs (a3 + (3 : Int32)).toNatClampNeg), .int (xs (a3 + (4 : Int32)).toNatClampNeg), .int (xs (a3 + (5 : Int32)).toNatClampNeg), .int (xs (a3 + (6 : Int32)).toNatClampNeg)] [] (kX9_call K.2.1 G t1 t2 ad (xs (a3 + (1 : Int32)).toNatClampNeg) (xs (a3 + (2 : Int32)).toNatClampNeg) (xs (a3 + (3 : Int32)).toNatClampNeg) (xs (a3 + (4 : Int32)).toNatClampNeg) (xs (a3 + (5 : Int32)).toNatClampNeg) (xs (a3 + (6 : Int32)).toNatClampNeg) σ _ hw) qx_mcX9_call qx_lRL_33 qx_iX9_call qx_selX9_call qx_me0 qx_rc0 rfl ⟨rfl, rfl⟩ (by rw [hR]; decide) rfl (Nat.le_of_ble_eq_true rfl) dL_law_296 (by rw [hR]; exact hcs) (fun r37 s36 hw => ?_)
          refine qx_aload_n (pc := 299) X 2 dL_law_299 rfl rfl ?_
          refine qx_aload_n (pc := 300) X 0 dL_law_300 rfl rfl ?_
          refine qx_iload_n (pc := 301) X 3 dL_law_301 rfl rfl ?_
          refine qx_iconst (v := 1) (pc := 302) X dL_law_302 (by decide) ?_
          refine qx_iadd (pc := 303) X dL_law_303 ?_
          refine qx_sld (pc := 304) X hX hbl hbA hw.1 dL_law_304 ?_
          have hw := hw.2
          refine qx_aload_n (pc := 305) X 0 dL_law_305 rfl rfl ?_
          refine qx_iload_n (pc := 306) X 3 dL_law_306 rfl rfl ?_
          refine qx_iconst (v := 2) (pc := 307) X dL_law_307 (by decide) ?_
          refine qx_iadd (pc := 308) X dL_law_308 ?_
          refine qx_sld (pc := 309) X hX hbl hbA hw.1 dL_law_309 ?_
          have hw := hw.2
          refine qx_aload_n (pc := 310) X 0 dL_law_310 rfl rfl ?_
          refine qx_iload_n (pc := 311) X 3 dL_law_311 rfl rfl ?_
          refine qx_iconst (v := 3) (pc := 312) X dL_law_312 (by decide) ?_
          refine qx_iadd (pc := 313) X dL_law_313 ?_
          refine qx_sld (pc := 314) X hX hbl hbA hw.1 dL_law_314 ?_
          have hw := hw.2
          refine qx_aload_n (pc := 315) X 0 dL_law_315 rfl rfl ?_
          refine qx_iload_n (pc := 316) X 3 dL_law_316 rfl rfl ?_
          refine qx_iconst (v := 4) (pc := 317) X dL_law_317 (by decide) ?_
          refine qx_iadd (pc := 318) X dL_law_318 ?_
          refine qx_sld (pc := 319) X hX hbl hbA hw.1 dL_law_319 ?_
          have hw := hw.2
          refine qx_aload_n (pc := 320) X 0 dL_law_320 rfl rfl ?_
          refine qx_iload_n (pc := 321) X 3 dL_law_321 rfl rfl ?_
          refine qx_iconst (v := 5) (pc := 322) X dL_law_322 (by decide) ?_
          refine qx_iadd (pc := 323) X dL_law_323 ?_
          refine qx_sld (pc := 324) X hX hbl hbA hw.1 dL_law_324 ?_
          have hw := hw.2
          refine qx_aload_n (pc := 325) X 0 dL_law_325 rfl rfl ?_
          refine qx_iload_n (pc := 326) X 3 dL_law_326 rfl rfl ?_
          refine qx_bipush (v := 6) (pc := 327) X dL_law_327 (by decide) ?_
          refine qx_iadd (pc := 329) X dL_law_329 ?_
          refine qx_sld (pc := 330) X hX hbl hbA hw.1 dL_law_330 ?_
          have hw := hw.2
          refine qx_callVi (f := 30) (i := 0) (pc := 331) X [.int (xs (a3 + (1 : Int32)).toNatClampNeg), .int (xs (a3 + (2 : Int32)).toNatClampNeg), .int (xs (a3 + (3 : Int32)).toNatClampNeg), .int (xs (a3 + (4 : Int32)).toNatClampNeg), .int (xs (a3 + (5 : Int32)).toNatClampNeg), .int (xs (a3 + (6 : Int32)).toNatClampNeg)] [.int r37] (kX10_call K.2.1 G t1 t2 ad (xs (a3 + (1 : Int32)).toNatClampNeg) (xs (a3 + (2 : Int32)).toNatClampNeg) (xs (a3 + (3 : Int32)).toNatClampNeg) (xs (a3 + (4 : Int32)).toNatClampNeg) (xs (a3 + (5 : Int32)).toNatClampNeg) (xs (a3 + (6 : Int32)).toNatClampNeg) s36 _ hw) qx_mcX10_call qx_lRL_37 qx_iX10_call qx_selX10_call qx_me30 qx_rc30 rfl ⟨rfl, rfl⟩ (by rw [hR]; decide) rfl (Nat.le_of_ble_eq_true rfl) dL_law_331 (by rw [hR]; exact hcs) (fun r39 s38 hw => ?_)
          refine qx_icmp_eq (tgt := 530) (pc := 334) X dL_law_334 (by decide) (fun c40 => ?_) (fun c40 => ?_)
          · have hw := hw.1 c40
            refine qx_iinc (v := (a3 + 7)) (lv' := [(3, .int (a3 + 7)), (0, .ref b), (1, .ref (ad 0 0)), (2, .ref (ad 30 0))]) (pc := 530) X 3 dL_law_530 rfl rfl (by decide) rfl ?_
            refine qx_goto (tgt := 18) (pc := 533) X dL_law_533 (by decide) ?_
            refine qx_lsub [1, 2, 3, 0] rfl ?_
            exact ih (a3 + 7) s38 hw
          · have hw := hw.2 c40
            refine qx_iconst (v := 0) (pc := 337) X dL_law_337 (by decide) ?_
            exact hw.elim
        · have hw := hw.2.2.2.2.2.1 (s1.trans (by decide))
          refine qx_aload_n (pc := 339) X 1 dL_law_339 rfl rfl ?_
          refine qx_aload_n (pc := 340) X 0 dL_law_340 rfl rfl ?_
          refine qx_iload_n (pc := 341) X 3 dL_law_341 rfl rfl ?_
          refine qx_iconst (v := 1) (pc := 342) X dL_law_342 (by decide) ?_
          refine qx_iadd (pc := 343) X dL_law_343 ?_
          refine qx_sld (pc := 344) X hX hbl hbA hw.1 dL_law_344 ?_
          have hw := hw.2
          refine qx_callVi (f := 0) (i := 0) (pc := 345) X [.int (xs (a3 + (1 : Int32)).toNatClampNeg)] [] (kX9_told K.2.1 G t1 t2 ad (xs (a3 + (1 : Int32)).toNatClampNeg) σ _ hw) qx_mcX9_told qx_lRL_38 qx_iX9_told qx_selX9_told qx_me0 qx_rc0 rfl ⟨rfl, rfl⟩ (by rw [hR]; decide) rfl (Nat.le_of_ble_eq_true rfl) dL_law_345 (by rw [hR]; exact hcs) (fun r42 s41 hw => ?_)
          refine qx_aload_n (pc := 348) X 2 dL_law_348 rfl rfl ?_
          refine qx_aload_n (pc := 349) X 0 dL_law_349 rfl rfl ?_
          refine qx_iload_n (pc := 350) X 3 dL_law_350 rfl rfl ?_
          refine qx_iconst (v := 1) (pc := 351) X dL_law_351 (by decide) ?_
          refine qx_iadd (pc := 352) X dL_law_352 ?_
          refine qx_sld (pc := 353) X hX hbl hbA hw.1 dL_law_353 ?_
          have hw := hw.2
          refine qx_callVi (f := 30) (i := 0) (pc := 354) X [.int (xs (a3 + (1 : Int32)).toNatClampNeg)] [.int r42] (kX10_told K.2.1 G t1 t2 ad (xs (a3 + (1 : Int32)).toNatClampNeg) s41 _ hw) qx_mcX10_told qx_lRL_42 qx_iX10_told qx_selX10_told qx_me30 qx_rc30 rfl ⟨rfl, rfl⟩ (by rw [hR]; decide) rfl (Nat.le_of_ble_eq_true rfl) dL_law_354 (by rw [hR]; exact hcs) (fun r44 s43 hw => ?_)
          refine qx_icmp_eq (tgt := 530) (pc := 357) X dL_law_357 (by decide) (fun c45 => ?_) (fun c45 => ?_)
          · have hw := hw.1 c45
            refine qx_iinc (v := (a3 + 7)) (lv' := [(3, .int (a3 + 7)), (0, .ref b), (1, .ref (ad 0 0)), (2, .ref (ad 30 0))]) (pc := 530) X 3 dL_law_530 rfl rfl (by decide) rfl ?_
            refine qx_goto (tgt := 18) (pc := 533) X dL_law_533 (by decide) ?_
            refine qx_lsub [1, 2, 3, 0] rfl ?_
            exact ih (a3 + 7) s43 hw
          · have hw := hw.2 c45
            refine qx_iconst (v := 0) (pc := 360) X dL_law_360 (by decide) ?_
            exact hw.elim
        · have hw := hw.2.2.2.2.2.2.1 (s1.trans (by decide))
          refine qx_aload_n (pc := 362) X 1 dL_law_362 rfl rfl ?_
          refine qx_aload_n (pc := 363) X 0 dL_law_363 rfl rfl ?_
          refine qx_iload_n (pc := 364) X 3 dL_law_364 rfl rfl ?_
          refine qx_iconst (v := 1) (pc := 365) X dL_law_365 (by decide) ?_
          refine qx_iadd (pc := 366) X dL_law_366 ?_
          refine qx_sld (pc := 367) X hX hbl hbA hw.1 dL_law_367 ?_
          have hw := hw.2
          refine qx_aload_n (pc := 368) X 0 dL_law_368 rfl rfl ?_
          refine qx_iload_n (pc := 369) X 3 dL_law_369 rfl rfl ?_
          refine qx_iconst (v := 2) (pc := 370) X dL_law_370 (by decide) ?_
          refine qx_iadd (pc := 371) X dL_law_371 ?_
          refine qx_sld (pc := 372) X hX hbl hbA hw.1 dL_law_372 ?_
          have hw := hw.2
          refine qx_callVi (f := 0) (i := 0) (pc := 373) X [.int (xs (a3 + (1 : Int32)).toNatClampNeg), .int (xs (a3 + (2 : Int32)).toNatClampNeg)] [] (kX9_frame K.2.1 G t1 t2 ad (xs (a3 + (1 : Int32)).toNatClampNeg) (xs (a3 + (2 : Int32)).toNatClampNeg) σ _ hw) qx_mcX9_frame qx_lRL_43 qx_iX9_frame qx_selX9_frame qx_me0 qx_rc0 rfl ⟨rfl, rfl⟩ (by rw [hR]; decide) rfl (Nat.le_of_ble_eq_true rfl) dL_law_373 (by rw [hR]; exact hcs) (fun r47 s46 hw => ?_)
          refine qx_aload_n (pc := 376) X 2 dL_law_376 rfl rfl ?_
          refine qx_aload_n (pc := 377) X 0 dL_law_377 rfl rfl ?_
          refine qx_iload_n (pc := 378) X 3 dL_law_378 rfl rfl ?_
          refine qx_iconst (v := 1) (pc := 379) X dL_law_379 (by decide) ?_
          refine qx_iadd (pc := 380) X dL_law_380 ?_
          refine qx_sld (pc := 381) X hX hbl hbA hw.1 dL_law_381 ?_
          have hw := hw.2
          refine qx_aload_n (pc := 382) X 0 dL_law_382 rfl rfl ?_
          refine qx_iload_n (pc := 383) X 3 dL_law_383 rfl rfl ?_
          refine qx_iconst (v := 2) (pc := 384) X dL_law_384 (by decide) ?_
          refine qx_iadd (pc := 385) X dL_law_385 ?_
          refine qx_sld (pc := 386) X hX hbl hbA hw.1 dL_law_386 ?_
          have hw := hw.2
          refine qx_callVi (f := 30) (i := 0) (pc := 387) X [.int (xs (a3 + (1 : Int32)).toNatClampNeg), .int (xs (a3 + (2 : Int32)).toNatClampNeg)] [.int r47] (kX10_frame K.2.1 G t1 t2 ad (xs (a3 + (1 : Int32)).toNatClampNeg) (xs (a3 + (2 : Int32)).toNatClampNeg) s46 _ hw) qx_mcX10_frame qx_lRL_46 qx_iX10_frame qx_selX10_frame qx_me30 qx_rc30 rfl ⟨rfl, rfl⟩ (by rw [hR]; decide) rfl (Nat.le_of_ble_eq_true rfl) dL_law_387 (by rw [hR]; exact hcs) (fun r49 s48 hw => ?_)
          refine qx_icmp_eq (tgt := 530) (pc := 390) X dL_law_390 (by decide) (fun c50 => ?_) (fun c50 => ?_)
          · have hw := hw.1 c50
            refine qx_iinc (v := (a3 + 7)) (lv' := [(3, .int (a3 + 7)), (0, .ref b), (1, .ref (ad 0 0)), (2, .ref (ad 30 0))]) (pc := 530) X 3 dL_law_530 rfl rfl (by decide) rfl ?_
            refine qx_goto (tgt := 18) (pc := 533) X dL_law_533 (by decide) ?_
            refine qx_lsub [1, 2, 3, 0] rfl ?_
            exact ih (a3 + 7) s48 hw
          · have hw := hw.2 c50
            refine qx_iconst (v := 0) (pc := 393) X dL_law_393 (by decide) ?_
            exact hw.elim
        · have hw := hw.2.2.2.2.2.2.2.1 (s1.trans (by decide))
          refine qx_aload_n (pc := 395) X 1 dL_law_395 rfl rfl ?_
          refine qx_aload_n (pc := 396) X 0 dL_law_396 rfl rfl ?_
          refine qx_iload_n (pc := 397) X 3 dL_law_397 rfl rfl ?_
          refine qx_iconst (v := 1) (pc := 398) X dL_law_398 (by decide) ?_
          refine qx_iadd (pc := 399) X dL_law_399 ?_
          refine qx_sld (pc := 400) X hX hbl hbA hw.1 dL_law_400 ?_
          have hw := hw.2
          refine qx_aload_n (pc := 401) X 0 dL_law_401 rfl rfl ?_
          refine qx_iload_n (pc := 402) X 3 dL_law_402 rfl rfl ?_
          refine qx_iconst (v := 2) (pc := 403) X dL_law_403 (by decide) ?_
          refine qx_iadd (pc := 404) X dL_law_404 ?_
          refine qx_sld (pc := 405) X hX hbl hbA hw.1 dL_law_405 ?_
          have hw := hw.2
          refine qx_callVi (f := 0) (i := 0) (pc := 406) X [.int (xs (a3 + (1 : Int32)).toNatClampNeg), .int (xs (a3 + (2 : Int32)).toNatClampNeg)] [] (kX9_event K.2.1 G t1 t2 ad (xs (a3 + (1 : Int32)).toNatClampNeg) (xs (a3 + (2 : Int32)).toNatClampNeg) σ _ hw) qx_mcX9_event qx_lRL_47 qx_iX9_event qx_selX9_event qx_me0 qx_rc0 rfl ⟨rfl, rfl⟩ (by rw [hR]; decide) rfl (Nat.le_of_ble_eq_true rfl) dL_law_406 (by rw [hR]; exact hcs) (fun r52 s51 hw => ?_)
          refine qx_aload_n (pc := 409) X 2 dL_law_409 rfl rfl ?_
          refine qx_aload_n (pc := 410) X 0 dL_law_410 rfl rfl ?_
          refine qx_iload_n (pc := 411) X 3 dL_law_411 rfl rfl ?_
          refine qx_iconst (v := 1) (pc := 412) X dL_law_412 (by decide) ?_
          refine qx_iadd (pc := 413) X dL_law_413 ?_
          refine qx_sld (pc := 414) X hX hbl hbA hw.1 dL_law_414 ?_
          have hw := hw.2
          refine qx_aload_n (pc := 415) X 0 dL_law_415 rfl rfl ?_
          refine qx_iload_n (pc := 416) X 3 dL_law_416 rfl rfl ?_
          refine qx_iconst (v := 2) (pc := 417) X dL_law_417 (by decide) ?_
          refine qx_iadd (pc := 418) X dL_law_418 ?_
          refine qx_sld (pc := 419) X hX hbl hbA hw.1 dL_law_419 ?_
          have hw := hw.2
          refine qx_callVi (f := 30) (i := 0) (pc := 420) X [.int (xs (a3 + (1 : Int32)).toNatClampNeg), .int (xs (a3 + (2 : Int32)).toNatClampNeg)] [.int r52] (kX10_event K.2.1 G t1 t2 ad (xs (a3 + (1 : Int32)).toNatClampNeg) (xs (a3 + (2 : Int32)).toNatClampNeg) s51 _ hw) qx_mcX10_event qx_lRL_50 qx_iX10_event qx_selX10_event qx_me30 qx_rc30 rfl ⟨rfl, rfl⟩ (by rw [hR]; decide) rfl (Nat.le_of_ble_eq_true rfl) dL_law_420 (by rw [hR]; exact hcs) (fun r54 s53 hw => ?_)
          refine qx_icmp_eq (tgt := 530) (pc := 423) X dL_law_423 (by decide) (fun c55 => ?_) (fun c55 => ?_)
          · have hw := hw.1 c55
            refine qx_iinc (v := (a3 + 7)) (lv' := [(3, .int (a3 + 7)), (0, .ref b), (1, .ref (ad 0 0)), (2, .ref (ad 30 0))]) (pc := 530) X 3 dL_law_530 rfl rfl (by decide) rfl ?_
            refine qx_goto (tgt := 18) (pc := 533) X dL_law_533 (by decide) ?_
            refine qx_lsub [1, 2, 3, 0] rfl ?_
            exact ih (a3 + 7) s53 hw
          · have hw := hw.2 c55
            refine qx_iconst (v := 0) (pc := 426) X dL_law_426 (by decide) ?_
            exact hw.elim
        · have hw := hw.2.2.2.2.2.2.2.2.1 (s1.trans (by decide))
          refine qx_aload_n (pc := 428) X 1 dL_law_428 rfl rfl ?_
          refine qx_aload_n (pc := 429) X 0 dL_law_429 rfl rfl ?_
          refine qx_iload_n (pc := 430) X 3 dL_law_430 rfl rfl ?_
          refine qx_iconst (v := 1) (pc := 431) X dL_law_431 (by decide) ?_
          refine qx_iadd (pc := 432) X dL_law_432 ?_
          refine qx_sld (pc := 433) X hX hbl hbA hw.1 dL_law_433 ?_
          have hw := hw.2
          refine qx_aload_n (pc := 434) X 0 dL_law_434 rfl rfl ?_
          refine qx_iload_n (pc := 435) X 3 dL_law_435 rfl rfl ?_
          refine qx_iconst (v := 2) (pc := 436) X dL_law_436 (by decide) ?_
          refine qx_iadd (pc := 437) X dL_law_437 ?_
          refine qx_sld (pc := 438) X hX hbl hbA hw.1 dL_law_438 ?_
          have hw := hw.2
          refine qx_callVi (f := 0) (i := 0) (pc := 439) X [.int (xs (a3 + (1 : Int32)).toNatClampNeg), .int (xs (a3 + (2 : Int32)).toNatClampNeg)] [] (kX9_store K.2.1 G t1 t2 ad (xs (a3 + (1 : Int32)).toNatClampNeg) (xs (a3 + (2 : Int32)).toNatClampNeg) σ _ hw) qx_mcX9_store qx_lRL_51 qx_iX9_store qx_selX9_store qx_me0 qx_rc0 rfl ⟨rfl, rfl⟩ (by rw [hR]; decide) rfl (Nat.le_of_ble_eq_true rfl) dL_law_439 (by rw [hR]; exact hcs) (fun r57 s56 hw => ?_)
          refine qx_aload_n (pc := 442) X 2 dL_law_442 rfl rfl ?_
          refine qx_aload_n (pc := 443) X 0 dL_law_443 rfl rfl ?_
          refine qx_iload_n (pc := 444) X 3 dL_law_444 rfl rfl ?_
          refine qx_iconst (v := 1) (pc := 445) X dL_law_445 (by decide) ?_
          refine qx_iadd (pc := 446) X dL_law_446 ?_
          refine qx_sld (pc := 447) X hX hbl hbA hw.1 dL_law_447 ?_
          have hw := hw.2
          refine qx_aload_n (pc := 448) X 0 dL_law_448 rfl rfl ?_
          refine qx_iload_n (pc := 449) X 3 dL_law_449 rfl rfl ?_
          refine qx_iconst (v := 2) (pc := 450) X dL_law_450 (by decide) ?_
          refine qx_iadd (pc := 451) X dL_law_451 ?_
          refine qx_sld (pc := 452) X hX hbl hbA hw.1 dL_law_452 ?_
          have hw := hw.2
          refine qx_callVi (f := 30) (i := 0) (pc := 453) X [.int (xs (a3 + (1 : Int32)).toNatClampNeg), .int (xs (a3 + (2 : Int32)).toNatClampNeg)] [.int r57] (kX10_store K.2.1 G t1 t2 ad (xs (a3 + (1 : Int32)).toNatClampNeg) (xs (a3 + (2 : Int32)).toNatClampNeg) s56 _ hw) qx_mcX10_store qx_lRL_54 qx_iX10_store qx_selX10_store qx_me30 qx_rc30 rfl ⟨rfl, rfl⟩ (by rw [hR]; decide) rfl (Nat.le_of_ble_eq_true rfl) dL_law_453 (by rw [hR]; exact hcs) (fun r59 s58 hw => ?_)
          refine qx_icmp_eq (tgt := 530) (pc := 456) X dL_law_456 (by decide) (fun c60 => ?_) (fun c60 => ?_)
          · have hw := hw.1 c60
            refine qx_iinc (v := (a3 + 7)) (lv' := [(3, .int (a3 + 7)), (0, .ref b), (1, .ref (ad 0 0)), (2, .ref (ad 30 0))]) (pc := 530) X 3 dL_law_530 rfl rfl (by decide) rfl ?_
            refine qx_goto (tgt := 18) (pc := 533) X dL_law_533 (by decide) ?_
            refine qx_lsub [1, 2, 3, 0] rfl ?_
            exact ih (a3 + 7) s58 hw
          · have hw := hw.2 c60
            refine qx_iconst (v := 0) (pc := 459) X dL_law_459 (by decide) ?_
            exact hw.elim
        · have hw := hw.2.2.2.2.2.2.2.2.2.1 (s1.trans (by decide))
          refine qx_aload_n (pc := 461) X 1 dL_law_461 rfl rfl ?_
          refine qx_aload_n (pc := 462) X 0 dL_law_462 rfl rfl ?_
          refine qx_iload_n (pc := 463) X 3 dL_law_463 rfl rfl ?_
          refine qx_iconst (v := 1) (pc := 464) X dL_law_464 (by decide) ?_
          refine qx_iadd (pc := 465) X dL_law_465 ?_
          refine qx_sld (pc := 466) X hX hbl hbA hw.1 dL_law_466 ?_
          have hw := hw.2
          refine qx_aload_n (pc := 467) X 0 dL_law_467 rfl rfl ?_
          refine qx_iload_n (pc := 468) X 3 dL_law_468 rfl rfl ?_
          refine qx_iconst (v := 2) (pc := 469) X dL_law_469 (by decide) ?_
          refine qx_iadd (pc := 470) X dL_law_470 ?_
          refine qx_sld (pc := 471) X hX hbl hbA hw.1 dL_law_471 ?_
          have hw := hw.2
          refine qx_callVi (f := 0) (i := 0) (pc := 472) X [.int (xs (a3 + (1 : Int32)).toNatClampNeg), .int (xs (a3 + (2 : Int32)).toNatClampNeg)] [] (kX9_coins K.2.1 G t1 t2 ad (xs (a3 + (1 : Int32)).toNatClampNeg) (xs (a3 + (2 : Int32)).toNatClampNeg) σ _ hw) qx_mcX9_coins qx_lRL_55 qx_iX9_coins qx_selX9_coins qx_me0 qx_rc0 rfl ⟨rfl, rfl⟩ (by rw [hR]; decide) rfl (Nat.le_of_ble_eq_true rfl) dL_law_472 (by rw [hR]; exact hcs) (fun r62 s61 hw => ?_)
          refine qx_aload_n (pc := 475) X 2 dL_law_475 rfl rfl ?_
          refine qx_aload_n (pc := 476) X 0 dL_law_476 rfl rfl ?_
          refine qx_iload_n (pc := 477) X 3 dL_law_477 rfl rfl ?_
          refine qx_iconst (v := 1) (pc := 478) X dL_law_478 (by decide) ?_
          refine qx_iadd (pc := 479) X dL_law_479 ?_
          refine qx_sld (pc := 480) X hX hbl hbA hw.1 dL_law_480 ?_
          have hw := hw.2
          refine qx_aload_n (pc := 481) X 0 dL_law_481 rfl rfl ?_
          refine qx_iload_n (pc := 482) X 3 dL_law_482 rfl rfl ?_
          refine qx_iconst (v := 2) (pc := 483) X dL_law_483 (by decide) ?_
          refine qx_iadd (pc := 484) X dL_law_484 ?_
          refine qx_sld (pc := 485) X hX hbl hbA hw.1 dL_law_485 ?_
          have hw := hw.2
          refine qx_callVi (f := 30) (i := 0) (pc := 486) X [.int (xs (a3 + (1 : Int32)).toNatClampNeg), .int (xs (a3 + (2 : Int32)).toNatClampNeg)] [.int r62] (kX10_coins K.2.1 G t1 t2 ad (xs (a3 + (1 : Int32)).toNatClampNeg) (xs (a3 + (2 : Int32)).toNatClampNeg) s61 _ hw) qx_mcX10_coins qx_lRL_58 qx_iX10_coins qx_selX10_coins qx_me30 qx_rc30 rfl ⟨rfl, rfl⟩ (by rw [hR]; decide) rfl (Nat.le_of_ble_eq_true rfl) dL_law_486 (by rw [hR]; exact hcs) (fun r64 s63 hw => ?_)
          refine qx_icmp_eq (tgt := 530) (pc := 489) X dL_law_489 (by decide) (fun c65 => ?_) (fun c65 => ?_)
          · have hw := hw.1 c65
            refine qx_iinc (v := (a3 + 7)) (lv' := [(3, .int (a3 + 7)), (0, .ref b), (1, .ref (ad 0 0)), (2, .ref (ad 30 0))]) (pc := 530) X 3 dL_law_530 rfl rfl (by decide) rfl ?_
            refine qx_goto (tgt := 18) (pc := 533) X dL_law_533 (by decide) ?_
            refine qx_lsub [1, 2, 3, 0] rfl ?_
            exact ih (a3 + 7) s63 hw
          · have hw := hw.2 c65
            refine qx_iconst (v := 0) (pc := 492) X dL_law_492 (by decide) ?_
            exact hw.elim
        · have hw := hw.2.2.2.2.2.2.2.2.2.2.1 (s1.trans (by decide))
          refine qx_aload_n (pc := 494) X 1 dL_law_494 rfl rfl ?_
          refine qx_aload_n (pc := 495) X 0 dL_law_495 rfl rfl ?_
          refine qx_iload_n (pc := 496) X 3 dL_law_496 rfl rfl ?_
          refine qx_iconst (v := 1) (pc := 497) X dL_law_497 (by decide) ?_
          refine qx_iadd (pc := 498) X dL_law_498 ?_
          refine qx_sld (pc := 499) X hX hbl hbA hw.1 dL_law_499 ?_
          have hw := hw.2
          refine qx_callVi (f := 0) (i := 0) (pc := 500) X [.int (xs (a3 + (1 : Int32)).toNatClampNeg)] [] (kX9_count K.2.1 G t1 t2 ad (xs (a3 + (1 : Int32)).toNatClampNeg) σ _ hw) qx_mcX9_count qx_lRL_59 qx_iX9_count qx_selX9_count qx_me0 qx_rc0 rfl ⟨rfl, rfl⟩ (by rw [hR]; decide) rfl (Nat.le_of_ble_eq_true rfl) dL_law_500 (by rw [hR]; exact hcs) (fun r67 s66 hw => ?_)
          refine qx_aload_n (pc := 503) X 2 dL_law_503 rfl rfl ?_
          refine qx_aload_n (pc := 504) X 0 dL_law_504 rfl rfl ?_
          refine qx_iload_n (pc := 505) X 3 dL_law_505 rfl rfl ?_
          refine qx_iconst (v := 1) (pc := 506) X dL_law_506 (by decide) ?_
          refine qx_iadd (pc := 507) X dL_law_507 ?_
          refine qx_sld (pc := 508) X hX hbl hbA hw.1 dL_law_508 ?_
          have hw := hw.2
          refine qx_callVi (f := 30) (i := 0) (pc := 509) X [.int (xs (a3 + (1 : Int32)).toNatClampNeg)] [.int r67] (kX10_count K.2.1 G t1 t2 ad (xs (a3 + (1 : Int32)).toNatClampNeg) s66 _ hw) qx_mcX10_count qx_lRL_62 qx_iX10_count qx_selX10_count qx_me30 qx_rc30 rfl ⟨rfl, rfl⟩ (by rw [hR]; decide) rfl (Nat.le_of_ble_eq_true rfl) dL_law_509 (by rw [hR]; exact hcs) (fun r69 s68 hw => ?_)
          refine qx_icmp_eq (tgt := 530) (pc := 512) X dL_law_512 (by decide) (fun c70 => ?_) (fun c70 => ?_)
          · have hw := hw.1 c70
            refine qx_iinc (v := (a3 + 7)) (lv' := [(3, .int (a3 + 7)), (0, .ref b), (1, .ref (ad 0 0)), (2, .ref (ad 30 0))]) (pc := 530) X 3 dL_law_530 rfl rfl (by decide) rfl ?_
            refine qx_goto (tgt := 18) (pc := 533) X dL_law_533 (by decide) ?_
            refine qx_lsub [1, 2, 3, 0] rfl ?_
            exact ih (a3 + 7) s68 hw
          · have hw := hw.2 c70
            refine qx_iconst (v := 0) (pc := 515) X dL_law_515 (by decide) ?_
            exact hw.elim
        · have hw := hw.2.2.2.2.2.2.2.2.2.2.2.1 (s1.trans (by decide))
          refine qx_aload_n (pc := 517) X 1 dL_law_517 rfl rfl ?_
          refine qx_callVi (f := 0) (i := 0) (pc := 518) X [] [] (kX9_clear K.2.1 G t1 t2 ad  σ _ hw) qx_mcX9_clear qx_lRL_63 qx_iX9_clear qx_selX9_clear qx_me0 qx_rc0 rfl ⟨rfl, rfl⟩ (by rw [hR]; decide) rfl (Nat.le_of_ble_eq_true rfl) dL_law_518 (by rw [hR]; exact hcs) (fun r72 s71 hw => ?_)
          refine qx_aload_n (pc := 521) X 2 dL_law_521 rfl rfl ?_
          refine qx_callVi (f := 30) (i := 0) (pc := 522) X [] [.int r72] (kX10_clear K.2.1 G t1 t2 ad  s71 _ hw) qx_mcX10_clear qx_lRL_66 qx_iX10_clear qx_selX10_clear qx_me30 qx_rc30 rfl ⟨rfl, rfl⟩ (by rw [hR]; decide) rfl (Nat.le_of_ble_eq_true rfl) dL_law_522 (by rw [hR]; exact hcs) (fun r74 s73 hw => ?_)
          refine qx_icmp_eq (tgt := 530) (pc := 525) X dL_law_525 (by decide) (fun c75 => ?_) (fun c75 => ?_)
          · have hw := hw.1 c75
            refine qx_iinc (v := (a3 + 7)) (lv' := [(3, .int (a3 + 7)), (0, .ref b), (1, .ref (ad 0 0)), (2, .ref (ad 30 0))]) (pc := 530) X 3 dL_law_530 rfl rfl (by decide) rfl ?_
            refine qx_goto (tgt := 18) (pc := 533) X dL_law_533 (by decide) ?_
            refine qx_lsub [1, 2, 3, 0] rfl ?_
            exact ih (a3 + 7) s73 hw
          · have hw := hw.2 c75
            refine qx_iconst (v := 0) (pc := 528) X dL_law_528 (by decide) ?_
            exact hw.elim
      · intro s1
        have hw := hw.2.2.2.2.2.2.2.2.2.2.2.2 s1
        refine qx_iinc (v := (a3 + 7)) (lv' := [(3, .int (a3 + 7)), (0, .ref b), (1, .ref (ad 0 0)), (2, .ref (ad 30 0))]) (pc := 530) X 3 dL_law_530 rfl rfl (by decide) rfl ?_
        refine qx_goto (tgt := 18) (pc := 533) X dL_law_533 (by decide) ?_
        refine qx_lsub [1, 2, 3, 0] rfl ?_
        exact ih (a3 + 7) σ hw
