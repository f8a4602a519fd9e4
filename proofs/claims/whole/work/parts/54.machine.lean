/-! Machine -/
theorem dvX1 : ∀ j, j < 14 → defaultValue (tyX1 j) = qx_dv [some 13, none, none, none, none, none, none, none, none, none, none, none, none, none] j := fun j hj => by
  rcases (show j = 0 ∨ j = 1 ∨ j = 2 ∨ j = 3 ∨ j = 4 ∨ j = 5 ∨ j = 6 ∨ j = 7 ∨ j = 8 ∨ j = 9 ∨ j = 10 ∨ j = 11 ∨ j = 12 ∨ j = 13 by omega) with rfl | rfl | rfl | rfl | rfl | rfl | rfl | rfl | rfl | rfl | rfl | rfl | rfl | rfl <;> rfl
theorem dvX6 : ∀ j, j < 4 → defaultValue (tyX6 j) = qx_dv [some 15, some 16, none, none] j := fun j hj => by
  rcases (show j = 0 ∨ j = 1 ∨ j = 2 ∨ j = 3 by omega) with rfl | rfl | rfl | rfl <;> rfl
def S9 (n : Nat) (f i j g k : Nat) : Prop := (f = 9 ∧ i = 0 ∧ k = 0 ∧ ((j = 0 ∧ g = 1) ∨ (j = 1 ∧ g = 3) ∨ (j = 2 ∧ g = 7) ∨ (j = 3 ∧ g = 10) ∨ (j = 4 ∧ g = 11))) ∨ (f = 10 ∧ i = 0 ∧ j < n ∧ g = 12 ∧ k = j) ∨ (f = 11 ∧ i = 0 ∧ j < n ∧ g = 14 ∧ k = j) ∨ (f = 12 ∧ i < n ∧ j = 0 ∧ g = 13 ∧ k = i) ∨ (f = 14 ∧ i < n ∧ j < 2 ∧ g = 15 + j ∧ k = i)
def N9 (n : Nat) (f i : Nat) : Prop := (f = 10 ∧ i = 0) ∨ (f = 11 ∧ i = 0) ∨ (12 ≤ f ∧ f ≤ 16 ∧ i < n)
theorem S9_step {n : Nat} {w : qx_Wx} (S : PS (S9 n) w) (A : PT w 10 0 n 12 n) (B : PT w 11 0 n 14 n) (C : PT w 12 n 0 13 n) (D : PT w 14 n 0 15 n) (E : PT w 14 n 1 16 n) : PS (S9 (n + 1)) w := by
  intro f i j g k h
  rcases h with h | ⟨rfl, rfl, hj, rfl, rfl⟩ | ⟨rfl, rfl, hj, rfl, rfl⟩ | ⟨rfl, hi, rfl, rfl, rfl⟩ | ⟨rfl, hi, hj, rfl, rfl⟩
  · exact S _ _ _ _ _ (Or.inl h)
  · rcases Nat.lt_or_ge k n with h | h
    · exact S _ _ _ _ _ (Or.inr (Or.inl ⟨rfl, rfl, h, rfl, rfl⟩))
    · obtain rfl : k = n := by omega
      exact A
  · rcases Nat.lt_or_ge k n with h | h
    · exact S _ _ _ _ _ (Or.inr (Or.inr (Or.inl ⟨rfl, rfl, h, rfl, rfl⟩)))
    · obtain rfl : k = n := by omega
      exact B
  · rcases Nat.lt_or_ge k n with h | h
    · exact S _ _ _ _ _ (Or.inr (Or.inr (Or.inr (Or.inl ⟨rfl, h, rfl, rfl, rfl⟩))))
    · obtain rfl : k = n := by omega
      exact C
  · rcases Nat.lt_or_ge k n with h | h
    · exact S _ _ _ _ _ (Or.inr (Or.inr (Or.inr (Or.inr ⟨rfl, h, hj, rfl, rfl⟩))))
    · obtain rfl : k = n := by omega
      rcases (show j = 0 ∨ j = 1 by omega) with rfl | rfl
      · exact D
      · exact E
theorem S9_0 {w : qx_Wx} (A : PT w 9 0 0 1 0) (B : PT w 9 0 1 3 0) (C : PT w 9 0 2 7 0) (D : PT w 9 0 3 10 0) (E : PT w 9 0 4 11 0) : PS (S9 0) w := by
  intro f i j g k h
  rcases h with ⟨rfl, rfl, rfl, h⟩ | ⟨rfl, rfl, hj, rfl, rfl⟩ | ⟨rfl, rfl, hj, rfl, rfl⟩ | ⟨rfl, hi, rfl, rfl, rfl⟩ | ⟨rfl, hi, hj, rfl, rfl⟩
  · rcases h with ⟨rfl, rfl⟩ | ⟨rfl, rfl⟩ | ⟨rfl, rfl⟩ | ⟨rfl, rfl⟩ | ⟨rfl, rfl⟩
    · exact A
    · exact B
    · exact C
    · exact D
    · exact E
  · omega
  · omega
  · omega
  · omega
set_option maxRecDepth 100000 in
theorem nX2 (l : Launch) (G : qx_Gx) (t1 t2 : Nat) (w : qx_Wx) (σ : qx_St) (hm : (9, 0) ∈ w.1) (m1 : (1, 0) ∈ w.1) (m3 : (3, 0) ∈ w.1) (m7 : (7, 0) ∈ w.1) (hn : ∀ f i, N9 8 f i → (f, i) ∉ w.1) (hz : ∀ f i j, f ≠ 5 → σ f i j = 0) : qx_Mc l G t1 t2 w yX2_init cX2_init 5 { frames := 2, cells := 42, slots := 840, locals := 40 } [.ref (w.2.1 9 0), .ref (w.2.1 1 0), .ref (w.2.1 3 0), .ref (w.2.1 7 0)] σ (fun w1 σ1 => σ1 = σ ∧ Gw (fun f' i' _ => f' = 9 ∧ i' = 0) (N9 8) w w1 ∧ PS (S9 8) w1) 42 840 := by
  refine cx_start qx_mcX2_init (Nat.le_of_ble_eq_true rfl) (fun K hKl hR X hr hlk hin hA => ?_)
  subst hKl
  have L : ∀ (r k : Nat) (wk : qx_Wx), k + r = 8 → Gw (fun f' i' _ => f' = 9 ∧ i' = 0) (N9 k) w wk → PS (S9 k) wk → qx_V K G 5 (2 + 5 * k) (16 + 103 * k) (MQ K.2.2.2.2.2.2.2.1 (qx_Qc G (fun w1 σ1 => σ1 = σ ∧ Gw (fun f' i' _ => f' = 9 ∧ i' = 0) (N9 8) w w1 ∧ PS (S9 8) w1)) K.2.2.2.2.2.2.1 K.2.2.2.2.1 42 840 G.2.2) wk σ 40 [(0, .ref (w.2.1 9 0)), (4, .int (nI k))] [] := by
    intro r
    induction r with
    | zero =>
      intro k wk hk H S
      obtain rfl : k = 8 := by omega
      refine qx_iload (pc := 40) X 1 dX2_init_40 rfl ?_
      refine qx_bipush (v := 8) (pc := 42) X dX2_init_42 (by decide) ?_
      refine qx_icmp_ge (tgt := 81) (pc := 44) X dX2_init_44 (by decide) (fun c => ?_) (fun c => absurd (nI_le (a := 8) (b := 8) (Nat.le_refl _) (by omega)) c)
      exact cx_vret (pc := 81) X hr hlk ⟨rfl, H, S⟩ dX2_init_81
    | succ r ih =>
      intro k wk hk H S
      refine qx_iload (pc := 40) X 1 dX2_init_40 rfl ?_
      refine qx_bipush (v := 8) (pc := 42) X dX2_init_42 (by decide) ?_
      refine qx_icmp_ge (tgt := 81) (pc := 44) X dX2_init_44 (by decide) (fun c => absurd c (nI_ge (a := k) (b := 8) (by omega) (by omega))) (fun c => ?_)
      have PF : PT wk 9 0 3 10 0 := S 9 0 3 10 0 (Or.inl ⟨rfl, rfl, rfl, Or.inr (Or.inr (Or.inr (Or.inl ⟨rfl, rfl⟩)))⟩)
      have PH : PT wk 9 0 4 11 0 := S 9 0 4 11 0 (Or.inl ⟨rfl, rfl, rfl, Or.inr (Or.inr (Or.inr (Or.inr ⟨rfl, rfl⟩)))⟩)
      refine qx_aload_n (pc := 47) X 0 dX2_init_47 rfl rfl ?_
      refine cx_getr (pc := 48) X qx_gRX2_11 PF (H.2.1 9 0 hm) dX2_init_48 ?_
      refine qx_iload (pc := 51) X 1 dX2_init_51 rfl ?_
      have hno : ∀ f, 12 ≤ f → f ≤ 16 → (f, k) ∉ wk.1 := fun f h1 h2 h => by
        rcases (H.1 f k).mp h with h | h
        · exact hn f k (Or.inr (Or.inr ⟨h1, h2, by omega⟩)) h
        · unfold N9 at h; omega
      refine cx_newo (f := 12) (i := k) (pc := 53) X hA rfl qx_cpX1 rfl dvX1 (hno 12 (by omega) (by omega)) (fun j => hz 12 k j (by decide)) qx_kRX2_9 qx_inRX1 qx_iniRX1 (by rw [hR]; show 2 + 5 * k + 1 ≤ 42; omega) (by rw [hR]; show 16 + 103 * k + 14 ≤ 840; omega) dX2_init_53 (fun a => ?_)
      have GA := wN_G (a := a) (hno 12 (by omega) (by omega))
      have n13 : (13, k) ∉ (wN wk 12 k a).1 := fun h => by
        rcases (GA.1 13 k).mp h with h | h
        · exact hno 13 (by omega) (by omega) h
        · omega
      refine qx_dup (pc := 56) X dX2_init_56 rfl ?_
      have C := nX1 K.2.1 G t1 t2 (wN wk 12 k a) σ k wN_m n13 hz
      rw [wN_a] at C
      refine cx_callIN (pc := 57) X hA [] [.ref a, .int (nI k), .ref (wk.2.1 10 0)] C qx_mcX1_init X.2.2.2.2.2.2.1.2.2.1 qx_iX1_init rfl rfl ⟨rfl, rfl⟩ (by rw [hR]; decide) rfl (Nat.le_of_ble_eq_true rfl) dX2_init_57 (by rw [hR]; show 2 + 5 * k + 1 + 1 ≤ 42 ∧ 16 + 103 * k + 14 + 8 ≤ 840; omega) (fun w1 σ1 hp => ?_)
      obtain ⟨rfl, GB, Q1⟩ := hp
      have D := GA.trans GB (T := fun f' i' _ => f' = 12 ∧ i' = k) (N := fun f' i' => (12 ≤ f' ∧ f' ≤ 13) ∧ i' = k) (fun _ _ _ h _ => h.elim False.elim id) (fun f' i' => by omega)
      have m10 := (D.1 10 0).mpr (Or.inl PF.2.1)
      have m12 := (D.1 12 k).mpr (Or.inr (by omega))
      have a12 : w1.2.1 12 k = a := (GB.2.1 12 k wN_m).trans wN_a
      refine cx_astr (f := 10) (i := 0) (g := 12) (k := k) (pc := 60) X rfl rfl m10 (D.2.1 10 0 PF.2.1) rfl rfl m12 a12 (vp_in_nI (by omega) (by omega)) dX2_init_60 ?_
      rw [nI_clamp (by omega)]
      have GC := wR_G (w := w1) (f := 10) (i := 0) (j := k) (a := a)
      have E := D.trans GC (T := fun f' i' j' => (f' = 12 ∧ i' = k) ∨ (f' = 10 ∧ i' = 0 ∧ j' = k)) (N := fun f' i' => (12 ≤ f' ∧ f' ≤ 13) ∧ i' = k) (fun _ _ _ h _ => h) (fun f' i' => by simp)
      have PN : PT (wR w1 10 0 k a) 10 0 k 12 k := by
        have h := wR_P (w := w1) (f := 10) (i := 0) (j := k) (g := 12) (k := k) m10 m12
        rw [a12] at h
        exact h
      have Q1 := Q1.mono GC (by omega)
      have S' := S.mono E (fun f i j g q h => by unfold S9 at h; omega)
      have PH' := PH.mono E (by omega)
      have H' := H.trans E (T := fun f' i' _ => f' = 9 ∧ i' = 0) (N := fun f' i' => N9 k f' i' ∨ ((12 ≤ f' ∧ f' ≤ 13) ∧ i' = k)) (fun f' i' j h hw => by
        rcases h with h | h | h
        · exact h
        · exact absurd hw (hn f' i' (by unfold N9; omega))
        · exact absurd hw (hn f' i' (by unfold N9; omega))) (fun f' i' => Iff.rfl)
      generalize wR w1 10 0 k a = v at GC E PN Q1 S' PH' H' ⊢
      refine qx_aload_n (pc := 61) X 0 dX2_init_61 rfl rfl ?_
      refine cx_getr (pc := 62) X qx_gRX2_19 PH' (H'.2.1 9 0 hm) dX2_init_62 ?_
      refine qx_iload (pc := 65) X 1 dX2_init_65 rfl ?_
      have hno2 : ∀ f, 14 ≤ f → f ≤ 16 → (f, k) ∉ v.1 := fun f h1 h2 h => by
        rcases (E.1 f k).mp h with h | h
        · exact hno f (by omega) h2 h
        · omega
      refine cx_newo (f := 14) (i := k) (pc := 67) X hA rfl qx_cpX6 rfl dvX6 (hno2 14 (by omega) (by omega)) (fun j => hz 14 k j (by decide)) qx_kRX2_17 qx_inRX6 qx_iniRX6 (by rw [hR]; show 2 + 5 * k + 1 + 1 + 1 ≤ 42; omega) (by rw [hR]; show 16 + 103 * k + 14 + 8 + 4 ≤ 840; omega) dX2_init_67 (fun b => ?_)
      have GA2 := wN_G (a := b) (hno2 14 (by omega) (by omega))
      have n15 : ∀ f, 15 ≤ f → f ≤ 16 → (f, k) ∉ (wN v 14 k b).1 := fun f h1 h2 h => by
        rcases (GA2.1 f k).mp h with h | h
        · exact hno2 f (by omega) h2 h
        · omega
      refine qx_dup (pc := 70) X dX2_init_70 rfl ?_
      have C2 := nX6 K.2.1 G t1 t2 (wN v 14 k b) σ1 k wN_m (n15 15 (by omega) (by omega)) (n15 16 (by omega) (by omega)) hz
      rw [wN_a] at C2
      refine cx_callIN (pc := 71) X hA [] [.ref b, .int (nI k), .ref (v.2.1 11 0)] C2 qx_mcX6_init X.2.2.2.2.2.2.1.2.2.2.1 qx_iX6_init rfl rfl ⟨rfl, rfl⟩ (by rw [hR]; decide) rfl (Nat.le_of_ble_eq_true rfl) dX2_init_71 (by rw [hR]; show 2 + 5 * k + 1 + 1 + 1 + 2 ≤ 42 ∧ 16 + 103 * k + 14 + 8 + 4 + 77 ≤ 840; omega) (fun w2 σ2 hp => ?_)
      obtain ⟨rfl, GB2, Q2, Q3⟩ := hp
      have D2 := GA2.trans GB2 (T := fun f' i' _ => f' = 14 ∧ i' = k) (N := fun f' i' => (14 ≤ f' ∧ f' ≤ 16) ∧ i' = k) (fun _ _ _ h _ => h.elim False.elim id) (fun f' i' => by omega)
      have m11 := (D2.1 11 0).mpr (Or.inl PH'.2.1)
      have m14 := (D2.1 14 k).mpr (Or.inr (by omega))
      have a14 : w2.2.1 14 k = b := (GB2.2.1 14 k wN_m).trans wN_a
      refine cx_astr (f := 11) (i := 0) (g := 14) (k := k) (pc := 74) X rfl rfl m11 (D2.2.1 11 0 PH'.2.1) rfl rfl m14 a14 (vp_in_nI (by omega) (by omega)) dX2_init_74 ?_
      rw [nI_clamp (by omega)]
      have GC2 := wR_G (w := w2) (f := 11) (i := 0) (j := k) (a := b)
      have E2 := D2.trans GC2 (T := fun f' i' j' => (f' = 14 ∧ i' = k) ∨ (f' = 11 ∧ i' = 0 ∧ j' = k)) (N := fun f' i' => (14 ≤ f' ∧ f' ≤ 16) ∧ i' = k) (fun _ _ _ h _ => h) (fun f' i' => by simp)
      have PN2 : PT (wR w2 11 0 k b) 11 0 k 14 k := by
        have h := wR_P (w := w2) (f := 11) (i := 0) (j := k) (g := 14) (k := k) m11 m14
        rw [a14] at h
        exact h
      have Q2 := Q2.mono GC2 (by omega)
      have Q3 := Q3.mono GC2 (by omega)
      have Q1 := Q1.mono E2 (by omega)
      have PN := PN.mono E2 (by omega)
      have S'' := S'.mono E2 (fun f i j g q h => by unfold S9 at h; omega)
      have F := H'.trans E2 (T := fun f' i' _ => f' = 9 ∧ i' = 0) (N := N9 (k + 1)) (fun f' i' j h hw => by
        rcases h with h | h | h
        · exact h
        · exact absurd hw (hn f' i' (by unfold N9; omega))
        · exact absurd hw (hn f' i' (by unfold N9; omega))) (fun f' i' => by unfold N9; omega)
      have SS := S9_step S'' PN PN2 Q1 Q2 Q3
      refine qx_iinc (v := nI (k + 1)) (lv' := [(4, .int (nI (k + 1))), (0, .ref (w.2.1 9 0))]) (pc := 75) X 1 dX2_init_75 rfl (nI_1 k) (by decide) rfl ?_
      refine qx_goto (tgt := 40) (pc := 78) X dX2_init_78 (by decide) ?_
      refine qx_lsub [1, 0] rfl ?_
      refine cx_widen (c' := 2 + 5 * (k + 1)) (s' := 16 + 103 * (k + 1)) (by omega) (by omega) ?_
      exact ih (k + 1) _ (by omega) F SS
  refine (show qx_V K G 5 0 0 (MQ K.2.2.2.2.2.2.2.1 (qx_Qc G _) K.2.2.2.2.2.2.1 K.2.2.2.2.1 42 840 G.2.2) w σ 0 [(0, .ref (w.2.1 9 0)), (1, .ref (w.2.1 1 0)), (2, .ref (w.2.1 3 0)), (3, .ref (w.2.1 7 0))] [] from ?_)
  refine qx_aload_n (pc := 0) X 0 dX2_init_0 rfl rfl ?_
  refine cx_oinit (pc := 1) X qx_lRX2_3 (by rw [hR]; decide) (by rw [hR]; decide) dX2_init_1 ?_
  refine qx_aload_n (pc := 4) X 0 dX2_init_4 rfl rfl ?_
  refine qx_bipush (v := 8) (pc := 5) X dX2_init_5 (by decide) ?_
  refine cx_mkq (pc := 7) X hA hin qx_fRX2_11 rfl rfl hm rfl (hn 10 0 (Or.inl ⟨rfl, rfl⟩)) qx_kRX2_9 X.2.2.2.2.2.2.2.2.2.1 (by decide) (by decide) (by decide) (by rw [hR]; decide) (by rw [hR]; decide) dX2_init_7 dX2_init_10 (fun w1 G1 P1 => ?_)
  have H1 : Gw (fun f' i' _ => f' = 9 ∧ i' = 0) (fun f' i' => f' = 10 ∧ i' = 0) w w1 := ⟨G1.1, G1.2.1, fun f' i' h j q => G1.2.2 f' i' h j (fun z => q ⟨z.1, z.2.1⟩)⟩
  refine qx_aload_n (pc := 13) X 0 dX2_init_13 rfl rfl ?_
  refine qx_bipush (v := 8) (pc := 14) X dX2_init_14 (by decide) ?_
  have n11 : (11, 0) ∉ w1.1 := fun h => by
    rcases (H1.1 11 0).mp h with h | h
    · exact hn 11 0 (Or.inr (Or.inl ⟨rfl, rfl⟩)) h
    · omega
  refine cx_mkq (pc := 16) X hA hin qx_fRX2_19 rfl rfl ((H1.1 9 0).mpr (Or.inl hm)) (H1.2.1 9 0 hm) n11 qx_kRX2_17 X.2.2.2.2.2.2.2.2.2.2 (by decide) (by decide) (by decide) (by rw [hR]; decide) (by rw [hR]; decide) dX2_init_16 dX2_init_19 (fun w2 G2 P2 => ?_)
  have H2 : Gw (fun f' i' _ => f' = 9 ∧ i' = 0) (N9 0) w w2 := H1.trans G2 (fun f' i' j h _ => h.elim id (fun q => ⟨q.1, q.2.1⟩)) (fun f' i' => by unfold N9; omega)
  have P1 := P1.mono G2 (fun h => absurd h.2.2 (by decide))
  refine qx_aload_n (pc := 22) X 0 dX2_init_22 rfl rfl ?_
  refine qx_aload_n (pc := 23) X 1 dX2_init_23 rfl rfl ?_
  refine cx_putr (pc := 24) X hin qx_fRX2_23 ((H2.1 9 0).mpr (Or.inl hm)) (H2.2.1 9 0 hm) dX2_init_24 ?_
  have G3 := wR_G (w := w2) (f := 9) (i := 0) (j := 0) (a := w.2.1 1 0)
  have P3 : PT (wR w2 9 0 0 (w.2.1 1 0)) 9 0 0 1 0 := by
    have h := wR_P (w := w2) (f := 9) (i := 0) (j := 0) (g := 1) (k := 0) ((H2.1 9 0).mpr (Or.inl hm)) ((H2.1 1 0).mpr (Or.inl m1))
    rw [H2.2.1 1 0 m1] at h
    exact h
  have H3 : Gw (fun f' i' _ => f' = 9 ∧ i' = 0) (N9 0) w (wR w2 9 0 0 (w.2.1 1 0)) := H2.trans G3 (fun f' i' j h _ => h.elim id (fun q => ⟨q.1, q.2.1⟩)) (fun f' i' => by simp)
  have P1 := P1.mono G3 (fun h => absurd h.2.2 (by decide))
  have P2 := P2.mono G3 (fun h => absurd h.2.2 (by decide))
  generalize wR w2 9 0 0 (w.2.1 1 0) = w3 at P1 P2 G3 P3 H3 ⊢
  refine qx_aload_n (pc := 27) X 0 dX2_init_27 rfl rfl ?_
  refine qx_aload_n (pc := 28) X 2 dX2_init_28 rfl rfl ?_
  refine cx_putr (pc := 29) X hin qx_fRX2_27 ((H3.1 9 0).mpr (Or.inl hm)) (H3.2.1 9 0 hm) dX2_init_29 ?_
  have G4 := wR_G (w := w3) (f := 9) (i := 0) (j := 1) (a := w.2.1 3 0)
  have P4 : PT (wR w3 9 0 1 (w.2.1 3 0)) 9 0 1 3 0 := by
    have h := wR_P (w := w3) (f := 9) (i := 0) (j := 1) (g := 3) (k := 0) ((H3.1 9 0).mpr (Or.inl hm)) ((H3.1 3 0).mpr (Or.inl m3))
    rw [H3.2.1 3 0 m3] at h
    exact h
  have H4 : Gw (fun f' i' _ => f' = 9 ∧ i' = 0) (N9 0) w (wR w3 9 0 1 (w.2.1 3 0)) := H3.trans G4 (fun f' i' j h _ => h.elim id (fun q => ⟨q.1, q.2.1⟩)) (fun f' i' => by simp)
  have P1 := P1.mono G4 (fun h => absurd h.2.2 (by decide))
  have P2 := P2.mono G4 (fun h => absurd h.2.2 (by decide))
  have P3 := P3.mono G4 (fun h => absurd h.2.2 (by decide))
  generalize wR w3 9 0 1 (w.2.1 3 0) = w4 at P1 P2 P3 G4 P4 H4 ⊢
  refine qx_aload_n (pc := 32) X 0 dX2_init_32 rfl rfl ?_
  refine qx_aload_n (pc := 33) X 3 dX2_init_33 rfl rfl ?_
  refine cx_putr (pc := 34) X hin qx_fRX2_31 ((H4.1 9 0).mpr (Or.inl hm)) (H4.2.1 9 0 hm) dX2_init_34 ?_
  have G5 := wR_G (w := w4) (f := 9) (i := 0) (j := 2) (a := w.2.1 7 0)
  have P5 : PT (wR w4 9 0 2 (w.2.1 7 0)) 9 0 2 7 0 := by
    have h := wR_P (w := w4) (f := 9) (i := 0) (j := 2) (g := 7) (k := 0) ((H4.1 9 0).mpr (Or.inl hm)) ((H4.1 7 0).mpr (Or.inl m7))
    rw [H4.2.1 7 0 m7] at h
    exact h
  have H5 : Gw (fun f' i' _ => f' = 9 ∧ i' = 0) (N9 0) w (wR w4 9 0 2 (w.2.1 7 0)) := H4.trans G5 (fun f' i' j h _ => h.elim id (fun q => ⟨q.1, q.2.1⟩)) (fun f' i' => by simp)
  have P1 := P1.mono G5 (fun h => absurd h.2.2 (by decide))
  have P2 := P2.mono G5 (fun h => absurd h.2.2 (by decide))
  have P3 := P3.mono G5 (fun h => absurd h.2.2 (by decide))
  have P4 := P4.mono G5 (fun h => absurd h.2.2 (by decide))
  generalize wR w4 9 0 2 (w.2.1 7 0) = w5 at P1 P2 P3 P4 G5 P5 H5 ⊢
  refine qx_iconst (v := 0) (pc := 37) X dX2_init_37 (by decide) ?_
  refine qx_istore (lv' := [(4, .int 0), (0, .ref (w.2.1 9 0)), (1, .ref (w.2.1 1 0)), (2, .ref (w.2.1 3 0)), (3, .ref (w.2.1 7 0))]) (pc := 38) X dX2_init_38 (by decide) rfl ?_
  refine qx_lsub [1, 0] rfl ?_
  exact L 8 0 w5 (by omega) H5 (S9_0 P3 P4 P5 P1 P2)
