/-! ContractFrames -/
theorem dvX4 : ∀ j, j < 2 → defaultValue (tyX4 j) = qx_dv [some 2, none] j := fun j hj => by
  rcases (show j = 0 ∨ j = 1 by omega) with rfl | rfl <;> rfl
theorem dvX8 : ∀ j, j < 5 → defaultValue (tyX8 j) = qx_dv [some 4, some 5, some 6, none, none] j := fun j hj => by
  rcases (show j = 0 ∨ j = 1 ∨ j = 2 ∨ j = 3 ∨ j = 4 by omega) with rfl | rfl | rfl | rfl | rfl <;> rfl
theorem dvX5 : ∀ j, j < 10 → defaultValue (tyX5 j) = qx_dv [some 8, none, none, none, none, none, none, none, none, none] j := fun j hj => by
  rcases (show j = 0 ∨ j = 1 ∨ j = 2 ∨ j = 3 ∨ j = 4 ∨ j = 5 ∨ j = 6 ∨ j = 7 ∨ j = 8 ∨ j = 9 by omega) with rfl | rfl | rfl | rfl | rfl | rfl | rfl | rfl | rfl | rfl <;> rfl
theorem dvX2 : ∀ j, j < 5 → defaultValue (tyX2 j) = qx_dv [some 1, some 3, some 7, some 10, some 11] j := fun j hj => by
  rcases (show j = 0 ∨ j = 1 ∨ j = 2 ∨ j = 3 ∨ j = 4 by omega) with rfl | rfl | rfl | rfl | rfl <;> rfl
def N0 (f i : Nat) : Prop := (1 ≤ f ∧ f ≤ 11 ∧ i = 0) ∨ (12 ≤ f ∧ f ≤ 16 ∧ i < 8) ∨ (17 ≤ f ∧ f ≤ 20 ∧ i < 32)
def M1 (f i : Nat) : Prop := (1 ≤ f ∧ f ≤ 2 ∧ i = 0) ∨ (17 ≤ f ∧ f ≤ 20 ∧ i < 32)
def M2 (f i : Nat) : Prop := (1 ≤ f ∧ f ≤ 6 ∧ i = 0) ∨ (17 ≤ f ∧ f ≤ 20 ∧ i < 32)
def M3 (f i : Nat) : Prop := (1 ≤ f ∧ f ≤ 8 ∧ i = 0) ∨ (17 ≤ f ∧ f ≤ 20 ∧ i < 32)
set_option maxHeartbeats 8000000 in
set_option maxRecDepth 100000 in
theorem nX9 (l : Launch) (G : qx_Gx) (t1 t2 : Nat) (w : qx_Wx) (σ : qx_St) (hm : (0, 0) ∈ w.1) (hn : ∀ f i, N0 f i → (f, i) ∉ w.1) (hz : ∀ f i j, σ f i j = 0) : qx_Mc l G t1 t2 w yX9_init cX9_init 1 { frames := 4, cells := 179, slots := 3571, locals := 90 } [.ref (w.2.1 0 0)] σ (fun w1 σ1 => σ1 = iF 5 0 10000 4 8 σ ∧ Gw (fun f' i' _ => f' = 0 ∧ i' = 0) N0 w w1 ∧ PS (S4 32) w1 ∧ PS (S9 8) w1 ∧ (PT w1 3 0 0 4 0 ∧ PT w1 3 0 1 5 0 ∧ PT w1 3 0 2 6 0 ∧ PT w1 7 0 0 8 0) ∧ PT w1 0 0 0 1 0 ∧ PT w1 0 0 1 3 0 ∧ PT w1 0 0 2 7 0 ∧ PT w1 0 0 3 9 0) 179 3571 := by
  refine cx_start qx_mcX9_init (Nat.le_of_ble_eq_true rfl) (fun K hKl hR X hr hlk hin hA => ?_)
  subst hKl
  refine (show qx_V K G 1 0 0 (MQ K.2.2.2.2.2.2.2.1 (qx_Qc G _) K.2.2.2.2.2.2.1 K.2.2.2.2.1 179 3571 G.2.2) w σ 0 [(0, .ref (w.2.1 0 0))] [] from ?_)
  refine qx_aload_n (pc := 0) X 0 dX9_init_0 rfl rfl ?_
  refine cx_oinit (pc := 1) X qx_lRX9_1 (by rw [hR]; decide) (by rw [hR]; decide) dX9_init_1 ?_
  have hz5 : ∀ f i j, f ≠ 5 → σ f i j = 0 := fun f i j _ => hz f i j
  refine qx_aload_n (pc := 4) X 0 dX9_init_4 rfl rfl ?_
  have no1 : ∀ f i, N0 f i → (f, i) ∉ w.1 := hn
  refine cx_newo (f := 1) (i := 0) (pc := 5) X hA rfl qx_cpX4 rfl dvX4 (no1 1 0 (by unfold N0; omega)) (fun j => hz 1 0 j) qx_kRX9_7 qx_inRX4 qx_iniRX4 (by rw [hR]; decide) (by rw [hR]; decide) dX9_init_5 (fun a1 => ?_)
  have A1 := wN_G (a := a1) (no1 1 0 (by unfold N0; omega))
  refine qx_dup (pc := 8) X dX9_init_8 rfl ?_
  have o1 : ∀ f i, N0 f i → ¬ (f = 1 ∧ i = 0) → (f, i) ∉ (wN w 1 0 a1).1 := fun f i h1 h3 h => by
    rcases (A1.1 f i).mp h with h | h
    · exact no1 f i h1 h
    · exact h3 h
  have C1 := nX4 K.2.1 G t1 t2 (wN w 1 0 a1) σ wN_m (fun f i h => o1 f i (by unfold N4 at h; unfold N0; rcases h with h | h <;> omega) (by unfold N4 at h; omega)) hz5
  rw [wN_a] at C1
  refine cx_callI (pc := 9) X hA [] [.ref a1, .ref (w.2.1 0 0)] C1 qx_mcX4_init qx_lRX9_9 qx_iX4_init rfl rfl ⟨rfl, rfl⟩ (by rw [hR]; decide) rfl (Nat.le_of_ble_eq_true rfl) dX9_init_9 (by rw [hR]; decide) (fun v1 s1 hp => ?_)
  obtain ⟨es1, B1, T4⟩ := hp
  have es1 := es1.symm
  subst es1
  have D1 := A1.trans B1 (T := fun f' i' _ => f' = 1 ∧ i' = 0) (N := M1) (fun _ _ _ h _ => h.elim False.elim id) (fun f' i' => by
    unfold N4 M1
    constructor
    · rintro (h | h | h) <;> omega
    · rintro (h | h) <;> omega)
  have m01 : (0, 0) ∈ v1.1 := (D1.1 0 0).mpr (Or.inl hm)
  have mg1 : (1, 0) ∈ v1.1 := (B1.1 1 0).mpr (Or.inl wN_m)
  have ag1 : v1.2.1 1 0 = a1 := (B1.2.1 1 0 wN_m).trans wN_a
  refine cx_putr (pc := 12) X hin qx_fRX9_10 m01 ((D1.2.1 0 0 hm).trans rfl) dX9_init_12 ?_
  have W1 := wR_G (w := v1) (f := 0) (i := 0) (j := 0) (a := a1)
  have F1 : PT (wR v1 0 0 0 a1) 0 0 0 1 0 := by
    have h := wR_P (w := v1) (f := 0) (i := 0) (j := 0) (g := 1) (k := 0) m01 mg1
    rw [ag1] at h
    exact h
  have U1 := D1.trans W1 (T := fun f' i' j' => (f' = 1 ∧ i' = 0) ∨ (f' = 0 ∧ i' = 0 ∧ j' = 0)) (N := M1) (fun _ _ _ h _ => h) (fun f' i' => by simp)
  have H1 : Gw (fun f' i' _ => f' = 0 ∧ i' = 0) M1 w (wR v1 0 0 0 a1) := ⟨U1.1, U1.2.1, fun f' i' h j q => U1.2.2 f' i' h j (fun z => z.elim (fun y => hn f' i' (by unfold N0; omega) h) (fun y => q ⟨y.1, y.2.1⟩))⟩
  have T4 := T4.mono W1 (fun f i j g q h => by unfold S4 at h; omega)
  generalize wR v1 0 0 0 a1 = w1 at W1 U1 H1 T4 F1 ⊢
  refine qx_aload_n (pc := 15) X 0 dX9_init_15 rfl rfl ?_
  have no2 : ∀ f i, N0 f i → ¬ M1 f i → (f, i) ∉ w1.1 := fun f i h1 h2 h => by
    rcases (H1.1 f i).mp h with h | h
    · exact hn f i h1 h
    · exact h2 h
  refine cx_newo (f := 3) (i := 0) (pc := 16) X hA rfl qx_cpX8 rfl dvX8 (no2 3 0 (by unfold N0; omega) (by unfold M1; omega)) (fun j => hz 3 0 j) qx_kRX9_16 qx_inRX8 qx_iniRX8 (by rw [hR]; decide) (by rw [hR]; decide) dX9_init_16 (fun a3 => ?_)
  have A3 := wN_G (a := a3) (no2 3 0 (by unfold N0; omega) (by unfold M1; omega))
  refine qx_dup (pc := 19) X dX9_init_19 rfl ?_
  have o3 : ∀ f i, N0 f i → ¬ M1 f i → ¬ (f = 3 ∧ i = 0) → (f, i) ∉ (wN w1 3 0 a3).1 := fun f i h1 h2 h3 h => by
    rcases (A3.1 f i).mp h with h | h
    · exact no2 f i h1 h2 h
    · exact h3 h
  have C3 := nX8 K.2.1 G t1 t2 (wN w1 3 0 a3) σ wN_m (o3 4 0 (by unfold N0; omega) (by unfold M1; omega) (by omega)) (o3 5 0 (by unfold N0; omega) (by unfold M1; omega) (by omega)) (o3 6 0 (by unfold N0; omega) (by unfold M1; omega) (by omega)) hz
  rw [wN_a] at C3
  refine cx_callI (pc := 20) X hA [] [.ref a3, .ref (w.2.1 0 0)] C3 qx_mcX8_init qx_lRX9_18 qx_iX8_init rfl rfl ⟨rfl, rfl⟩ (by rw [hR]; decide) rfl (Nat.le_of_ble_eq_true rfl) dX9_init_20 (by rw [hR]; decide) (fun v3 s3 hp => ?_)
  obtain ⟨e3, B3, E1, E2, E3⟩ := hp
  have hz1 : ∀ f i j, f ≠ 5 → s3 f i j = 0 := fun f i j h => by rw [e3, iF_f h]; exact hz f i j
  have D3 := A3.trans B3 (T := fun f' i' _ => f' = 3 ∧ i' = 0) (N := fun f' i' => 3 ≤ f' ∧ f' ≤ 6 ∧ i' = 0) (fun _ _ _ h _ => h.elim False.elim id) (fun f' i' => by omega)
  have m03 : (0, 0) ∈ v3.1 := (D3.1 0 0).mpr (Or.inl ((H1.1 0 0).mpr (Or.inl hm)))
  have mg3 : (3, 0) ∈ v3.1 := (B3.1 3 0).mpr (Or.inl wN_m)
  have ag3 : v3.2.1 3 0 = a3 := (B3.2.1 3 0 wN_m).trans wN_a
  refine cx_putr (pc := 23) X hin qx_fRX9_19 m03 ((D3.2.1 0 0 ((H1.1 0 0).mpr (Or.inl hm))).trans (H1.2.1 0 0 hm)) dX9_init_23 ?_
  have W3 := wR_G (w := v3) (f := 0) (i := 0) (j := 1) (a := a3)
  have F3 : PT (wR v3 0 0 1 a3) 0 0 1 3 0 := by
    have h := wR_P (w := v3) (f := 0) (i := 0) (j := 1) (g := 3) (k := 0) m03 mg3
    rw [ag3] at h
    exact h
  have U3 := D3.trans W3 (T := fun f' i' j' => (f' = 3 ∧ i' = 0) ∨ (f' = 0 ∧ i' = 0 ∧ j' = 1)) (N := fun f' i' => 3 ≤ f' ∧ f' ≤ 6 ∧ i' = 0) (fun _ _ _ h _ => h) (fun f' i' => by simp)
  have H2 : Gw (fun f' i' _ => f' = 0 ∧ i' = 0) M2 w (wR v3 0 0 1 a3) := H1.trans U3 (fun f' i' j h hw => by
    rcases h with h | h | h
    · exact h
    · exact absurd hw (hn f' i' (by unfold N0; omega))
    · exact ⟨h.1, h.2.1⟩) (fun f' i' => by
    unfold M1 M2
    constructor
    · rintro ((h | h) | h) <;> omega
    · rintro (h | h) <;> omega)
  have T4 := T4.mono U3 (fun f i j g q h => by unfold S4 at h; omega)
  have F1 := F1.mono U3 (by omega)
  have E1 := E1.mono W3 (by omega)
  have E2 := E2.mono W3 (by omega)
  have E3 := E3.mono W3 (by omega)
  generalize wR v3 0 0 1 a3 = w2 at W3 U3 H2 T4 F1 E1 E2 E3 F3 ⊢
  refine qx_aload_n (pc := 26) X 0 dX9_init_26 rfl rfl ?_
  have no3 : ∀ f i, N0 f i → ¬ M2 f i → (f, i) ∉ w2.1 := fun f i h1 h2 h => by
    rcases (H2.1 f i).mp h with h | h
    · exact hn f i h1 h
    · exact h2 h
  refine cx_newo (f := 7) (i := 0) (pc := 27) X hA rfl qx_cpX5 rfl dvX5 (no3 7 0 (by unfold N0; omega) (by unfold M2; omega)) (fun j => hz1 7 0 j (by decide)) qx_kRX9_23 qx_inRX5 qx_iniRX5 (by rw [hR]; decide) (by rw [hR]; decide) dX9_init_27 (fun a7 => ?_)
  have A7 := wN_G (a := a7) (no3 7 0 (by unfold N0; omega) (by unfold M2; omega))
  refine qx_dup (pc := 30) X dX9_init_30 rfl ?_
  have o7 : ∀ f i, N0 f i → ¬ M2 f i → ¬ (f = 7 ∧ i = 0) → (f, i) ∉ (wN w2 7 0 a7).1 := fun f i h1 h2 h3 h => by
    rcases (A7.1 f i).mp h with h | h
    · exact no3 f i h1 h2 h
    · exact h3 h
  have C7 := nX5 K.2.1 G t1 t2 (wN w2 7 0 a7) s3 wN_m (o7 8 0 (by unfold N0; omega) (by unfold M2; omega) (by omega)) hz1
  rw [wN_a] at C7
  refine cx_callIN (pc := 31) X hA [] [.ref a7, .ref (w.2.1 0 0)] C7 qx_mcX5_init X.2.2.2.2.2.2.1.2.1 qx_iX5_init rfl rfl ⟨rfl, rfl⟩ (by rw [hR]; decide) rfl (Nat.le_of_ble_eq_true rfl) dX9_init_31 (by rw [hR]; decide) (fun v7 s7 hp => ?_)
  obtain ⟨es1, B7, E4⟩ := hp
  have es1 := es1.symm
  subst es1
  have D7 := A7.trans B7 (T := fun f' i' _ => f' = 7 ∧ i' = 0) (N := fun f' i' => 7 ≤ f' ∧ f' ≤ 8 ∧ i' = 0) (fun _ _ _ h _ => h.elim False.elim id) (fun f' i' => by omega)
  have m07 : (0, 0) ∈ v7.1 := (D7.1 0 0).mpr (Or.inl ((H2.1 0 0).mpr (Or.inl hm)))
  have mg7 : (7, 0) ∈ v7.1 := (B7.1 7 0).mpr (Or.inl wN_m)
  have ag7 : v7.2.1 7 0 = a7 := (B7.2.1 7 0 wN_m).trans wN_a
  refine cx_putr (pc := 34) X hin qx_fRX9_26 m07 ((D7.2.1 0 0 ((H2.1 0 0).mpr (Or.inl hm))).trans (H2.2.1 0 0 hm)) dX9_init_34 ?_
  have W7 := wR_G (w := v7) (f := 0) (i := 0) (j := 2) (a := a7)
  have F7 : PT (wR v7 0 0 2 a7) 0 0 2 7 0 := by
    have h := wR_P (w := v7) (f := 0) (i := 0) (j := 2) (g := 7) (k := 0) m07 mg7
    rw [ag7] at h
    exact h
  have U7 := D7.trans W7 (T := fun f' i' j' => (f' = 7 ∧ i' = 0) ∨ (f' = 0 ∧ i' = 0 ∧ j' = 2)) (N := fun f' i' => 7 ≤ f' ∧ f' ≤ 8 ∧ i' = 0) (fun _ _ _ h _ => h) (fun f' i' => by simp)
  have H3 : Gw (fun f' i' _ => f' = 0 ∧ i' = 0) M3 w (wR v7 0 0 2 a7) := H2.trans U7 (fun f' i' j h hw => by
    rcases h with h | h | h
    · exact h
    · exact absurd hw (hn f' i' (by unfold N0; omega))
    · exact ⟨h.1, h.2.1⟩) (fun f' i' => by
    unfold M2 M3
    constructor
    · rintro ((h | h) | h) <;> omega
    · rintro (h | h) <;> omega)
  have T4 := T4.mono U7 (fun f i j g q h => by unfold S4 at h; omega)
  have F1 := F1.mono U7 (by omega)
  have E1 := E1.mono U7 (by omega)
  have E2 := E2.mono U7 (by omega)
  have E3 := E3.mono U7 (by omega)
  have F3 := F3.mono U7 (by omega)
  have E4 := E4.mono W7 (by omega)
  generalize wR v7 0 0 2 a7 = w3 at W7 U7 H3 T4 F1 E1 E2 E3 F3 E4 F7 ⊢
  refine qx_aload_n (pc := 37) X 0 dX9_init_37 rfl rfl ?_
  have no4 : ∀ f i, N0 f i → ¬ M3 f i → (f, i) ∉ w3.1 := fun f i h1 h2 h => by
    rcases (H3.1 f i).mp h with h | h
    · exact hn f i h1 h
    · exact h2 h
  refine cx_newo (f := 9) (i := 0) (pc := 38) X hA rfl qx_cpX2 rfl dvX2 (no4 9 0 (by unfold N0; omega) (by unfold M3; omega)) (fun j => hz1 9 0 j (by decide)) qx_kRX9_30 qx_inRX2 qx_iniRX2 (by rw [hR]; decide) (by rw [hR]; decide) dX9_init_38 (fun a9 => ?_)
  have A9 := wN_G (a := a9) (no4 9 0 (by unfold N0; omega) (by unfold M3; omega))
  refine qx_dup (pc := 41) X dX9_init_41 rfl ?_
  have o9 : ∀ f i, N0 f i → ¬ M3 f i → ¬ (f = 9 ∧ i = 0) → (f, i) ∉ (wN w3 9 0 a9).1 := fun f i h1 h2 h3 h => by
    rcases (A9.1 f i).mp h with h | h
    · exact no4 f i h1 h2 h
    · exact h3 h
  have C9 := nX2 K.2.1 G t1 t2 (wN w3 9 0 a9) s3 wN_m ((A9.1 1 0).mpr (Or.inl ((H3.1 1 0).mpr (Or.inr (by unfold M3; omega))))) ((A9.1 3 0).mpr (Or.inl ((H3.1 3 0).mpr (Or.inr (by unfold M3; omega))))) ((A9.1 7 0).mpr (Or.inl ((H3.1 7 0).mpr (Or.inr (by unfold M3; omega))))) (fun f i h => o9 f i (by unfold N9 at h; unfold N0; rcases h with h | h | h <;> omega) (by unfold N9 at h; unfold M3; rcases h with h | h | h <;> omega) (by unfold N9 at h; omega)) hz1
  rw [wN_a] at C9
  refine qx_aload_n (pc := 42) X 0 dX9_init_42 rfl rfl ?_
  refine cx_getr (pc := 43) X qx_gRX9_10 (F1.mono A9 (fun h => h)) ((A9.2.1 0 0 ((H3.1 0 0).mpr (Or.inl hm))).trans (H3.2.1 0 0 hm)) dX9_init_43 ?_
  refine qx_aload_n (pc := 46) X 0 dX9_init_46 rfl rfl ?_
  refine cx_getr (pc := 47) X qx_gRX9_19 (F3.mono A9 (fun h => h)) ((A9.2.1 0 0 ((H3.1 0 0).mpr (Or.inl hm))).trans (H3.2.1 0 0 hm)) dX9_init_47 ?_
  refine qx_aload_n (pc := 50) X 0 dX9_init_50 rfl rfl ?_
  refine cx_getr (pc := 51) X qx_gRX9_26 (F7.mono A9 (fun h => h)) ((A9.2.1 0 0 ((H3.1 0 0).mpr (Or.inl hm))).trans (H3.2.1 0 0 hm)) dX9_init_51 ?_
  refine cx_callI (pc := 54) X hA [.ref ((wN w3 9 0 a9).2.1 1 0), .ref ((wN w3 9 0 a9).2.1 3 0), .ref ((wN w3 9 0 a9).2.1 7 0)] [.ref a9, .ref (w.2.1 0 0)] C9 qx_mcX2_init qx_lRX9_32 qx_iX2_init rfl rfl ⟨rfl, rfl⟩ (by rw [hR]; decide) rfl (Nat.le_of_ble_eq_true rfl) dX9_init_54 (by rw [hR]; decide) (fun v9 s9 hp => ?_)
  obtain ⟨es1, B9, T9⟩ := hp
  have es1 := es1.symm
  subst es1
  have D9 := A9.trans B9 (T := fun f' i' _ => f' = 9 ∧ i' = 0) (N := fun f' i' => (f' = 9 ∧ i' = 0) ∨ N9 8 f' i') (fun _ _ _ h _ => h.elim False.elim id) (fun f' i' => by exact Iff.rfl)
  have m09 : (0, 0) ∈ v9.1 := (D9.1 0 0).mpr (Or.inl ((H3.1 0 0).mpr (Or.inl hm)))
  have mg9 : (9, 0) ∈ v9.1 := (B9.1 9 0).mpr (Or.inl wN_m)
  have ag9 : v9.2.1 9 0 = a9 := (B9.2.1 9 0 wN_m).trans wN_a
  refine cx_putr (pc := 57) X hin qx_fRX9_35 m09 ((D9.2.1 0 0 ((H3.1 0 0).mpr (Or.inl hm))).trans (H3.2.1 0 0 hm)) dX9_init_57 ?_
  have W9 := wR_G (w := v9) (f := 0) (i := 0) (j := 3) (a := a9)
  have F9 : PT (wR v9 0 0 3 a9) 0 0 3 9 0 := by
    have h := wR_P (w := v9) (f := 0) (i := 0) (j := 3) (g := 9) (k := 0) m09 mg9
    rw [ag9] at h
    exact h
  have U9 := D9.trans W9 (T := fun f' i' j' => (f' = 9 ∧ i' = 0) ∨ (f' = 0 ∧ i' = 0 ∧ j' = 3)) (N := fun f' i' => (f' = 9 ∧ i' = 0) ∨ N9 8 f' i') (fun _ _ _ h _ => h) (fun f' i' => by simp)
  have H4 : Gw (fun f' i' _ => f' = 0 ∧ i' = 0) N0 w (wR v9 0 0 3 a9) := H3.trans U9 (fun f' i' j h hw => by
    rcases h with h | h | h
    · exact h
    · exact absurd hw (hn f' i' (by unfold N0; omega))
    · exact ⟨h.1, h.2.1⟩) (fun f' i' => by
    unfold M3 N9 N0
    constructor
    · rintro ((h | h) | h | h | h | h) <;> omega
    · rintro (h | h | h) <;> omega)
  have T4 := T4.mono U9 (fun f i j g q h => by unfold S4 at h; omega)
  have F1 := F1.mono U9 (by omega)
  have E1 := E1.mono U9 (by omega)
  have E2 := E2.mono U9 (by omega)
  have E3 := E3.mono U9 (by omega)
  have F3 := F3.mono U9 (by omega)
  have E4 := E4.mono U9 (by omega)
  have F7 := F7.mono U9 (by omega)
  have T9 := T9.mono W9 (fun f i j g q h => by unfold S9 at h; omega)
  generalize wR v9 0 0 3 a9 = w4 at W9 U9 H4 T4 F1 E1 E2 E3 F3 E4 F7 T9 F9 ⊢
  exact cx_vret (pc := 60) X hr hlk ⟨e3, H4, T4, T9, ⟨E1, E2, E3, E4⟩, F1, F3, F7, F9⟩ dX9_init_60
