/-! constructors with loops: Program, Machine -/
def PS (S : Nat → Nat → Nat → Nat → Nat → Prop) (w : qx_Wx) : Prop := ∀ f i j g k, S f i j g k → PT w f i j g k
theorem PS.mono {S : Nat → Nat → Nat → Nat → Nat → Prop} {T : Nat → Nat → Nat → Prop} {N : Nat → Nat → Prop} {w w' : qx_Wx} (h : PS S w) (hG : Gw T N w w') (hT : ∀ f i j g k, S f i j g k → ¬ T f i j) : PS S w' := fun f i j g k hs => (h f i j g k hs).mono hG (hT f i j g k hs)
theorem PS.or {S1 S2 S : Nat → Nat → Nat → Nat → Nat → Prop} {w : qx_Wx} (h1 : PS S1 w) (h2 : PS S2 w) (h : ∀ f i j g k, S f i j g k → S1 f i j g k ∨ S2 f i j g k) : PS S w := fun f i j g k hs => (h f i j g k hs).elim (h1 f i j g k) (h2 f i j g k)
theorem PT.ps {w : qx_Wx} {f i j g k : Nat} (h : PT w f i j g k) : PS (fun f' i' j' g' k' => f' = f ∧ i' = i ∧ j' = j ∧ g' = g ∧ k' = k) w := fun f' i' j' g' k' hs => by
  obtain ⟨rfl, rfl, rfl, rfl, rfl⟩ := hs
  exact h
section QXB
variable {K : qx_Cx} {G : qx_Gx} {t1 t2 nL cells slots : Nat} {Q : State → Prop} {w : qx_Wx} {σ : qx_St} {pc : Nat} {lv : List (Nat × Value)} {st : List Value} {cc : ByteArray} {own : String}
theorem cx_getr (X : qx_Ok K G t1 t2 cc own nL) {idx f i j g k tg a0 : Nat} (hF : qx_FG own idx f j (some tg)) (hP : PT w f i j g k) (ha : w.2.1 f i = a0) (hdg : decode cc pc = .ok (.getfield idx, 3)) (kk : qx_V K G nL cells slots Q w σ (pc + 3) lv (.ref (w.2.1 g k) :: st)) : qx_V K G nL cells slots Q w σ pc lv (.ref a0 :: st) := by
  subst ha
  exact qx_getr X hF hP.1 hP.2.2 hdg kk
end QXB
/-- what Program has made once k members are -/
def S4 (n : Nat) (f i j g k : Nat) : Prop := (f = 1 ∧ i = 0 ∧ j = 0 ∧ g = 2 ∧ k = 0) ∨ (f = 2 ∧ i = 0 ∧ j < n ∧ g = 17 ∧ k = j) ∨ (f = 17 ∧ i < n ∧ j < 3 ∧ g = 18 + j ∧ k = i)
def N4 (n : Nat) (f i : Nat) : Prop := (f = 2 ∧ i = 0) ∨ (17 ≤ f ∧ f ≤ 20 ∧ i < n)
theorem S4_step {n : Nat} {w : qx_Wx} (S : PS (S4 n) w) (PN : PT w 2 0 n 17 n) (Q1 : PT w 17 n 0 18 n) (Q2 : PT w 17 n 1 19 n) (Q3 : PT w 17 n 2 20 n) : PS (S4 (n + 1)) w := by
  intro f i j g k h
  rcases h with ⟨rfl, rfl, rfl, rfl, rfl⟩ | ⟨rfl, rfl, hj, rfl, rfl⟩ | ⟨rfl, hi, hj, rfl, rfl⟩
  · exact S _ _ _ _ _ (Or.inl ⟨rfl, rfl, rfl, rfl, rfl⟩)
  · rcases Nat.lt_or_ge k n with h | h
    · exact S _ _ _ _ _ (Or.inr (Or.inl ⟨rfl, rfl, h, rfl, rfl⟩))
    · obtain rfl : k = n := by omega
      exact PN
  · rcases Nat.lt_or_ge k n with h | h
    · exact S _ _ _ _ _ (Or.inr (Or.inr ⟨rfl, h, hj, rfl, rfl⟩))
    · obtain rfl : k = n := by omega
      rcases (show j = 0 ∨ j = 1 ∨ j = 2 by omega) with rfl | rfl | rfl
      · exact Q1
      · exact Q2
      · exact Q3
theorem S4_0 {w : qx_Wx} (P : PT w 1 0 0 2 0) : PS (S4 0) w := by
  intro f i j g k h
  rcases h with ⟨rfl, rfl, rfl, rfl, rfl⟩ | ⟨rfl, rfl, hj, rfl, rfl⟩ | ⟨rfl, hi, hj, rfl, rfl⟩
  · exact P
  · omega
  · omega
theorem dvX3 : ∀ j, j < 5 → defaultValue (tyX3 j) = qx_dv [some 18, some 19, some 20, none, none] j := fun j hj => by
  rcases (show j = 0 ∨ j = 1 ∨ j = 2 ∨ j = 3 ∨ j = 4 by omega) with rfl | rfl | rfl | rfl | rfl <;> rfl
set_option maxRecDepth 100000 in
theorem nX4 (l : Launch) (G : qx_Gx) (t1 t2 : Nat) (w : qx_Wx) (σ : qx_St) (hm : (1, 0) ∈ w.1) (hn : ∀ f i, N4 32 f i → (f, i) ∉ w.1) (hz : ∀ f i j, f ≠ 5 → σ f i j = 0) : qx_Mc l G t1 t2 w yX4_init cX4_init 2 { frames := 2, cells := 129, slots := 2112, locals := 40 } [.ref (w.2.1 1 0)] σ (fun w1 σ1 => σ1 = σ ∧ Gw (fun f' i' _ => f' = 1 ∧ i' = 0) (N4 32) w w1 ∧ PS (S4 32) w1) 129 2112 := by
  refine cx_start qx_mcX4_init (Nat.le_of_ble_eq_true rfl) (fun K hKl hR X hr hlk hin hA => ?_)
  subst hKl
  have L : ∀ (r k : Nat) (wk : qx_Wx), k + r = 32 → Gw (fun f' i' _ => f' = 1 ∧ i' = 0) (N4 k) w wk → PS (S4 k) wk → qx_V K G 2 (1 + 4 * k) (32 + 65 * k) (MQ K.2.2.2.2.2.2.2.1 (qx_Qc G (fun w1 σ1 => σ1 = σ ∧ Gw (fun f' i' _ => f' = 1 ∧ i' = 0) (N4 32) w w1 ∧ PS (S4 32) w1)) K.2.2.2.2.2.2.1 K.2.2.2.2.1 129 2112 G.2.2) wk σ 15 [(0, .ref (w.2.1 1 0)), (1, .int (nI k))] [] := by
    intro r
    induction r with
    | zero =>
      intro k wk hk H S
      obtain rfl : k = 32 := by omega
      have P0 : PT wk 1 0 0 2 0 := S 1 0 0 2 0 (Or.inl ⟨rfl, rfl, rfl, rfl, rfl⟩)
      refine qx_iload_n (pc := 15) X 1 dX4_init_15 rfl rfl ?_
      refine qx_aload_n (pc := 16) X 0 dX4_init_16 rfl rfl ?_
      refine cx_getr (pc := 17) X qx_gRX4_11 P0 (H.2.1 1 0 hm) dX4_init_17 ?_
      refine qx_alenq (f := 2) (i := 0) (v := 32) (pc := 20) X rfl rfl P0.2.1 rfl dX4_init_20 ?_
      refine qx_icmp_ge (tgt := 43) (pc := 21) X dX4_init_21 (by decide) (fun c => ?_) (fun c => absurd (nI_le (a := 32) (b := 32) (Nat.le_refl _) (by omega)) c)
      exact cx_vret (pc := 43) X hr hlk ⟨rfl, H, S⟩ dX4_init_43
    | succ r ih =>
      intro k wk hk H S
      have P0 : PT wk 1 0 0 2 0 := S 1 0 0 2 0 (Or.inl ⟨rfl, rfl, rfl, rfl, rfl⟩)
      refine qx_iload_n (pc := 15) X 1 dX4_init_15 rfl rfl ?_
      refine qx_aload_n (pc := 16) X 0 dX4_init_16 rfl rfl ?_
      refine cx_getr (pc := 17) X qx_gRX4_11 P0 (H.2.1 1 0 hm) dX4_init_17 ?_
      refine qx_alenq (f := 2) (i := 0) (v := 32) (pc := 20) X rfl rfl P0.2.1 rfl dX4_init_20 ?_
      refine qx_icmp_ge (tgt := 43) (pc := 21) X dX4_init_21 (by decide) (fun c => absurd c (nI_ge (a := k) (b := 32) (by omega) (by omega))) (fun c => ?_)
      refine qx_aload_n (pc := 24) X 0 dX4_init_24 rfl rfl ?_
      refine cx_getr (pc := 25) X qx_gRX4_11 P0 (H.2.1 1 0 hm) dX4_init_25 ?_
      refine qx_iload_n (pc := 28) X 1 dX4_init_28 rfl rfl ?_
      have hno : ∀ f, 17 ≤ f → f ≤ 20 → (f, k) ∉ wk.1 := fun f h1 h2 h => by
        rcases (H.1 f k).mp h with h | h
        · exact hn f k (Or.inr ⟨h1, h2, by omega⟩) h
        · unfold N4 at h; omega
      refine cx_newo (f := 17) (i := k) (pc := 29) X hA rfl qx_cpX3 rfl dvX3 (hno 17 (by omega) (by omega)) (fun j => hz 17 k j (by decide)) qx_kRX4_9 qx_inRX3 qx_iniRX3 (by rw [hR]; show 1 + 4 * k + 1 ≤ 129; omega) (by rw [hR]; show 32 + 65 * k + 5 ≤ 2112; omega) dX4_init_29 (fun a => ?_)
      have GA := wN_G (a := a) (hno 17 (by omega) (by omega))
      have hno2 : ∀ f, 18 ≤ f → f ≤ 20 → (f, k) ∉ (wN wk 17 k a).1 := fun f h1 h2 h => by
        rcases (GA.1 f k).mp h with h | h
        · exact hno f (by omega) (by omega) h
        · omega
      refine qx_dup (pc := 32) X dX4_init_32 rfl ?_
      have C := nX3 K.2.1 G t1 t2 (wN wk 17 k a) σ k wN_m (hno2 18 (by omega) (by omega)) (hno2 19 (by omega) (by omega)) (hno2 20 (by omega) (by omega)) hz
      rw [wN_a] at C
      refine cx_callIN (pc := 33) X hA [] [.ref a, .int (nI k), .ref (wk.2.1 2 0)] C qx_mcX3_init X.2.2.2.2.2.2.1.1 qx_iX3_init rfl rfl ⟨rfl, rfl⟩ (by rw [hR]; decide) rfl (Nat.le_of_ble_eq_true rfl) dX4_init_33 (by rw [hR]; show 1 + 4 * k + 1 + 3 ≤ 129 ∧ 32 + 65 * k + 5 + 60 ≤ 2112; omega) (fun w1 σ1 hp => ?_)
      obtain ⟨rfl, GB, Q1, Q2, Q3⟩ := hp
      have D := GA.trans GB (T := fun f' i' _ => f' = 17 ∧ i' = k) (N := fun f' i' => (17 ≤ f' ∧ f' ≤ 20) ∧ i' = k) (fun _ _ _ h _ => h.elim False.elim id) (fun f' i' => by omega)
      have m2 := (D.1 2 0).mpr (Or.inl P0.2.1)
      have m17 := (D.1 17 k).mpr (Or.inr (by omega))
      have a17 : w1.2.1 17 k = a := (GB.2.1 17 k wN_m).trans wN_a
      refine cx_astr (f := 2) (i := 0) (g := 17) (k := k) (pc := 36) X rfl rfl m2 (D.2.1 2 0 P0.2.1) rfl rfl m17 a17 (vp_in_nI (by omega) (by omega)) dX4_init_36 ?_
      rw [nI_clamp (by omega)]
      have GC := wR_G (w := w1) (f := 2) (i := 0) (j := k) (a := a)
      have E := D.trans GC (T := fun f' i' j' => (f' = 17 ∧ i' = k) ∨ (f' = 2 ∧ i' = 0 ∧ j' = k)) (N := fun f' i' => (17 ≤ f' ∧ f' ≤ 20) ∧ i' = k) (fun _ _ _ h _ => h) (fun f' i' => by simp)
      have PN : PT (wR w1 2 0 k a) 2 0 k 17 k := by
        have h := wR_P (w := w1) (f := 2) (i := 0) (j := k) (g := 17) (k := k) m2 m17
        rw [a17] at h
        exact h
      have Q1 := Q1.mono GC (by omega)
      have Q2 := Q2.mono GC (by omega)
      have Q3 := Q3.mono GC (by omega)
      have S' := S.mono E (fun f i j g q h => by unfold S4 at h; omega)
      have F := H.trans E (T := fun f' i' _ => f' = 1 ∧ i' = 0) (N := N4 (k + 1)) (fun f' i' j h hw => by
        rcases h with h | h | h
        · exact h
        · exact absurd hw (hn f' i' (by unfold N4; omega))
        · exact absurd hw (hn f' i' (by unfold N4; omega))) (fun f' i' => by unfold N4; omega)
      have SS := S4_step S' PN Q1 Q2 Q3
      refine qx_iinc (v := nI (k + 1)) (lv' := [(1, .int (nI (k + 1))), (0, .ref (w.2.1 1 0))]) (pc := 37) X 1 dX4_init_37 rfl (nI_1 k) (by decide) rfl ?_
      refine qx_goto (tgt := 15) (pc := 40) X dX4_init_40 (by decide) ?_
      refine qx_lsub [1, 0] rfl ?_
      refine cx_widen (c' := 1 + 4 * (k + 1)) (s' := 32 + 65 * (k + 1)) (by omega) (by omega) ?_
      exact ih (k + 1) _ (by omega) F SS
  refine (show qx_V K G 2 0 0 (MQ K.2.2.2.2.2.2.2.1 (qx_Qc G _) K.2.2.2.2.2.2.1 K.2.2.2.2.1 129 2112 G.2.2) w σ 0 [(0, .ref (w.2.1 1 0))] [] from ?_)
  refine qx_aload_n (pc := 0) X 0 dX4_init_0 rfl rfl ?_
  refine cx_oinit (pc := 1) X qx_lRX4_3 (by rw [hR]; decide) (by rw [hR]; decide) dX4_init_1 ?_
  refine qx_aload_n (pc := 4) X 0 dX4_init_4 rfl rfl ?_
  refine qx_bipush (v := 32) (pc := 5) X dX4_init_5 (by decide) ?_
  refine cx_mkq (pc := 7) X hA hin qx_fRX4_11 rfl rfl hm rfl (hn 2 0 (Or.inl ⟨rfl, rfl⟩)) qx_kRX4_9 X.2.2.2.2.2.2.2.2.1 (by decide) (by decide) (by decide) (by rw [hR]; decide) (by rw [hR]; decide) dX4_init_7 dX4_init_10 (fun w1 G1 P1 => ?_)
  refine qx_iconst (v := 0) (pc := 13) X dX4_init_13 (by decide) ?_
  refine qx_istore_n (lv' := [(1, .int 0), (0, .ref (w.2.1 1 0))]) (pc := 14) X dX4_init_14 rfl (by decide) rfl ?_
  refine qx_lsub [1, 0] rfl ?_
  exact L 32 0 w1 (by omega) ⟨fun f' i' => (G1.1 f' i').trans (or_congr_right (by unfold N4; omega)), G1.2.1, fun f' i' h j q => G1.2.2 f' i' h j (fun z => q ⟨z.1, z.2.1⟩)⟩ (S4_0 P1)
