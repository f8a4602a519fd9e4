/-! the calls that change the contracts, and clear -/
theorem rV.cg {n ev : Nat} {x y x' y' : qx_St} (h : rV n ev x y) (h3 : x' 3 = x 3) (h4 : x' 4 = x 4) (h5 : x' 5 = x 5) (h6 : x' 6 = x 6) (g3 : y' 30 0 3 = y 30 0 3) (g30 : y' 30 0 30 = y 30 0 30) (g31 : y' 31 = y 31) (g32 : y' 32 = y 32) (g33 : y' 33 = y 33) (g56 : y' 56 = y 56) (g57 : y' 57 = y 57) (g58 : y' 58 = y 58) (g59 : y' 59 = y 59) : rV n ev x' y' := by
  unfold rV at h ⊢
  rw [h3, h4, h5, h6, g3, g30, g31, g32, g33, g56, g57, g58, g59]
  exact h
theorem rQ.cg {e : Nat} {x y x' y' : qx_St} (h : rQ e x y) (h7 : x' 7 = x 7) (h8 : x' 8 = x 8) (g30 : ∀ j, j = 36 ∨ j = 37 ∨ j = 10 ∨ j = 11 ∨ j = 44 ∨ j = 45 ∨ j = 46 ∨ j = 47 → y' 30 0 j = y 30 0 j) (g60 : y' 60 = y 60) (g61 : y' 61 = y 61) (g62 : y' 62 = y 62) (g63 : y' 63 = y 63) (g64 : y' 64 = y 64) (g65 : y' 65 = y 65) : rQ e x' y' := by
  unfold rQ rO rRow at h ⊢
  rw [h7, h8, g30 36 (by omega), g30 37 (by omega), g30 10 (by omega), g30 11 (by omega), g30 44 (by omega), g30 45 (by omega), g30 46 (by omega), g30 47 (by omega), g60, g61, g62, g63, g64, g65]
  exact h
theorem qp_st_r (σ : qx_St) (f i j i' j' : Nat) (v : Int32) : qx_st σ f i j v f i' j' = if i' = i ∧ j' = j then v else σ f i' j' := by
  by_cases h : i' = i
  · subst h
    by_cases h2 : j' = j
    · subst h2
      rw [qp_st_ff, if_pos ⟨rfl, rfl⟩]
    · rw [qp_st_j h2, if_neg (fun q => h2 q.2)]
  · rw [qp_st_i h, if_neg (fun q => h q.1)]
def iF (f i : Nat) (v : Int32) : Nat → Nat → qx_St → qx_St
  | 0, _, σ => σ
  | r + 1, q, σ => iF f i v r (q + 1) (qx_st σ f i q v)
theorem iF_f {f i f' : Nat} {v : Int32} (h : f' ≠ f) : ∀ (r q : Nat) (σ : qx_St), iF f i v r q σ f' = σ f'
  | 0, _, _ => rfl
  | r + 1, q, σ => (iF_f h r (q + 1) _).trans (qp_st_f h)
theorem iF_g {f i : Nat} {v : Int32} : ∀ (r q : Nat) (σ : qx_St) (j : Nat), iF f i v r q σ f i j = if q ≤ j ∧ j < q + r then v else σ f i j
  | 0, q, σ, j => by rw [if_neg (by omega)]; rfl
  | r + 1, q, σ, j => by
    refine (iF_g r (q + 1) _ j).trans ?_
    rw [qp_st_r]
    by_cases h1 : q + 1 ≤ j ∧ j < q + 1 + r
    · rw [if_pos h1, if_pos (by omega)]
    · rw [if_neg h1]
      by_cases h2 : j = q
      · rw [if_pos ⟨rfl, h2⟩, if_pos (by omega)]
      · rw [if_neg (fun h => h2 h.2), if_neg (by omega)]
def i2 : Nat → Nat → qx_St → qx_St
  | 0, _, σ => σ
  | r + 1, q, σ => i2 r (q + 1) (qx_st (qx_st σ 34 0 q 0) 35 0 q 0)
theorem i2_f {f' : Nat} (h : f' ≠ 34) (h2 : f' ≠ 35) : ∀ (r q : Nat) (σ : qx_St), i2 r q σ f' = σ f'
  | 0, _, _ => rfl
  | r + 1, q, σ => (i2_f h h2 r (q + 1) _).trans ((qp_st_f h2).trans (qp_st_f h))
theorem i2_g : ∀ (r q : Nat) (σ : qx_St) (j : Nat), i2 r q σ 34 0 j = (if q ≤ j ∧ j < q + r then 0 else σ 34 0 j) ∧ i2 r q σ 35 0 j = (if q ≤ j ∧ j < q + r then 0 else σ 35 0 j)
  | 0, q, σ, j => by rw [if_neg (by omega), if_neg (by omega)]; exact ⟨rfl, rfl⟩
  | r + 1, q, σ, j => by
    obtain ⟨a, b⟩ := i2_g r (q + 1) (qx_st (qx_st σ 34 0 q 0) 35 0 q 0) j
    have a' : i2 (r + 1) q σ 34 0 j = _ := a
    have b' : i2 (r + 1) q σ 35 0 j = _ := b
    rw [a', b', qp_st_f (f' := 34) (by decide), qp_st_r, qp_st_r, qp_st_f (f' := 35) (by decide)]
    by_cases h1 : q + 1 ≤ j ∧ j < q + 1 + r
    · rw [if_pos h1, if_pos (by omega), if_pos h1, if_pos (by omega)]; exact ⟨rfl, rfl⟩
    · rw [if_neg h1, if_neg h1]
      by_cases h2 : j = q
      · rw [if_pos ⟨rfl, h2⟩, if_pos (by omega), if_pos ⟨rfl, h2⟩, if_pos (by omega)]; exact ⟨rfl, rfl⟩
      · rw [if_neg (fun h => h2 h.2), if_neg (by omega), if_neg (fun h => h2 h.2), if_neg (by omega)]; exact ⟨rfl, rfl⟩
def i3 : Nat → Nat → qx_St → qx_St
  | 0, _, σ => σ
  | r + 1, q, σ => i3 r (q + 1) (qx_st (qx_st σ 17 q 3 0) 17 q 4 0)
theorem i3_f {f' : Nat} (h : f' ≠ 17) : ∀ (r q : Nat) (σ : qx_St), i3 r q σ f' = σ f'
  | 0, _, _ => rfl
  | r + 1, q, σ => (i3_f h r (q + 1) _).trans ((qp_st_f h).trans (qp_st_f h))
theorem i3_g : ∀ (r q : Nat) (σ : qx_St) (j : Nat), i3 r q σ 17 j 3 = (if q ≤ j ∧ j < q + r then 0 else σ 17 j 3) ∧ i3 r q σ 17 j 4 = (if q ≤ j ∧ j < q + r then 0 else σ 17 j 4)
  | 0, q, σ, j => by rw [if_neg (by omega), if_neg (by omega)]; exact ⟨rfl, rfl⟩
  | r + 1, q, σ, j => by
    obtain ⟨a, b⟩ := i3_g r (q + 1) (qx_st (qx_st σ 17 q 3 0) 17 q 4 0) j
    have a' : i3 (r + 1) q σ 17 j 3 = _ := a
    have b' : i3 (r + 1) q σ 17 j 4 = _ := b
    rw [a', b', qp_st_r, qp_st_r, qp_st_r, qp_st_r]
    by_cases h1 : q + 1 ≤ j ∧ j < q + 1 + r
    · rw [if_pos h1, if_pos (by omega), if_pos h1, if_pos (by omega)]; exact ⟨rfl, rfl⟩
    · rw [if_neg h1, if_neg h1]
      by_cases h2 : j = q
      · rw [if_neg (by omega), if_pos ⟨h2, rfl⟩, if_pos (by omega), if_pos ⟨h2, rfl⟩, if_pos (by omega)]; exact ⟨rfl, rfl⟩
      · rw [if_neg (fun h => h2 h.1), if_neg (fun h => h2 h.1), if_neg (by omega), if_neg (fun h => h2 h.1), if_neg (fun h => h2 h.1), if_neg (by omega)]; exact ⟨rfl, rfl⟩
/-! loops -/
theorem l_begin {post : qx_St → Prop} : ∀ (r k : Nat) (σ : qx_St), k + r = 4 → post (iF 31 0 10000 r k σ) → wX10_begin_l37 post (r + 1) (nI k) σ
  | 0, k, σ, h, hp => by
    obtain rfl : k = 4 := by omega
    exact ⟨fun _ => hp, fun h => absurd (nI_le (a := 4) (b := 4) (Nat.le_refl _) (by omega)) h⟩
  | r + 1, k, σ, h, hp => by
    refine ⟨fun h2 => absurd h2 (nI_ge (a := k) (b := 4) (by omega) (by omega)), fun _ => ⟨vp_in_nI (by omega) (by omega), ?_⟩⟩
    rw [nI_clamp (by omega), nI_1, qp_fe]
    exact l_begin r (k + 1) _ (by omega) hp
theorem l_c52 {n : Nat} {post : Int32 → qx_St → Prop} (n8 : n < 8) : ∀ (r k : Nat) (σ : qx_St), k + r = 4 → post (nI n) (qx_st (i2 r (4 * n + k) σ) 30 0 0 ((i2 r (4 * n + k) σ) 30 0 0 + 1)) → wX10_contract_l52 post (r + 1) (nI n) (nI k) σ
  | 0, k, σ, h, hp => by
    obtain rfl : k = 4 := by omega
    refine ⟨fun _ => ?_, fun h => absurd (nI_le (a := 4) (b := 4) (Nat.le_refl _) (by omega)) h⟩
    rw [qp_fe]
    exact hp
  | r + 1, k, σ, h, hp => by
    refine ⟨fun h2 => absurd h2 (nI_ge (a := k) (b := 4) (by omega) (by omega)), fun _ => ?_⟩
    rw [show (4 : Int32) * nI n + nI k = nI (4 * n + k) by rw [show (4 : Int32) = nI 4 from rfl, pk_mul, nI_add], nI_clamp (by omega), nI_1]
    refine ⟨vp_in_nI (by omega) (by omega), ?_⟩
    rw [qp_fe]
    refine ⟨vp_in_nI (by omega) (by omega), ?_⟩
    rw [qp_fe]
    exact l_c52 n8 r (k + 1) _ (by omega) hp
theorem l_c26 {n : Nat} {post : Int32 → qx_St → Prop} (n8 : n < 8) : ∀ (r k : Nat) (σ : qx_St), k + r = 8 → (∃ m, wX10_contract_l52 post m (nI n) (nI 0) (iF 33 0 0 r (8 * n + k) σ)) → wX10_contract_l26 post (r + 1) (nI n) (nI k) σ
  | 0, k, σ, h, hp => by
    obtain rfl : k = 8 := by omega
    exact ⟨fun _ => hp, fun h => absurd (nI_le (a := 8) (b := 8) (Nat.le_refl _) (by omega)) h⟩
  | r + 1, k, σ, h, hp => by
    refine ⟨fun h2 => absurd h2 (nI_ge (a := k) (b := 8) (by omega) (by omega)), fun _ => ?_⟩
    rw [show (8 : Int32) * nI n + nI k = nI (8 * n + k) by rw [show (8 : Int32) = nI 8 from rfl, pk_mul, nI_add], nI_clamp (by omega), nI_1]
    refine ⟨vp_in_nI (by omega) (by omega), ?_⟩
    rw [qp_fe]
    exact l_c26 n8 r (k + 1) _ (by omega) hp
theorem l_reset {post : qx_St → Prop} : ∀ (r k : Nat) (σ : qx_St), k + r = 32 → post (i3 r k σ) → wX4_reset_l7 post (r + 1) (nI k) σ
  | 0, k, σ, h, hp => by
    obtain rfl : k = 32 := by omega
    exact ⟨fun _ => hp, fun h => absurd (nI_le (a := 32) (b := 32) (Nat.le_refl _) (by omega)) h⟩
  | r + 1, k, σ, h, hp => by
    refine ⟨fun h2 => absurd h2 (nI_ge (a := k) (b := 32) (by omega) (by omega)), fun _ => ⟨vp_in_nI (by omega) (by omega), ?_⟩⟩
    rw [nI_clamp (by omega), nI_1, qp_fe]
    refine ⟨vp_in_nI (by omega) (by omega), ?_⟩
    rw [qp_fe]
    exact l_reset r (k + 1) _ (by omega) hp
theorem l_fill {f i N : Nat} {v p1 : Int32} {post : qx_St → Prop} (hN : N < 1000) : ∀ (r k : Nat) (σ : qx_St), k + r = N → post (iF f i v r k σ) → wJ7_fill_53178_l5 f i N p1 post (r + 1) v (nI k) (nI N) σ
  | 0, k, σ, h, hp => by
    obtain rfl : k = N := by omega
    exact ⟨fun _ => hp, fun h => absurd (nI_le (Nat.le_refl _) (by omega)) h⟩
  | r + 1, k, σ, h, hp => by
    refine ⟨fun h2 => absurd h2 (nI_ge (by omega) (by omega)), fun _ => ⟨vp_in_nI (by omega) (by omega), ?_⟩⟩
    rw [nI_clamp (by omega), nI_1, qp_fe]
    exact l_fill hN r (k + 1) _ (by omega) hp
theorem l_fillr {f i N hi : Nat} {v p1 p2 p3 a1 : Int32} {post : qx_St → Prop} (hN : N < 1000) (hh : hi ≤ N) : ∀ (r k : Nat) (σ : qx_St), k + r = hi → post (iF f i v r k σ) → wJ7_fill_fda19_l10 f i N p1 p2 p3 post (r + 1) a1 (nI hi) v (nI k) σ
  | 0, k, σ, h, hp => by
    obtain rfl : k = hi := by omega
    exact ⟨fun _ => hp, fun h => absurd (nI_le (Nat.le_refl _) (by omega)) h⟩
  | r + 1, k, σ, h, hp => by
    refine ⟨fun h2 => absurd h2 (nI_ge (by omega) (by omega)), fun _ => ⟨vp_in_nI (by omega) (by omega), ?_⟩⟩
    rw [nI_clamp (by omega), nI_1, qp_fe]
    exact l_fillr hN hh r (k + 1) _ (by omega) hp
section QBUILD
variable {s : qx_St}
theorem q_contract (hR : RX s) : QQ wX9_contract wX10_contract s := by
  obtain ⟨n, ev, e, hP, hV, hQ⟩ := hR
  have hR : RX s := ⟨n, ev, e, hP, hV, hQ⟩
  have hP' := hP
  obtain ⟨n8, p1, p2, p3, p4, p5⟩ := hP
  rcases Nat.lt_or_ge n 8 with h8 | h8
  · refine ⟨nI n, qx_st s 1 0 1 (nI (n + 1)), qx_st (i2 4 (4 * n + 0) (iF 33 0 0 8 (8 * n + 0) (qx_st (qx_st s 1 0 1 (nI (n + 1))) 32 0 n 0))) 30 0 0 (nI (n + 1)), fun post hp => ?_, fun post hp => ?_, ?_⟩
    · unfold wX9_contract
      rw [p1]
      refine ⟨fun _ => ?_, fun h => absurd (nI_lt h8 (by omega)) h⟩
      rw [qp_fe, qp_st_ff, nI_1, nI_pred]
      exact hp
    · have p2' : (qx_st s 1 0 1 (nI (n + 1))) 30 0 0 = nI n := by rw [qp_st_f (by decide)]; exact p2
      unfold wX10_contract
      rw [p2']
      refine ⟨fun h => absurd ((nI_eq (b := 8) (by omega) (by omega)).mp h) (by omega), fun _ => ⟨vp_in_nI h8 (by omega), ?_⟩⟩
      rw [qp_fe, nI_clamp (by omega)]
      refine ⟨_, l_c26 h8 8 0 _ (by omega) ⟨_, l_c52 h8 4 0 _ (by omega) ?_⟩⟩
      rw [i2_f (by decide) (by decide), iF_f (by decide), qp_st_f (f' := 30) (by decide), p2', nI_1]
      exact hp
    · generalize hz : qx_st (i2 4 (4 * n + 0) (iF 33 0 0 8 (8 * n + 0) (qx_st (qx_st s 1 0 1 (nI (n + 1))) 32 0 n 0))) 30 0 0 (nI (n + 1)) = z
      have zf : ∀ f, f ≠ 1 → f ≠ 30 → f ≠ 32 → f ≠ 33 → f ≠ 34 → f ≠ 35 → z f = s f := fun f h1 h2 h3 h4 h5 h6 => by
        rw [← hz, qp_st_f h2, i2_f h5 h6, iF_f h4, qp_st_f h3, qp_st_f h1]
      have z30 : ∀ j, z 30 0 j = if j = 0 then nI (n + 1) else s 30 0 j := fun j => by
        rw [← hz, qp_st_r, i2_f (by decide) (by decide), iF_f (by decide), qp_st_f (by decide), qp_st_f (by decide)]
        by_cases h : j = 0
        · rw [if_pos ⟨rfl, h⟩, if_pos h]
        · rw [if_neg (fun q => h q.2), if_neg h]
      have z1 : z 1 0 1 = nI (n + 1) := by
        rw [← hz, qp_st_f (by decide), i2_f (by decide) (by decide), iF_f (by decide), qp_st_f (by decide), qp_st_ff]
      have z32 : ∀ j, z 32 0 j = if j = n then 0 else s 32 0 j := fun j => by
        rw [← hz, qp_st_f (by decide), i2_f (by decide) (by decide), iF_f (by decide), qp_st_r, qp_st_f (by decide)]
        by_cases h : j = n
        · rw [if_pos ⟨rfl, h⟩, if_pos h]
        · rw [if_neg (fun q => h q.2), if_neg h]
      have z33 : ∀ j, z 33 0 j = if 8 * n ≤ j ∧ j < 8 * n + 8 then 0 else s 33 0 j := fun j => by
        rw [← hz, qp_st_f (by decide), i2_f (by decide) (by decide), iF_g, qp_st_f (by decide), qp_st_f (by decide)]; rfl
      have z34 : ∀ j, z 34 0 j = if 4 * n ≤ j ∧ j < 4 * n + 4 then 0 else s 34 0 j := fun j => by
        rw [← hz, qp_st_f (by decide), (i2_g _ _ _ _).1, iF_f (by decide), qp_st_f (by decide), qp_st_f (by decide)]; rfl
      have z35 : ∀ j, z 35 0 j = if 4 * n ≤ j ∧ j < 4 * n + 4 then 0 else s 35 0 j := fun j => by
        rw [← hz, qp_st_f (by decide), (i2_g _ _ _ _).2, iF_f (by decide), qp_st_f (by decide), qp_st_f (by decide)]; rfl
      have Z : ∀ f, f ≠ 1 ∧ f ≠ 30 ∧ f ≠ 32 ∧ f ≠ 33 ∧ f ≠ 34 ∧ f ≠ 35 → z f = s f := fun f h => zf f h.1 h.2.1 h.2.2.1 h.2.2.2.1 h.2.2.2.2.1 h.2.2.2.2.2
      refine ⟨n + 1, ev, e, ⟨by omega, z1, by rw [z30, if_pos rfl], fun i hi => ?_, fun i hi => ?_, fun i h1 h2 => ?_⟩, ?_, ?_⟩
      · rw [z34, Z 17 (by decide), Z 18 (by decide), Z 19 (by decide), Z 20 (by decide), Z 36 (by decide), Z 37 (by decide), Z 38 (by decide)]
        rcases Nat.lt_or_ge i (4 * n) with h | h
        · rw [if_neg (by omega)]
          exact p3 i h
        · rw [if_pos (by omega)]
          exact ⟨0, by omega, (p5 i h (by omega)).1, rfl, fun j hj => absurd hj (by omega)⟩
      · rw [z35, Z 17 (by decide)]
        rcases Nat.lt_or_ge i (4 * n) with h | h
        · rw [if_neg (by omega)]
          exact p4 i h
        · rw [if_pos (by omega)]
          have := (p5 i h (by omega)).2
          exact ⟨this, Or.inl this⟩
      · rw [Z 17 (by decide)]
        exact p5 i (by omega) h2
      · obtain ⟨v1, v2, v3, v4, v5, v6, v7, v8, v9, v10⟩ := hV
        refine ⟨fun q hq => ?_, fun q h1 h2 => ?_, fun c hc => ?_, fun c h1 h2 => ?_, ?_, ?_, v7, ?_, ?_, ?_⟩
        · rw [z33, Z 4 (by decide)]
          rcases Nat.lt_or_ge q (8 * n) with h | h
          · rw [if_neg (by omega)]; exact v1 q h
          · rw [if_pos (by omega)]; exact v2 q h (by omega)
        · rw [Z 4 (by decide)]; exact v2 q (by omega) h2
        · rw [z32, Z 5 (by decide)]
          rcases Nat.lt_or_ge c n with h | h
          · rw [if_neg (by omega)]; exact v3 c h
          · rw [if_pos (by omega)]; exact v4 c h (by omega)
        · rw [Z 5 (by decide)]; exact v4 c (by omega) h2
        · rw [Z 5 (by decide), Z 31 (by decide)]; exact v5
        · rw [Z 5 (by decide), z30, if_neg (by decide)]; exact v6
        · rw [Z 3 (by decide)]; exact v8
        · rw [z30, if_neg (by decide)]; exact v9
        · rw [Z 6 (by decide), Z 56 (by decide), Z 57 (by decide), Z 58 (by decide), Z 59 (by decide)]; exact v10
      · exact hQ.cg (Z 7 (by decide)) (Z 8 (by decide)) (fun j hj => by rw [z30, if_neg (by omega)]) (Z 60 (by decide)) (Z 61 (by decide)) (Z 62 (by decide)) (Z 63 (by decide)) (Z 64 (by decide)) (Z 65 (by decide))
  · obtain rfl : n = 8 := by omega
    refine ⟨-104, s, s, fun post hp => ?_, fun post hp => ?_, hR⟩
    · unfold wX9_contract
      rw [p1]
      exact ⟨fun h => absurd h (by decide), fun _ => hp⟩
    · unfold wX10_contract
      rw [p2]
      exact ⟨fun _ => hp, fun h => absurd rfl h⟩
def clC (s : qx_St) : qx_St := iF 5 0 10000 4 8 (iF 5 0 0 13 0 (iF 4 0 0 64 0 (i3 32 0 (qx_st s 1 0 1 0))))
def clX (s : qx_St) : qx_St := qx_st (qx_st (qx_st (qx_st (qx_st (qx_st (qx_st s 3 0 3 0) 3 0 4 0) 7 0 1 0) 7 0 8 0) 7 0 9 0) 7 0 6 0) 7 0 7 0
def clY (s : qx_St) : qx_St := iF 31 0 10000 4 0 (qx_st (qx_st (qx_st (qx_st (qx_st (qx_st (qx_st s 30 0 0 0) 30 0 3 0) 30 0 10 0) 30 0 11 0) 30 0 44 0) 30 0 30 0) 30 0 36 0)
theorem q_clear (hR : RX s) : QQ wX9_clear wX10_clear s := by
  obtain ⟨n, ev, e, hP, hV, hQ⟩ := hR
  obtain ⟨n8, p1, p2, p3, p4, p5⟩ := hP
  refine ⟨nI n, clX (clC s), clY (clX (clC s)), fun post hp => ?_, fun post hp => ?_, ?_⟩
  · unfold wX9_clear wX4_reset
    rw [qp_fe, p1]
    refine ⟨_, l_reset 32 0 _ (by omega) ?_⟩
    unfold wX8_reset
    refine ⟨_, l_fill (N := 64) (by omega) 64 0 _ (by omega) ?_⟩
    refine ⟨_, l_fill (N := 13) (by omega) 13 0 _ (by omega) ?_⟩
    unfold wX8_fillUsersPurses wJ7_fill_fda19 wJ7_rangeCheck_23922
    refine ⟨fun _ => ⟨fun _ => ⟨fun _ => ?_, fun h => absurd ?_ h⟩, fun h => absurd ?_ h⟩, fun h => absurd ?_ h⟩
    · refine ⟨_, l_fillr (N := 13) (hi := 12) (by omega) (by omega) 4 8 _ (by omega) ?_⟩
      simp only [wX8_startCall, wX5_reset, wX5_startCall, qp_fe]
      exact hp
    · decide
    · decide
    · decide
  · unfold wX10_clear wX10_begin
    simp only [qp_fe]
    refine ⟨_, l_begin 4 0 _ (by omega) ?_⟩
    have E : (clX (clC s)) 30 = s 30 := by
      unfold clX clC
      rw [qp_st_f (by decide), qp_st_f (by decide), qp_st_f (by decide), qp_st_f (by decide), qp_st_f (by decide), qp_st_f (by decide), qp_st_f (by decide), iF_f (by decide), iF_f (by decide), iF_f (by decide), i3_f (by decide), qp_st_f (by decide)]
    rw [E, p2]
    exact hp
  · generalize hx : clC s = x
    have x1 : x 1 0 1 = 0 := by rw [← hx, clC, iF_f (by decide), iF_f (by decide), iF_f (by decide), i3_f (by decide), qp_st_ff]
    have x17 : ∀ i, i < 32 → x 17 i 3 = 0 ∧ x 17 i 4 = 0 := fun i hi => by
      rw [← hx, clC, iF_f (by decide), iF_f (by decide), iF_f (by decide), (i3_g _ _ _ _).1, (i3_g _ _ _ _).2, if_pos (by omega), if_pos (by omega)]
      exact ⟨rfl, rfl⟩
    have x4 : ∀ q, q < 64 → x 4 0 q = 0 := fun q hq => by
      rw [← hx, clC, iF_f (by decide), iF_f (by decide), iF_g, if_pos (by omega)]
    have x5 : ∀ q, q < 13 → x 5 0 q = if 8 ≤ q ∧ q < 12 then 10000 else 0 := fun q hq => by
      rw [← hx, clC, iF_g, iF_g]
      by_cases h : 8 ≤ q ∧ q < 8 + 4
      · rw [if_pos h, if_pos (by omega)]
      · rw [if_neg h, if_pos (by omega), if_neg (by omega)]
    generalize hz : clY (clX x) = z
    unfold clY clX at hz
    have zx : ∀ f, f ≠ 3 ∧ f ≠ 7 ∧ f ≠ 30 ∧ f ≠ 31 → z f = x f := fun f h => by
      rw [← hz, iF_f h.2.2.2]
      simp (disch := omega) only [qp_st_f]
    have z31 : ∀ u, u < 4 → z 31 0 u = 10000 := fun u hu => by rw [← hz, iF_g, if_pos (by omega)]
    have z30 : ∀ j, j = 0 ∨ j = 3 ∨ j = 10 ∨ j = 11 ∨ j = 44 ∨ j = 30 ∨ j = 36 → z 30 0 j = 0 := fun j hj => by
      rw [← hz, iF_f (by decide)]
      rcases hj with rfl | rfl | rfl | rfl | rfl | rfl | rfl <;> simp (disch := decide) only [qp_st_j, qp_st_ff]
    have z7 : ∀ j, j = 1 ∨ j = 8 ∨ j = 9 ∨ j = 6 → z 7 0 j = 0 := fun j hj => by
      rw [← hz, iF_f (by decide)]
      rcases hj with rfl | rfl | rfl | rfl <;> simp (disch := decide) only [qp_st_f, qp_st_j, qp_st_ff]
    have z3 : z 3 0 3 = 0 := by
      rw [← hz, iF_f (by decide)]
      simp (disch := decide) only [qp_st_f, qp_st_j, qp_st_ff]
    refine ⟨0, 0, 0, ⟨by omega, by rw [zx 1 (by decide)]; exact x1, z30 0 (by omega), fun i hi => absurd hi (by omega), fun i hi => absurd hi (by omega), fun i _ h2 => by rw [zx 17 (by decide)]; exact x17 i h2⟩, ⟨fun q hq => absurd hq (by omega), fun q _ h2 => by rw [zx 4 (by decide)]; exact x4 q h2, fun q hq => absurd hq (by omega), fun c _ h2 => by rw [zx 5 (by decide), x5 c (by omega), if_neg (by omega)], fun u hu => by rw [zx 5 (by decide), x5 _ (by omega), if_pos (by omega), z31 u hu], by rw [zx 5 (by decide), x5 _ (by omega), if_neg (by omega), z30 3 (by omega)], by omega, z3, z30 30 (by omega), fun j hj => absurd hj (by omega)⟩, ⟨z7 6 (by omega), z30 36 (by omega), by omega, fun k _ h2 _ => absurd h2 (by omega), (z7 8 (by omega)).trans (z30 10 (by omega)).symm, (z7 9 (by omega)).trans (z30 11 (by omega)).symm, (z7 1 (by omega)).trans (z30 44 (by omega)).symm, fun _ => rfl, fun h => absurd (z7 1 (by omega)) h⟩⟩
end QBUILD
