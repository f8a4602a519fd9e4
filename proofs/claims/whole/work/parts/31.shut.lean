/-! may a frame be entered -/
def gB (a j : Nat) (x : qx_St) : Prop := ∃ m, m < 4 ∧ x 12 j 3 = nI m ∧ x 12 j 2 = nI a ∧ ¬ x 17 (4 * a + m) 4 = nI 0
section QG
variable {n D a b : Nat} {x y : qx_St}
theorem x_gl {post : Int32 → qx_St → Prop} {q1 q2 : Int32} (hM : rM n D x y) (n8 : n ≤ 8) (D8 : D ≤ 8) (ha : a < 8) (hp1 : (∃ j, j < D ∧ gB a j x) → post 1 x) (hp0 : (¬ ∃ j, j < D ∧ gB a j x) → post 0 x) : ∀ r k, k + r = D → (∀ j, j < k → ¬ gB a j x) → wX2_isGuardedInside_l2 q1 q2 post (r + 1) (nI a) (nI D) (nI k) x := by
  intro r
  induction r with
  | zero =>
    intro k hk hn
    obtain rfl : k = D := by omega
    simp (disch := omega) only [wX2_isGuardedInside_l2, qp_l, qp_le, Nat.le_refl, true_imp_iff, not_true, false_imp_iff, and_true]
    exact hp0 (fun ⟨j, h1, h2⟩ => hn j h1 h2)
  | succ r ih =>
    intro k hk hn
    have IH := ih (k + 1) (by omega)
    revert IH
    generalize r + 1 = R
    intro IH
    obtain ⟨c, m, c1, m1, g1, g2, g3⟩ := hM k (by omega)
    have h1 : ¬ D ≤ k := by omega
    have h2 : ¬ 8 ≤ k := by omega
    have hm : a * 4 + m = 4 * a + m := by omega
    by_cases hc : c = a
    · subst hc
      by_cases hg : x 17 (4 * c + m) 4 = nI 0
      · have IH' := IH (fun j hj => by
          rcases (show j < k ∨ j = k by omega) with h | rfl
          · exact hn j h
          · rintro ⟨m', q1, q2, q3, q4⟩
            rw [g2] at q2
            have : m = m' := (nI_eq (by omega) (by omega)).mp q2
            subst this
            exact q4 hg)
        have h32 : 4 * c + m < 32 := by omega
        simp (disch := omega) only [wX2_isGuardedInside_l2, wX4_memberOf, qp_l, qp_le, h1, h2, g1, g2, hm, hg, h32, true_imp_iff, not_true, not_false_iff, false_imp_iff, and_true, true_and, qp_in, nI_clamp, pk_mul, nI_add]
        exact IH'
      · have h32 : 4 * c + m < 32 := by omega
        simp (disch := omega) only [wX2_isGuardedInside_l2, wX4_memberOf, qp_l, qp_le, h1, h2, g1, g2, hm, hg, h32, true_imp_iff, not_true, not_false_iff, false_imp_iff, and_true, true_and, qp_in, nI_clamp, pk_mul, nI_add]
        exact hp1 ⟨k, by omega, m, m1, g2, g1, hg⟩
    · have IH' := IH (fun j hj => by
        rcases (show j < k ∨ j = k by omega) with h | rfl
        · exact hn j h
        · rintro ⟨m', q1, q2, q3, q4⟩
          rw [g1] at q3
          exact hc ((nI_eq (by omega) (by omega)).mp q3))
      simp (disch := omega) only [wX2_isGuardedInside_l2, qp_l, qp_le, qp_eq, h1, h2, hc, g1, true_imp_iff, not_true, not_false_iff, false_imp_iff, and_true, true_and, qp_in, nI_clamp, nI_add]
      exact IH'
theorem x_gd {post : Int32 → qx_St → Prop} (hM : rM n D x y) (n8 : n ≤ 8) (D8 : D ≤ 8) (ha : a < 8) (hp1 : (∃ j, j < D ∧ gB a j x) → post 1 x) (hp0 : (¬ ∃ j, j < D ∧ gB a j x) → post 0 x) : wX2_isGuardedInside (nI a) (nI D) x post := ⟨D + 1, x_gl hM n8 D8 ha hp1 hp0 D 0 (by omega) (fun j hj => by omega)⟩
theorem m_gl {post : Int32 → qx_St → Prop} {q1 q2 q3 q4 dd v : Int32} (hP : rP n x y) (hM : rM n D x y) (D8 : D ≤ 8) (ha : a < n) (hb : b < 4) (gd : y 30 0 12 = nI D) (hp1 : ¬ y 35 0 (4 * a + b) = nI 0 → (∃ j, j < D ∧ gB a j x) → post 4 y) (hp0 : (y 35 0 (4 * a + b) = nI 0 ∨ ¬ ∃ j, j < D ∧ gB a j x) → wX10_shut_l37 q1 q2 q3 q4 post 1 dd (nI a) (nI b) v (nI D) y) : ∀ r k, k + r = D → (y 35 0 (4 * a + b) = nI 0 ∨ ∀ j, j < k → ¬ gB a j x) → wX10_shut_l37 q1 q2 q3 q4 post (r + 1) dd (nI a) (nI b) v (nI k) y := by
  have n8 := hP.1
  intro r
  induction r with
  | zero =>
    intro k hk hn
    obtain rfl : k = D := by omega
    exact hp0 (hn.imp_right fun h ⟨j, h1, h2⟩ => h j h1 h2)
  | succ r ih =>
    intro k hk hn
    have IH := ih (k + 1) (by omega)
    revert IH
    generalize r + 1 = R
    intro IH
    obtain ⟨c, m, c1, m1, g1, g2, g3⟩ := hM k (by omega)
    have h1 : ¬ D ≤ k := by omega
    have hgy : ∀ i, i < 4 * n → x 17 i 4 = y 35 0 i := fun i hi => (hP.2.2.2.2.1 i hi).1
    have ed : nI (4 * c + m) / nI 4 = nI c := by rw [pk_div (by omega) (by omega) (by omega)]; congr 1; omega
    by_cases h0 : y 35 0 (4 * a + b) = nI 0
    · have IH' := IH (Or.inl h0)
      simp (disch := omega) only [wX10_shut_l37, qp_l, gd, qp_le, h1, h0, true_imp_iff, not_true, not_false_iff, false_imp_iff, and_true, true_and, qp_in, nI_clamp, pk_mul, nI_add]
      exact IH'
    · have hn' := hn.resolve_left h0
      by_cases hc : c = a
      · subst hc
        by_cases hg : x 17 (4 * c + m) 4 = nI 0
        · have IH' := IH (Or.inr (fun j hj => by
            rcases (show j < k ∨ j = k by omega) with h | rfl
            · exact hn' j h
            · rintro ⟨m', q1, q2, q3, q4⟩
              rw [g2] at q2
              have : m = m' := (nI_eq (by omega) (by omega)).mp q2
              subst this
              exact q4 hg))
          rw [hgy _ (by omega)] at hg
          simp (disch := omega) only [wX10_shut_l37, qp_l, gd, qp_le, h1, h0, g3, ed, hg, true_imp_iff, not_true, not_false_iff, false_imp_iff, and_true, true_and, qp_in, nI_clamp, pk_mul, nI_add]
          exact IH'
        · have hgx := hg
          rw [hgy _ (by omega)] at hg
          simp (disch := omega) only [wX10_shut_l37, qp_l, gd, qp_le, h1, h0, g3, ed, hg, true_imp_iff, not_true, not_false_iff, false_imp_iff, and_true, true_and, qp_in, nI_clamp, pk_mul, nI_add]
          exact hp1 h0 ⟨k, by omega, m, m1, g2, g1, hgx⟩
      · have IH' := IH (Or.inr (fun j hj => by
          rcases (show j < k ∨ j = k by omega) with h | rfl
          · exact hn' j h
          · rintro ⟨m', q1, q2, q3, q4⟩
            rw [g1] at q3
            exact hc ((nI_eq (by omega) (by omega)).mp q3)))
        simp (disch := omega) only [wX10_shut_l37, qp_l, gd, qp_le, qp_eq, h1, h0, g3, ed, hc, true_imp_iff, not_true, not_false_iff, false_imp_iff, and_true, true_and, qp_in, nI_clamp, pk_mul, nI_add]
        exact IH'
end QG
theorem rM.top {n d pl c m : Nat} {hw : Int32} {x y : qx_St} (hM : rM n d x y) (hA : rA n d pl c m hw x y) : rM n (d + 1) x y := by
  intro k hk
  rcases (show k < d ∨ k = d by omega) with h | rfl
  · exact hM k h
  · exact ⟨c, m, hA.1, hA.2.1, hA.2.2.1, hA.2.2.2.1, hA.2.2.2.2.1⟩
theorem qp_n1 {post : Int32 → qx_St → Prop} {y : qx_St} {a n : Nat} (ha : a < 8) (hn : n ≤ 8) (g : y 30 0 0 = nI n) (hp : post (if a < n then 0 else 1) y) : wX10_noContract (nI a) y post := by
  rcases Nat.lt_or_ge a n with h | h
  · rw [if_pos h] at hp
    have e : nI n - nI 1 = nI (n - 1) := pk_sub (by omega)
    have h1 : ¬ n - 1 < a := by omega
    simp (disch := omega) only [wX10_noContract, wX10_in, g, qp_l, e, qp_lt, Nat.not_lt_zero, h1, qp_eq, false_imp_iff, true_imp_iff, not_false_iff, true_and]
    simp
    exact hp
  · rw [if_neg (by omega)] at hp
    by_cases h0 : n = 0
    · subst h0
      have e : nI a < nI 0 - nI 1 ↔ False := by
        refine ⟨fun h => ?_, False.elim⟩
        exact absurd (Int32.lt_trans h (show nI 0 - nI 1 < 0 by decide)) (nI_pos (by omega))
      have e2 : nI 0 - nI 1 < nI a := Int32.lt_of_lt_of_le (show nI 0 - nI 1 < 0 by decide) (nI_pos' (by omega))
      simp (disch := omega) only [wX10_noContract, wX10_in, g, qp_l, e2, qp_lt, Nat.not_lt_zero, qp_eq, false_imp_iff, true_imp_iff, not_false_iff, not_true, true_and, and_true]
      try simp
      exact hp
    · have e : nI n - nI 1 = nI (n - 1) := pk_sub (by omega)
      have h1 : n - 1 < a := by omega
      simp (disch := omega) only [wX10_noContract, wX10_in, g, qp_l, e, qp_lt, Nat.not_lt_zero, h1, qp_eq, false_imp_iff, true_imp_iff, not_false_iff, not_true, true_and, and_true]
      try simp
      exact hp
theorem x_has {post : Int32 → qx_St → Prop} {x : qx_St} {a n : Nat} (ha : a < 8) (hn : n ≤ 8) (g : x 1 0 1 = nI n) (hp : post (if a < n then 1 else 0) x) : wX4_has (nI a) x post := by
  rcases Nat.lt_or_ge a n with h | h
  · rw [if_pos h] at hp
    have h1 : ¬ n ≤ a := by omega
    simp (disch := omega) only [wX4_has, g, qp_l, qp_lt, qp_le, Nat.not_lt_zero, h1, false_imp_iff, true_imp_iff, not_false_iff, true_and]
    exact hp
  · rw [if_neg (by omega)] at hp
    simp (disch := omega) only [wX4_has, g, qp_l, qp_lt, qp_le, Nat.not_lt_zero, h, false_imp_iff, true_imp_iff, not_false_iff, not_true, true_and, and_true]
    exact hp
section QS
variable {n d pl c m L h p l e dp ev a b : Nat} {x0 y0 x y : qx_St} {v : Int32} {hw : Int32}
theorem shut_sim (H : rH n d pl c m hw L h p l e dp ev x0 y0 x y) (ha : a < 8) (hb : b < 4) : ∃ w : Int32, (∀ post : Int32 → qx_St → Prop, post w x → wX2_whyNotEntered d (nI a) (nI b) v (nI (d + 1)) x post) ∧ (∀ post : Int32 → qx_St → Prop, post w y → wX10_shut (nI d) (nI a) (nI b) v y post) ∧ (w = 0 → a < n ∧ d + 1 < 8) := by
  obtain ⟨⟨hP, hW, hS, hE, hO, hM, hA, hfx, hfy⟩, hT, h1, h2, h3, h4, hd⟩ := H
  have hM1 := hM.top hA
  obtain ⟨a1, a2, a3, a4, a5, a6, a7, a8, a9, a10, a11, a12, a13⟩ := hA
  have n8 := hP.1
  have gx := hP.2.1
  have gy := hP.2.2.1
  have ed : nI (4 * c + m) / nI 4 = nI c := by rw [pk_div (by omega) (by omega) (by omega)]; congr 1; omega
  have e4 : a * 4 + b = 4 * a + b := by omega
  rcases Nat.lt_or_ge a n with han | han
  case inr =>
    refine ⟨1, fun post hp => ?_, fun post hp => ?_, fun h => absurd h (by decide)⟩
    · refine x_has ha n8 gx ?_
      rw [if_neg (by omega)]
      exact ⟨fun _ => hp, fun h => absurd rfl h⟩
    · refine qp_n1 ha n8 gy ?_
      rw [if_neg (by omega)]
      exact ⟨fun h => absurd h (by decide), fun _ => hp⟩
  obtain ⟨k, k20, kx, ky, -⟩ := hP.2.2.2.1 (4 * a + b) (by omega)
  have hg := (hP.2.2.2.2.1 (4 * a + b) (by omega)).1
  have h32 : 4 * a + b < 32 := by omega
  have vc : x 5 0 c = y 32 0 c := hW.2.2.1 c a1
  by_cases k0 : k = 0
  · subst k0
    refine ⟨1, fun post hp => ?_, fun post hp => ?_, fun h => absurd h (by decide)⟩
    · refine x_has ha n8 gx ?_
      rw [if_pos han]
      refine ⟨fun h => absurd h (by decide), fun _ => ?_⟩
      simp (disch := omega) only [wX4_memberOf, qp_l, pk_mul, nI_add, e4, qp_in, nI_clamp, kx, h32, true_and, true_imp_iff, not_true, false_imp_iff, and_true]
      exact hp
    · refine qp_n1 ha n8 gy ?_
      rw [if_pos han]
      refine ⟨fun _ => ?_, fun h => absurd rfl h⟩
      simp (disch := omega) only [qp_l, pk_mul, nI_add, qp_in, nI_clamp, ky, true_and, true_imp_iff, not_true, false_imp_iff, and_true]
      exact hp
  -- the way behind the first test
  have wx : ∀ post : Int32 → qx_St → Prop, (((d + 1 < 8) → ((x 17 (4 * a + b) 4 = nI 0 → wX2_whyNotEntered_j64 d (nI a) (nI b) v (nI (d + 1)) post (nI a) (nI b) v (nI (d + 1)) x) ∧ (¬ x 17 (4 * a + b) 4 = nI 0 → wX2_isGuardedInside (nI a) (nI (d + 1)) x (fun r s => (r = 0 → wX2_whyNotEntered_j64 d (nI a) (nI b) v (nI (d + 1)) post (nI a) (nI b) v (nI (d + 1)) s) ∧ (¬ r = 0 → post 4 s))))) ∧ (¬ d + 1 < 8 → post 5 x)) → wX2_whyNotEntered d (nI a) (nI b) v (nI (d + 1)) x post := by
    intro post hp
    refine x_has ha n8 gx ?_
    rw [if_pos han]
    refine ⟨fun h => absurd h (by decide), fun _ => ?_⟩
    simp (disch := omega) only [wX4_memberOf, qp_l, pk_mul, nI_add, e4, qp_in, nI_clamp, kx, h32, qp_eq, k0, qp_lt, true_and, true_imp_iff, not_false_iff, false_imp_iff]
    exact hp
  have wy : ∀ post : Int32 → qx_St → Prop, ((d + 1 = 8 → post 5 y) ∧ (¬ d + 1 = 8 → ∃ n, wX10_shut_l37 (nI d) (nI a) (nI b) v post n (nI d) (nI a) (nI b) v (nI 0) y)) → wX10_shut (nI d) (nI a) (nI b) v y post := by
    intro post hp
    refine qp_n1 ha n8 gy ?_
    rw [if_pos han]
    refine ⟨fun _ => ?_, fun h => absurd rfl h⟩
    simp (disch := omega) only [qp_l, pk_mul, nI_add, qp_in, nI_clamp, ky, qp_eq, k0, a12, true_and, true_imp_iff, not_false_iff, false_imp_iff]
    exact hp
  by_cases d8 : d + 1 = 8
  · have d8' : ¬ d + 1 < 8 := by omega
    exact ⟨5, fun post hp => wx post ⟨fun h => absurd h d8', fun _ => hp⟩, fun post hp => wy post ⟨fun _ => hp, fun h => absurd d8 h⟩, fun h => absurd h (by decide)⟩
  have d8' : d + 1 < 8 := by omega
  by_cases hin : ¬ x 17 (4 * a + b) 4 = nI 0 ∧ ∃ j, j < d + 1 ∧ gB a j x
  · refine ⟨4, fun post hp => wx post ⟨fun _ => ⟨fun h => absurd h hin.1, fun _ => x_gd hM1 n8 (by omega) ha (fun _ => ⟨fun h => absurd h (by decide), fun _ => hp⟩) (fun h => absurd hin.2 h)⟩, fun h => absurd d8' h⟩, fun post hp => wy post ⟨fun h => absurd h d8, fun _ => ⟨d + 2, ?_⟩⟩, fun h => absurd h (by decide)⟩
    exact m_gl hP hM1 (by omega) han hb a12 (fun _ _ => hp) (fun h => h.elim (fun h => absurd (hg.trans h) hin.1) (fun h => absurd hin.2 h)) (d + 1) 0 (by omega) (Or.inr fun j hj => by omega)
  -- none inside
  have wx2 : ∀ post : Int32 → qx_St → Prop, wX2_whyNotEntered_j64 d (nI a) (nI b) v (nI (d + 1)) post (nI a) (nI b) v (nI (d + 1)) x → wX2_whyNotEntered d (nI a) (nI b) v (nI (d + 1)) x post := fun post hp => wx post ⟨fun _ => ⟨fun _ => hp, fun hgd => x_gd hM1 n8 (by omega) ha (fun h => absurd ⟨hgd, h⟩ hin) (fun _ => ⟨fun _ => hp, fun h => absurd rfl h⟩)⟩, fun h => absurd d8' h⟩
  have wy2 : ∀ post : Int32 → qx_St → Prop, wX10_shut_l37 (nI d) (nI a) (nI b) v post 1 (nI d) (nI a) (nI b) v (nI (d + 1)) y → wX10_shut (nI d) (nI a) (nI b) v y post := fun post hp => wy post ⟨fun h => absurd h d8, fun _ => ⟨d + 2, m_gl hP hM1 (by omega) han hb a12 (fun h1 h2 => absurd ⟨fun h => h1 (hg.symm.trans h), h2⟩ hin) (fun _ => hp) (d + 1) 0 (by omega) (Or.inr fun j hj => by omega)⟩⟩
  have wy3 : ∀ post : Int32 → qx_St → Prop, ((v = nI 0 → wX10_shut_j111 (nI d) (nI a) (nI b) v post (nI d) (nI a) (nI b) v (nI (d + 1)) y) ∧ (¬ v = nI 0 → (x 12 d 7 = nI 0 → wX10_shut_j111 (nI d) (nI a) (nI b) v post (nI d) (nI a) (nI b) v (nI (d + 1)) y) ∧ (¬ x 12 d 7 = nI 0 → post 2 y))) → wX10_shut (nI d) (nI a) (nI b) v y post := by
    intro post hp
    refine wy2 post ?_
    simp (disch := omega) only [wX10_shut_l37, qp_l, a12, qp_le, Nat.le_refl, qp_in, nI_clamp, ← a9, true_and, true_imp_iff, not_true, false_imp_iff, and_true]
    exact hp
  by_cases hv : ¬ v = nI 0 ∧ ¬ x 12 d 7 = nI 0
  · refine ⟨2, fun post hp => wx2 post ?_, fun post hp => wy3 post ⟨fun h => absurd h hv.1, fun _ => ⟨fun h => absurd h hv.2, fun _ => hp⟩⟩, fun h => absurd h (by decide)⟩
    simp (disch := omega) only [wX2_whyNotEntered_j64, qp_l, hv.1, hv.2, true_and, true_imp_iff, not_false_iff, false_imp_iff]
    exact hp
  have wx4 : ∀ post : Int32 → qx_St → Prop, wX8_canPay (x 12 d 2) v x (fun r s => (r = 0 → post 7 s) ∧ (¬ r = 0 → post 0 s)) → wX2_whyNotEntered d (nI a) (nI b) v (nI (d + 1)) x post := by
    intro post hp
    refine wx2 post ⟨fun _ => hp, fun h => ⟨fun _ => hp, fun h2 => absurd ⟨h, h2⟩ hv⟩⟩
  have wy4 : ∀ post : Int32 → qx_St → Prop, wX10_shut_j111 (nI d) (nI a) (nI b) v post (nI d) (nI a) (nI b) v (nI (d + 1)) y → wX10_shut (nI d) (nI a) (nI b) v y post := by
    intro post hp
    exact wy3 post ⟨fun _ => hp, fun h => ⟨fun _ => hp, fun h2 => absurd ⟨h, h2⟩ hv⟩⟩
  by_cases hc : v < nI 0 ∨ x 5 0 c < v
  · refine ⟨7, fun post hp => wx4 post ?_, fun post hp => wy4 post ?_, fun h => absurd h (by decide)⟩
    · simp (disch := omega) only [wX8_canPay, qp_l, a3, qp_in, nI_clamp, true_and]
      refine ⟨fun _ => ⟨fun _ => hp, fun h => absurd trivial h⟩, fun h1 => ⟨fun _ => ⟨fun _ => hp, fun h => absurd trivial h⟩, fun h2 => (hc.elim h1 h2).elim⟩⟩
    · simp (disch := omega) only [wX10_shut_j111, qp_l, a5, ed, qp_in, nI_clamp, true_and, ← vc]
      refine ⟨fun _ => hp, fun h1 => ⟨fun h2 => absurd (hc.resolve_left h1) (Int32.not_lt.mpr h2), fun _ => hp⟩⟩
  · have c1 : ¬ v < nI 0 := fun h => hc (Or.inl h)
    have c2 : ¬ x 5 0 c < v := fun h => hc (Or.inr h)
    refine ⟨0, fun post hp => wx4 post ?_, fun post hp => wy4 post ?_, fun _ => ⟨han, d8'⟩⟩
    · simp (disch := omega) only [wX8_canPay, qp_l, a3, qp_in, nI_clamp, true_and, c1, c2, false_imp_iff, true_imp_iff, not_false_iff]
      exact ⟨fun h => absurd h (by decide), fun _ => hp⟩
    · simp (disch := omega) only [wX10_shut_j111, qp_l, a5, ed, qp_in, nI_clamp, true_and, ← vc, c1, false_imp_iff, true_imp_iff, not_false_iff]
      exact ⟨fun _ => hp, fun h => absurd (Int32.not_lt.mp c2) h⟩
end QS
