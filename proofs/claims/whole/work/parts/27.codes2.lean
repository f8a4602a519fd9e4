/-! each code, going on: order, ends, world -/
theorem qp_back {p q : Nat} (hp : p < 2 ^ 30) (hq : q < 2 ^ 30) : (nI 0 ≤ nI p - nI q) = (q ≤ p) := by
  apply propext
  constructor
  · intro h
    rcases Nat.lt_or_ge p q with h1 | h1
    · exact absurd h (Int32.not_le.mpr (pk_sneg hq h1))
    · exact h1
  · intro h
    rw [pk_sub h]
    exact nI_pos' (by omega)
theorem qp_back2 {p q : Nat} (hp : p < 2 ^ 30) (hq : q < 2 ^ 30) : (if nI 0 < nI p - nI q then nI p - nI q else nI 0) = nI (p - q) := by
  rcases Nat.lt_or_ge q p with h1 | h1
  · rw [pk_sub (by omega), if_pos (nI_lt (by omega) (by omega))]
  · rcases Nat.lt_or_ge p q with h2 | h2
    · rw [if_neg, Nat.sub_eq_zero_of_le h1]
      intro h
      have := pk_sneg hq h2
      exact absurd (Int32.lt_trans h this) (by decide)
    · have : p = q := by omega
      subst this
      rw [pk_sub (Nat.le_refl _), Nat.sub_self]
      rfl
section QC2
variable {rf : Int32 → Int32 → qx_St → (qx_St → Prop) → Prop} {i p k : Nat} {dep a b : Int32} {n d pl c m L h p1 l e dp ev : Nat} {x0 y0 x y : qx_St} {hw : Int32}
theorem s_skip (H : rH n d pl c m hw L (h + 1) p1 l e dp ev x0 y0 x y) (N : rN d x) (hp : p1 ≤ 20) (ho : rOk 14 a b) : aC rf i p 14 dep a b n d pl c m hw L l e dp x0 y0 x y := by
  obtain ⟨q, q1, q2, rfl⟩ := ho.2.1 (Or.inl rfl)
  have hd : d < 8 := H.2.2.2.2.2.2
  have h10 : h + 1 ≤ 8 := H.2.1.1
  obtain ⟨e1, H1⟩ := H.pop
  have gx : (qx_st x 12 d 1 (nI h)) 12 d 10 = nI p1 := H1.2.1.2.2.2.2.2.1
  have gy : y 45 0 d = nI p1 := H.2.1.2.2.2.2.2.2.1
  by_cases hv : x 13 d h = 0
  · refine ⟨h, p1 + q, ev, _, _, fun post hp => jx_arr (by omega) (by omega) (x_take H.2.1.2.1 (by omega) ?_), fun post hp => jm_14 hd (m_pop H.2.1.2.2.1 hd (by omega) ?_), H1.pos (p' := p1 + q) (by omega), (N.st (by omega)).st (by omega)⟩
    · simp only [qp_fe, gx, nI_add]
      exact ⟨fun _ => ⟨fun _ => hp, fun h => absurd hv h⟩, fun h => absurd rfl h⟩
    · rw [← e1, gy, nI_add]
      exact ⟨fun _ => hp, fun h => absurd hv h⟩
  · refine ⟨h, p1, ev, qx_st x 12 d 1 (nI h), qx_st (qx_st y 46 0 d (nI h)) 45 0 d (nI p1), fun post hp => jx_arr (by omega) (by omega) (x_take H.2.1.2.1 (by omega) ?_), fun post hp => jm_14 hd (m_pop H.2.1.2.2.1 hd (by omega) ?_), ?_, N.st (by omega)⟩
    · refine ⟨fun _ => ⟨fun h => absurd h hv, fun _ => ?_⟩, fun h => absurd rfl h⟩
      simp (disch := omega) only [wX2_arrange_j28, wX2_arrange_j57, qp_l, qp_eq]
      simp
      exact hp
    · rw [← e1, gy]
      refine ⟨fun h => absurd h hv, fun _ => ?_⟩
      have e0 : nI p1 + nI 0 = nI p1 := by rw [nI_add]; rfl
      rw [e0]
      exact hp
    · refine H1.loc xL.rf (yL.st (by omega)) ?_
      obtain ⟨t1, t2, t3, t4, t5, t6, t7, t8, t9, t10, t11, t12, t13⟩ := H1.2.1
      refine ⟨t1, t2, ?_, fun j hj => ?_, t5, t6, qp_st_ff _ _ _ _ _, t8, t9, t10, ?_, t12, ?_⟩
      · rw [qp_st_f (by decide)]; exact t3
      · rw [show qx_st (qx_st y 46 0 d (nI h)) 45 0 d (nI p1) 50 = qx_st y 46 0 d (nI h) 50 from qp_st_f (by decide)]; exact t4 j hj
      · rw [qp_st_f (by decide)]; exact t11
      · rw [qp_st_f (by decide)]; exact t13
theorem s_back (H : rH n d pl c m hw L (h + 1) (p1 + 1) l e dp ev x0 y0 x y) (N : rN d x) (hp : p1 ≤ 20) (ho : rOk 15 a b) : aC rf i p 15 dep a b n d pl c m hw L l e dp x0 y0 x y := by
  obtain ⟨q, q1, q2, rfl⟩ := ho.2.1 (Or.inr rfl)
  have hd : d < 8 := H.2.2.2.2.2.2
  have h10 : h + 1 ≤ 8 := H.2.1.1
  obtain ⟨e1, H1⟩ := H.pop
  have gx : (qx_st x 12 d 1 (nI h)) 12 d 10 = nI (p1 + 1) := H1.2.1.2.2.2.2.2.1
  have gy : y 45 0 d = nI (p1 + 1) := H.2.1.2.2.2.2.2.2.1
  have gy2 : (qx_st y 46 0 d (nI h)) 45 0 d = nI (p1 + 1) := H1.2.1.2.2.2.2.2.2.1
  have ep : nI (p1 + 1) - nI 1 = nI p1 := nI_pred p1
  by_cases hv : x 13 d h = 0
  · refine ⟨h, p1 + 1, ev, qx_st x 12 d 1 (nI h), qx_st (qx_st y 46 0 d (nI h)) 45 0 d (nI (p1 + 1)), fun post hp => jx_arr (by omega) (by omega) (x_take H.2.1.2.1 (by omega) ?_), fun post hp => jm_15 hd (m_pop H.2.1.2.2.1 hd (by omega) ?_), ?_, N.st (by omega)⟩
    · simp (disch := omega) only [wX2_arrange_j28, wX2_arrange_j57, qp_l, qp_eq]
      have hv' : x 13 d h = nI 0 := hv
      simp [hv']
      exact hp
    · rw [← e1, gy, gy2]
      exact ⟨fun _ => hp, fun h => absurd hv h⟩
    · refine H1.loc xL.rf (yL.st (by omega)) ?_
      obtain ⟨t1, t2, t3, t4, t5, t6, t7, t8, t9, t10, t11, t12, t13⟩ := H1.2.1
      refine ⟨t1, t2, ?_, fun j hj => ?_, t5, t6, qp_st_ff _ _ _ _ _, t8, t9, t10, ?_, t12, ?_⟩
      · rw [qp_st_f (by decide)]; exact t3
      · rw [show qx_st (qx_st y 46 0 d (nI h)) 45 0 d (nI (p1 + 1)) 50 = qx_st y 46 0 d (nI h) 50 from qp_st_f (by decide)]; exact t4 j hj
      · rw [qp_st_f (by decide)]; exact t11
      · rw [qp_st_f (by decide)]; exact t13
  · refine ⟨h, p1 - q, ev, _, _, fun post hp => jx_arr (by omega) (by omega) (x_take H.2.1.2.1 (by omega) ?_), fun post hp => jm_15 hd (m_pop H.2.1.2.2.1 hd (by omega) ?_), H1.pos (p' := p1 - q) (by omega), (N.st (by omega)).st (by omega)⟩
    · have hv' : ¬ x 13 d h = nI 0 := hv
      simp (disch := omega) only [wX2_arrange_j28, qp_l, qp_eq, qp_fe, gx, ep, qp_back2]
      simp [hv']
      exact hp
    · rw [← e1, gy, ep]
      refine ⟨fun h => absurd h hv, fun _ => ?_⟩
      rw [qp_back (by omega) (by omega)]
      refine ⟨fun h => ?_, fun h => ?_⟩
      · rw [pk_sub h]; exact hp
      · rw [show p1 - q = 0 by omega] at hp; exact hp
theorem s_double (H : rH n d pl c m hw L (h + 1) p1 l e dp ev x0 y0 x y) (N : rN d x) (h7 : h + 1 < 8) : aC rf i p 16 dep a b n d pl c m hw L l e dp x0 y0 x y := by
  have hd : d < 8 := H.2.2.2.2.2.2
  obtain ⟨e1, H1⟩ := H.pop
  have H2 := H1.push (by omega) (x 13 d h)
  refine ⟨h + 2, p1, ev, qx_st (qx_st (qx_st (qx_st (qx_st x 12 d 1 (nI h)) 13 d h (x 13 d h)) 12 d 1 (nI (h + 1))) 13 d (h + 1) (x 13 d h)) 12 d 1 (nI (h + 2)), qx_st (qx_st y 50 0 (8 * d + (h + 1)) (x 13 d h)) 46 0 d (nI (h + 2)), fun post hp => jx_arr (by omega) (by omega) (x_take H.2.1.2.1 (by omega) ?_), fun post hp => jm_16 hd (by omega) H.2.1.2.2.1 ?_, ?_, ?_⟩
  · simp (disch := omega) only [wX2_arrange_j28, wX2_arrange_j57, qp_l, qp_eq]
    simp
    exact x_put H1.2.1.2.1 (by omega) (x_put H2.2.1.2.1 (by omega) hp)
  · rw [← e1]
    exact m_push H.2.1.2.2.1 hd (by omega) hp
  · refine H.loc ((xL.st (by omega)).trans (xL.stk.trans ((xL.st (by omega)).trans (xL.stk.trans (xL.st (by omega)))))) ((yL.stk (by omega)).trans (yL.st (by omega))) ?_
    obtain ⟨t1, t2, t3, t4, t5, t6, t7, t8, t9, t10, t11, t12, t13⟩ := H.2.1
    refine ⟨by omega, qp_st_ff _ _ _ _ _, qp_st_ff _ _ _ _ _, fun j hj => ?_, t5, ?_, ?_, t8, t9, ?_, ?_, ?_, ?_⟩
    · rcases (show j = h + 1 ∨ j = h ∨ j < h by omega) with rfl | rfl | hj
      · simp (disch := decide) only [qp_st_f, qp_st_ff]
      · have n1 : j ≠ j + 1 := by omega
        have n2 : 8 * d + j ≠ 8 * d + (j + 1) := by omega
        simp (disch := first | decide | assumption) only [qp_st_f, qp_st_ff, qp_st_j]
        exact e1
      · have n1 : j ≠ h + 1 := by omega
        have n2 : 8 * d + j ≠ 8 * d + (h + 1) := by omega
        have n3 : j ≠ h := by omega
        simp (disch := first | decide | assumption) only [qp_st_f, qp_st_ff, qp_st_j]
        exact t4 j (by omega)
    all_goals (simp (disch := decide) only [qp_st_f, qp_st_ff, qp_st_j]; assumption)
  · exact ((((N.st (by omega)).stf (by decide)).st (by omega)).stf (by decide)).st (by omega)
theorem s_drop (H : rH n d pl c m hw L (h + 1) p1 l e dp ev x0 y0 x y) (N : rN d x) : aC rf i p 17 dep a b n d pl c m hw L l e dp x0 y0 x y := by
  have hd : d < 8 := H.2.2.2.2.2.2
  have h10 : h + 1 ≤ 8 := H.2.1.1
  obtain ⟨e1, H1⟩ := H.pop
  refine ⟨h, p1, ev, _, _, fun post hp => jx_arr (by omega) (by omega) (x_take H.2.1.2.1 (by omega) ?_), fun post hp => jm_17 hd H.2.1.2.2.1 hp, H1, N.st (by omega)⟩
  simp (disch := omega) only [wX2_arrange_j28, wX2_arrange_j57, qp_l, qp_eq]
  simp
  exact hp
theorem s_turn (H : rH n d pl c m hw L (h + 2) p1 l e dp ev x0 y0 x y) (N : rN d x) : aC rf i p 18 dep a b n d pl c m hw L l e dp x0 y0 x y := by
  have hd : d < 8 := H.2.2.2.2.2.2
  have h10 : h + 2 ≤ 8 := H.2.1.1
  obtain ⟨r, s, x', y', hx, hy, H', N'⟩ := two H N
  have H1 := H'.push (by omega) r
  have H2 := H1.push (by omega) s
  refine ⟨h + 2, p1, ev, _, _, fun post hp => jx_arr (by omega) (by omega) ?_, fun post hp => jm_rek (Or.inr rfl) (hy _ ?_), H2, ((((N'.stf (by decide)).st (by omega)).stf (by decide)).st (by omega))⟩
  · have := hx (fun r2 r4 s3 => wX1_put d r2 s3 (fun s5 => wX1_put d r4 s5 (fun s7 => post s7))) (x_put H'.2.1.2.1 (by omega) (x_put H1.2.1.2.1 (by omega) hp))
    simp (disch := omega) only [wX2_arrange, wX2_arrange_j28, wX2_arrange_j57, qp_l, qp_eq]
    simpa using this
  · simp (disch := omega) only [wX10_reckon_j30, qp_sw8, qp_l, qp_eq]
    simp
    exact m_push H'.2.1.2.2.1 hd (by omega) (m_push H1.2.1.2.2.1 hd (by omega) hp)
theorem s_give (H : rH n d pl c m hw L (h + 1) p1 l e dp ev x0 y0 x y) (N : rN d x) : aE rf i p 24 dep a b n d pl c m hw L l e dp x0 y0 x y := by
  have hd : d < 8 := H.2.2.2.2.2.2
  have h10 : h + 1 ≤ 8 := H.2.1.1
  obtain ⟨e1, H1⟩ := H.pop
  have T := H1.giv (N.st (by omega)) (x 13 d h)
  refine ⟨0, x 13 d h, h, p1, ev, _, _, fun post hp => jx_act (by omega) ?_, fun post hp => jm_give (m_pop H.2.1.2.2.1 hd (by omega) ?_), T.1, T.2⟩
  · refine ⟨fun h => absurd h (by decide), fun _ => x_take H.2.1.2.1 (by omega) ?_⟩
    refine ⟨fun h => absurd h (by decide), fun _ => ⟨fun h => absurd h (by decide), fun _ => ⟨fun h => absurd h (by decide), fun _ => x_giv hp⟩⟩⟩
  · rw [← e1]; exact hp
theorem s_throw (H : rH n d pl c m hw L h p1 l e dp ev x0 y0 x y) (N : rN d x) (ho : rOk 25 a b) : aE rf i p 25 dep a b n d pl c m hw L l e dp x0 y0 x y := by
  obtain ⟨q, q1, q2, rfl⟩ := ho.2.2.2.2 rfl
  have T := H.thr N (t := nI q) (nI_ne0 (by omega) (by omega)) 0
  refine ⟨nI q, 0, h, p1, ev, _, _, fun post hp => jx_act (by omega) ?_, fun post hp => jm_throw hp, T.1, T.2⟩
  exact ⟨fun _ => x_thr hp, fun h => absurd rfl h⟩
end QC2
