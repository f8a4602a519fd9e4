/-! a frame calls another: before and behind -/
def xS (D c m L : Nat) (arg v cal rd : Int32) (x : qx_St) : qx_St := qx_st (qx_st (qx_st (qx_st (qx_st (qx_st (qx_st (qx_st (qx_st (qx_st (qx_st (qx_st (qx_st x 12 D 2 (nI c)) 12 D 3 (nI m)) 12 D 4 arg) 12 D 5 v) 12 D 8 (nI L)) 12 D 9 (nI L)) 12 D 1 (nI 0)) 12 D 10 (nI 0)) 12 D 11 (nI 0)) 12 D 12 (nI 0)) 12 D 13 (nI 0)) 12 D 6 cal) 12 D 7 rd
theorem xS_f {D c m L f : Nat} {arg v cal rd : Int32} {x : qx_St} (h : f ≠ 12) : xS D c m L arg v cal rd x f = x f := by
  unfold xS
  simp (disch := assumption) only [qp_st_f]
theorem xS_k {D c m L k : Nat} {arg v cal rd : Int32} {x : qx_St} (h : k ≠ D) : xS D c m L arg v cal rd x 12 k = x 12 k := by
  unfold xS
  simp (disch := assumption) only [qp_st_i]
theorem xS_b {D c m L : Nat} {arg v cal rd : Int32} {x : qx_St} : bG D c m L arg v cal rd (xS D c m L arg v cal rd x) := by
  unfold bG xS
  simp (disch := decide) only [qp_st_j, qp_st_ff, true_and]
  exact ⟨rfl, rfl, rfl⟩
section QBK
variable {n d pl c m L g p l e dp ev u e' dp' ev' q r L' : Nat} {hw arg v rd t gv : Int32} {x0 y0 x1 y1 x5 y5 : qx_St}
theorem back_rel (H : rH n d pl c m hw L g p l e dp ev x0 y0 x1 y1) (Z : rZ n (d + 1) e L' u e' dp' ev' t gv (xS (d + 1) q r L' arg v (nI c) rd x1) y1 x5 y5) (hul : u ≤ l) (he : e ≤ pl + (L - l)) (he' : e' ≤ e + 1 + u) (hee : e < e') (hdp' : dp' ≤ 8) (hev : ev ≤ ev') : rH n d pl c m hw L g p (l - u) e' dp' ev' x0 y0 (qx_st x5 12 d 9 (nI (l - u))) (qx_st (qx_st y5 44 0 d (nI (L - l + u))) 43 0 d (nI (l - u))) ∧ x5 12 d = x1 12 d ∧ y5 43 0 d = y1 43 0 d ∧ y5 44 0 d = y1 44 0 d := by
  obtain ⟨⟨hP, hW, hS, hE, hO, hM, hA, hfx, hfy⟩, hT, h1, h2, h3, h4, hd⟩ := H
  obtain ⟨zP, zW, zE, zO, zM, zX, zY, zD, z1, z2, z3, z4, z5⟩ := Z
  have n8 := hP.1
  obtain ⟨fx1, fx2, fx3, fx4, fx5, fx6, fx7, fx8, fx9⟩ := zX
  obtain ⟨fy1, fy2, fy3, fy4, fy5, fy6, fy7, fy8, fy9, fy10, fy11, fy12⟩ := zY
  -- frame d as it was
  have xd : x5 12 d = x1 12 d := by rw [(fx1 d (by omega)).1]; exact xS_k (by omega)
  have xk : ∀ k, k < d + 1 → x5 12 k = x1 12 k ∧ x5 13 k = x1 13 k ∧ x5 14 k = x1 14 k ∧ x5 15 k = x1 15 k ∧ x5 16 k = x1 16 k := fun k hk => by
    obtain ⟨a1, a2, a3, a4, a5⟩ := fx1 k hk
    rw [a1, a2, a3, a4, a5]
    exact ⟨xS_k (by omega), by rw [xS_f (by decide)], by rw [xS_f (by decide)], by rw [xS_f (by decide)], by rw [xS_f (by decide)]⟩
  have x8 : ∀ z, z < 7 * e → x5 8 0 z = x1 8 0 z := fun z hz => by rw [fx9 z hz, xS_f (by decide)]
  obtain ⟨d39, d40, d41, d42, d43, d44, d45, d46, d47, d48, d49, d54, d55⟩ := fy1 d (by omega)
  generalize hx6 : qx_st x5 12 d 9 (nI (l - u)) = x6
  generalize hy6 : qx_st (qx_st y5 44 0 d (nI (L - l + u))) 43 0 d (nI (l - u)) = y6
  have gx : ∀ f, f ≠ 12 → x6 f = x5 f := fun f hf => by rw [← hx6]; exact qp_st_f hf
  have gxk : ∀ k, k ≠ d → x6 12 k = x5 12 k := fun k hk => by rw [← hx6]; exact qp_st_i hk
  have gxj : ∀ j, j ≠ 9 → x6 12 d j = x1 12 d j := fun j hj => by rw [← hx6, qp_st_j hj, xd]
  have gx9 : x6 12 d 9 = nI (l - u) := by rw [← hx6]; exact qp_st_ff _ _ _ _ _
  have gy : ∀ f, f ≠ 43 → f ≠ 44 → y6 f = y5 f := fun f h1 h2 => by rw [← hy6, qp_st_f h1, qp_st_f h2]
  have gy43 : y6 43 0 d = nI (l - u) := by rw [← hy6]; exact qp_st_ff _ _ _ _ _
  have gy44 : y6 44 0 d = nI (L - l + u) := by rw [← hy6, qp_st_f (by decide)]; exact qp_st_ff _ _ _ _ _
  have gyk : ∀ k, k ≠ d → y6 43 0 k = y5 43 0 k ∧ y6 44 0 k = y5 44 0 k := fun k hk => by
    rw [← hy6]
    exact ⟨by rw [qp_st_j hk, qp_st_f (by decide)], by rw [qp_st_f (by decide), qp_st_j hk]⟩
  obtain ⟨t1, t2, t3, t4, t5, t6, t7, t8, t9, t10, t11, t12, t13⟩ := hT
  refine ⟨⟨⟨?_, ?_, ?_, ?_, ?_, ?_, ?_, ?_, ?_⟩, ?_, by omega, h2, hdp', by omega, hd⟩, xd, d43, d44⟩
  · exact zP.cg (gx 1 (by decide)) (gx 17 (by decide)) (gx 18 (by decide)) (gx 19 (by decide)) (gx 20 (by decide)) (by rw [gy 30 (by decide) (by decide)]) (gy 34 (by decide) (by decide)) (gy 35 (by decide) (by decide)) (gy 36 (by decide) (by decide)) (gy 37 (by decide) (by decide)) (gy 38 (by decide) (by decide))
  · exact zW.cg (gx 3 (by decide)) (gx 4 (by decide)) (gx 5 (by decide)) (gx 6 (by decide)) (by rw [gy 30 (by decide) (by decide)]) (by rw [gy 30 (by decide) (by decide)]) (by rw [gy 30 (by decide) (by decide)]) (gy 31 (by decide) (by decide)) (gy 32 (by decide) (by decide)) (gy 33 (by decide) (by decide)) (gy 56 (by decide) (by decide)) (gy 57 (by decide) (by decide)) (gy 58 (by decide) (by decide)) (gy 59 (by decide) (by decide))
  · have hS' : rS n ev' d x1 y1 := by
      obtain ⟨s1, s2, s3, s4, s5, s6, ⟨k, k1, k2⟩, s8⟩ := hS
      exact ⟨s1, s2, s3, s4, s5, s6, ⟨k, by omega, k2⟩, s8⟩
    obtain ⟨-, -, b3, b4, b5⟩ := xk d (by omega)
    refine hS'.cg (by rw [gx 14 (by decide)]; exact b3) (by rw [gx 15 (by decide)]; exact b4) (by rw [gx 16 (by decide)]; exact b5) (by rw [gy 30 (by decide) (by decide)]; exact fy11 3 (by decide) (by decide) (by decide) (by decide) (by decide)) (fun z hz => by rw [gy 51 (by decide) (by decide)]; exact fy3 _ (by omega)) (fun z hz => by rw [gy 52 (by decide) (by decide)]; exact fy4 _ (by omega)) (fun z hz => by rw [gy 53 (by decide) (by decide)]; exact (fy2 _ (by omega)).2) (by rw [gy 54 (by decide) (by decide)]; exact d54) (by rw [gy 55 (by decide) (by decide)]; exact d55) n8
  · exact zE.cg (by rw [gx 7 (by decide)]) (by rw [gx 7 (by decide)]) (by rw [gy 30 (by decide) (by decide)]) (by rw [gy 30 (by decide) (by decide)])
  · intro k k1 k2 k3
    rcases Nat.lt_or_ge k e with hk | hk
    · have := hO k k1 hk k3
      unfold rRow at this ⊢
      obtain ⟨r1, r2, r3, r4, r5, r6⟩ := fy12 k hk
      rw [gx 8 (by decide), gy 60 (by decide) (by decide), gy 61 (by decide) (by decide), gy 62 (by decide) (by decide), gy 63 (by decide) (by decide), gy 64 (by decide) (by decide), gy 65 (by decide) (by decide), r1, r2, r3, r4, r5, r6, x8 (7 * k) (by omega), x8 (7 * k + 1) (by omega), x8 (7 * k + 2) (by omega), x8 (7 * k + 3) (by omega), x8 (7 * k + 4) (by omega), x8 (7 * k + 5) (by omega), x8 (7 * k + 6) (by omega)]
      exact this
    · have := zO k hk k2 k3
      unfold rRow at this ⊢
      rw [gx 8 (by decide), gy 60 (by decide) (by decide), gy 61 (by decide) (by decide), gy 62 (by decide) (by decide), gy 63 (by decide) (by decide), gy 64 (by decide) (by decide), gy 65 (by decide) (by decide)]
      exact this
  · exact hM.cg (fun k hk => by rw [gxk k (by omega)]; exact (xk k (by omega)).1) (fun k hk => by rw [gy 39 (by decide) (by decide)]; exact (fy1 k (by omega)).1)
  · unfold rA at hA ⊢
    rw [gxj 2 (by decide), gxj 3 (by decide), gxj 4 (by decide), gxj 5 (by decide), gxj 6 (by decide), gxj 7 (by decide), gy 39 (by decide) (by decide), gy 40 (by decide) (by decide), gy 41 (by decide) (by decide), gy 42 (by decide) (by decide), gy 49 (by decide) (by decide), gy 48 (by decide) (by decide), gy 47 (by decide) (by decide), gy 30 (by decide) (by decide), gy 60 (by decide) (by decide), gy 61 (by decide) (by decide), gy 65 (by decide) (by decide), d39, d40, d41, d42, d47, d48, d49, z5]
    obtain ⟨r1, r2, -, -, -, r6⟩ := fy12 pl (by omega)
    rw [r1, r2, r6]
    obtain ⟨a1, a2, a3, a4, a5, a6, a7, a8, a9, a10, a11, a12, a13⟩ := hA
    exact ⟨a1, a2, a3, a4, a5, a6, a7, a8, a9, a10, a11, rfl, a13⟩
  · refine ⟨?_, ?_⟩
    · refine hfx.1.trans (d' := d) (pl' := pl) ⟨fun k hk => ?_, ?_, ?_, ?_, ?_, ?_, fun f hf => ?_, fun j j6 j7 => ?_, fun z hz => ?_⟩ (Nat.le_refl _) (Nat.le_refl _)
      · obtain ⟨b1, b2, b3, b4, b5⟩ := xk k (by omega)
        rw [gxk k (by omega), gx 13 (by decide), gx 14 (by decide), gx 15 (by decide), gx 16 (by decide)]
        exact ⟨b1, b2, b3, b4, b5⟩
      · rw [gx 1 (by decide), fx2, xS_f (by decide)]
      · rw [gx 17 (by decide), fx3, xS_f (by decide)]
      · rw [gx 18 (by decide), fx4, xS_f (by decide)]
      · rw [gx 19 (by decide), fx5, xS_f (by decide)]
      · rw [gx 20 (by decide), fx6, xS_f (by decide)]
      · rw [gx f (by omega), fx7 f hf, xS_f (by omega)]
      · rw [gx 7 (by decide), fx8 j j6 j7, xS_f (by decide)]
      · rw [gx 8 (by decide)]; exact x8 z (by omega)
    · rw [gx 14 (by decide), (xk d (by omega)).2.2.1]; exact hfx.2
  · refine hfy.trans (d' := d) (pl' := pl) ⟨fun k hk => ?_, fun z hz => ?_, fun z hz => ?_, fun z hz => ?_, ?_, ?_, ?_, ?_, ?_, fun f hf => ?_, fun j j1 j2 j3 j4 j5 => ?_, fun z hz => ?_⟩ (Nat.le_refl _) (Nat.le_refl _)
    · obtain ⟨k39, k40, k41, k42, k43, k44, k45, k46, k47, k48, k49, k54, k55⟩ := fy1 k (by omega)
      obtain ⟨m43, m44⟩ := gyk k (by omega)
      rw [m43, m44, gy 39 (by decide) (by decide), gy 40 (by decide) (by decide), gy 41 (by decide) (by decide), gy 42 (by decide) (by decide), gy 45 (by decide) (by decide), gy 46 (by decide) (by decide), gy 47 (by decide) (by decide), gy 48 (by decide) (by decide), gy 49 (by decide) (by decide), gy 54 (by decide) (by decide), gy 55 (by decide) (by decide)]
      exact ⟨k39, k40, k41, k42, k43, k44, k45, k46, k47, k48, k49, k54, k55⟩
    · rw [gy 50 (by decide) (by decide), gy 53 (by decide) (by decide)]; exact fy2 z (by omega)
    · rw [gy 51 (by decide) (by decide)]; exact fy3 z (by omega)
    · rw [gy 52 (by decide) (by decide)]; exact fy4 z (by omega)
    · rw [gy 34 (by decide) (by decide)]; exact fy5
    · rw [gy 35 (by decide) (by decide)]; exact fy6
    · rw [gy 36 (by decide) (by decide)]; exact fy7
    · rw [gy 37 (by decide) (by decide)]; exact fy8
    · rw [gy 38 (by decide) (by decide)]; exact fy9
    · rw [gy f (by omega) (by omega)]; exact fy10 f hf
    · rw [gy 30 (by decide) (by decide)]; exact fy11 j j1 j2 j3 j4 j5
    · rw [gy 60 (by decide) (by decide), gy 61 (by decide) (by decide), gy 62 (by decide) (by decide), gy 63 (by decide) (by decide), gy 64 (by decide) (by decide), gy 65 (by decide) (by decide)]; exact fy12 z (by omega)
  · refine ⟨t1, by rw [gxj 1 (by decide)]; exact t2, by rw [gy 46 (by decide) (by decide), d46]; exact t3, fun j hj => ?_, t5, by rw [gxj 10 (by decide)]; exact t6, by rw [gy 45 (by decide) (by decide), d45]; exact t7, by omega, t9, gx9, gy43, by rw [gxj 8 (by decide)]; exact t12, by rw [gy44]; congr 1; omega⟩
    rw [gx 13 (by decide), (xk d (by omega)).2.1, gy 50 (by decide) (by decide), (fy2 (8 * d + j) (by omega)).1]
    exact t4 j hj
end QBK
