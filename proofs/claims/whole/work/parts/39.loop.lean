/-! a step, the loop, a frame -/
section QST
variable {WL : Nat → qx_St → Prop} {k cd n d pl c m L h p l e dp ev : Nat} {hw a b : Int32} {x0 y0 x y : qx_St}
theorem call_sim (hF : 1 ≤ k → FS WL k) (hkd : d + 1 + k = 8) (H : rH n d pl c m hw L h p l e dp ev x0 y0 x y) (N : rN d x) (c1 : 19 ≤ cd) (c2 : cd ≤ 21) (nf : ¬ noFit cd h) (ho : rOk cd a b) (he : e ≤ pl + (L - l)) : cC WL k cd a b n d pl c m hw L p l x0 y0 x y ∨ cE WL k cd a b n d pl c m hw L p l x0 y0 x y := by
  obtain ⟨⟨q, q8, rfl⟩, ⟨r, r4, rfl⟩⟩ := ho.2.2.1 (by omega)
  have hd : d < 8 := H.2.2.2.2.2.2
  have h8 : h ≤ 8 := H.2.1.1
  by_cases c21 : cd = 21
  · subst c21
    have t : tkN 21 = 2 ∧ ptN 21 = 1 := ⟨rfl, rfl⟩
    unfold noFit at nf
    obtain ⟨g, rfl⟩ : ∃ g, h = g + 1 + 1 := ⟨h - 2, by omega⟩
    obtain ⟨e1, H1⟩ := H.pop
    refine call_core (arg := x 13 d (g + 1)) (v := 0) hF hkd H1 (N.st (by omega)) c1 c2 (by omega) q8 r4 he (fun post hp => x_take H.2.1.2.1 (by omega) ⟨fun _ => hp, fun h => absurd rfl h⟩) (fun post hp => m_pop H.2.1.2.2.1 hd (by omega) ?_)
    rw [← e1]
    exact ⟨fun _ => hp, fun h => absurd rfl h⟩
  · have t : tkN cd = 3 := by rcases (show cd = 19 ∨ cd = 20 by omega) with rfl | rfl <;> rfl
    have n21 : ¬ nI cd = 21 := fun h => c21 ((nI_eq (b := 21) (by omega) (by omega)).mp h)
    unfold noFit at nf
    obtain ⟨g, rfl⟩ : ∃ g, h = g + 1 + 2 := ⟨h - 3, by omega⟩
    obtain ⟨r1, s1, x', y', hx, hy, H', N'⟩ := two H N
    refine call_core (arg := r1) (v := s1) hF hkd H' N' c1 c2 (by omega) q8 r4 he (fun post hp => ?_) (fun post hp => ?_)
    · have := hx (fun r2 r4 s3 => wX2_callOther_j20 (wRF k) d (nI cd) (nI q) (nI r) (nI (d + 1)) post (nI cd) (nI q) (nI r) (nI (d + 1)) r2 r4 s3) hp
      refine x_take H.2.1.2.1 (by omega) ⟨fun h => absurd h n21, fun _ => ?_⟩
      obtain ⟨-, H1⟩ := H.pop
      refine x_take H1.2.1.2.1 (by omega) ?_
      unfold wX1_take at this
      simp (disch := first | decide | omega) only [qp_fe, H.2.1.2.1, H1.2.1.2.1, qp_l, pk_sub, Nat.add_sub_cancel, qp_st_ff, qp_st_f, qp_in, nI_clamp, true_and] at this
      exact this
    · have := hy (fun r2 r4 s3 => wX10_callOut_j22 (nI d) (nI cd) (nI q) (nI r) post (nI d) (nI cd) (nI q) (nI r) r2 r4 s3) hp
      refine m_pop H.2.1.2.2.1 hd (by omega) ⟨fun h => absurd h n21, fun _ => ?_⟩
      obtain ⟨-, H1⟩ := H.pop
      refine m_pop H1.2.1.2.2.1 hd (by omega) ?_
      unfold wX10_pop at this
      simp (disch := first | decide | omega) only [qp_fe, H.2.1.2.2.1, H1.2.1.2.2.1, qp_l, pk_sub, pk_mul, nI_add, Nat.add_sub_cancel, qp_st_ff, qp_st_f, qp_in, nI_clamp, true_and] at this
      exact this
end QST
