/-! CALL, TRY, LOOK -/
/-- what a run of one frame is: the class's runFrame and the reference's way from enter to the frame's end -/
def FS (WL : Nat → qx_St → Prop) (k : Nat) : Prop := ∀ (n d c m L e dp ev pay : Nat) (arg v cal how rd : Int32) (x y : qx_St), d + k = 8 → rP n x y → rW n ev x y → rE e dp x y → rM n d x y → y 30 0 12 = nI d → bG d c m L arg v cal rd x → c < n → m < 4 → pC n pay cal → qx_vz rd → e + 1 + L ≤ 1001 → dp ≤ 8 →
  ∃ (t g : Int32) (u e' dp' ev' : Nat) (x' y' : qx_St), (∀ post : qx_St → Prop, post x' → wRF k (nI pay) (nI (d + 1)) x post) ∧ (∀ j, (∃ q, wX10_ends_j94 t g (WL j) (wX10_ends_l8 t g (WL j) q) t g t g 1 (nI d) (nI e) y') → ∃ j', wX10_enter (nI (4 * c + m)) arg v cal (nI L) how rd y (WL j')) ∧ rZ n d e L u e' dp' ev' t g x y x' y' ∧ y' 47 0 d = how ∧ e' ≤ e + 1 + u ∧ e < e' ∧ dp' ≤ 8 ∧ ev ≤ ev'
theorem lim_eq (l : Nat) (hl : l ≤ 1000) (r : Int32) : ∃ L', L' ≤ l ∧ (if nI l < (if r < 0 then 0 else r) then nI l else (if r < 0 then 0 else r)) = nI L' ∧ ((nI 0 ≤ r ∧ nI l ≤ r ∧ L' = l) ∨ (nI 0 ≤ r ∧ ¬ nI l ≤ r ∧ r = nI L') ∨ (¬ nI 0 ≤ r ∧ L' = 0)) := by
  by_cases h0 : r < 0
  · refine ⟨0, by omega, ?_, Or.inr (Or.inr ⟨Int32.not_le.mpr h0, rfl⟩)⟩
    rw [if_pos h0, if_neg (nI_pos (by omega))]; rfl
  · have h0' : nI 0 ≤ r := Int32.not_lt.mp h0
    obtain ⟨k, hk, rfl⟩ := nI_of h0
    rw [if_neg h0]
    rcases Nat.lt_or_ge l k with h1 | h1
    · refine ⟨l, Nat.le_refl _, ?_, Or.inl ⟨h0', nI_le (by omega) (by omega), rfl⟩⟩
      rw [if_pos (nI_lt h1 (by omega))]
    · rcases (show k = l ∨ k < l by omega) with rfl | h2
      · refine ⟨k, Nat.le_refl _, ?_, Or.inl ⟨h0', nI_le (Nat.le_refl _) (by omega), rfl⟩⟩
        rw [if_neg (nI_nlt (Nat.le_refl _) (by omega))]
      · refine ⟨k, by omega, ?_, Or.inr (Or.inl ⟨h0', nI_ge h2 (by omega), rfl⟩)⟩
        rw [if_neg (nI_nlt (by omega) (by omega))]
section QCX
variable {rf : Int32 → Int32 → qx_St → (qx_St → Prop) → Prop} {cd n d c l q r L' g : Nat} {p2 p3 p4 p5 arg v w rd : Int32} {x : qx_St} {post : qx_St → Prop}
/-- behind the called frame -/
def xAft (d cd : Nat) (post : qx_St → Prop) (s : qx_St) : Prop := wX1_used (d + 1) s (fun r19 s18 => wX1_hasThrown (d + 1) (qx_st s18 12 d 9 ((s 12 d 9) - r19)) (fun r23 s22 => ((r23 = nI 0 → wX2_answerGiven d (nI cd) (s22 12 (d + 1) 13) s22 (fun s24 => post s24)) ∧ (¬ (r23 = nI 0) → wX2_answerThrown d (nI cd) (s22 12 (d + 1) 12) s22 (fun s26 => post s26)))))
theorem j20_no (hh : x 12 d 1 = nI (g + 1)) (g8 : g < 8) (hy : ∀ post : Int32 → qx_St → Prop, post w (qx_st x 12 d 1 (nI g)) → wX2_whyNotEntered d (nI q) (nI r) v (nI (d + 1)) (qx_st x 12 d 1 (nI g)) post) (hw : ¬ w = 0) (ha : wX2_answerThrown d (nI cd) w (qx_st x 12 d 1 (nI g)) post) : wX2_callOther_j20 rf d p2 p3 p4 p5 post (nI cd) (nI q) (nI r) (nI (d + 1)) arg v x := by
  unfold wX2_callOther_j20
  refine x_take hh g8 (hy _ ?_)
  exact ⟨fun h => absurd h hw, fun _ => ha⟩
theorem j20_yes (hh : x 12 d 1 = nI (g + 1)) (g8 : g < 8) (hd : d + 1 < 8) (cd25 : cd ≤ 25) (hy : ∀ post : Int32 → qx_St → Prop, post 0 (qx_st x 12 d 1 (nI g)) → wX2_whyNotEntered d (nI q) (nI r) v (nI (d + 1)) (qx_st x 12 d 1 (nI g)) post) (h2 : x 12 d 2 = nI c) (h9 : x 12 d 9 = nI l) (hL : (if nI l < (if x 13 d g < 0 then 0 else x 13 d g) then nI l else (if x 13 d g < 0 then 0 else x 13 d g)) = nI L')
    (hrd : (x 12 d 7 = nI 0 ∧ ¬ cd = 21 ∧ rd = nI 0) ∨ ((¬ x 12 d 7 = nI 0 ∨ cd = 21) ∧ rd = nI 1)) (ha : rf (nI c) (nI (d + 2)) (xS (d + 1) q r L' arg v (nI c) rd (qx_st x 12 d 1 (nI g))) (xAft d cd post)) : wX2_callOther_j20 rf d p2 p3 p4 p5 post (nI cd) (nI q) (nI r) (nI (d + 1)) arg v x := by
  have dd : d ≠ d + 1 := by omega
  have v0 : qx_vz (nI 0) = True := eq_true (Or.inl rfl)
  have v1 : qx_vz (nI 1) = True := eq_true (Or.inr rfl)
  unfold wX2_callOther_j20
  refine x_take hh g8 (hy _ ?_)
  refine ⟨fun _ => ?_, fun h => absurd rfl h⟩
  unfold xS at ha
  have e9 : (qx_st x 12 d 1 (nI g)) 12 d 9 = nI l := by rw [qp_st_j (by decide)]; exact h9
  rw [e9, hL]
  simp (disch := first | decide | assumption | omega) only [qp_l, qp_in, nI_clamp, true_and, wX1_begin, qp_fe, qp_st_j, qp_st_i, h2, qp_eq]
  rcases hrd with ⟨k1, k2, rfl⟩ | ⟨k1, rfl⟩
  · simp (disch := first | decide | assumption | omega) only [k1, k2, true_imp_iff, not_true, not_false_iff, false_imp_iff, true_and, and_true, wX2_callOther_j118, v0, qp_fe, qp_l, nI_add, qp_st_i, qp_st_j, h2]
    exact ha
  · by_cases k3 : x 12 d 7 = nI 0
    · have k2 := k1.resolve_left (fun h => h k3)
      simp (disch := first | decide | assumption | omega) only [k2, k3, true_imp_iff, not_true, not_false_iff, false_imp_iff, true_and, and_true, wX2_callOther_j113, wX2_callOther_j118, v1, qp_fe, qp_l, nI_add, qp_st_i, qp_st_j, h2]
      rw [k2] at ha
      exact ha
    · simp (disch := first | decide | assumption | omega) only [k3, true_imp_iff, not_true, not_false_iff, false_imp_iff, true_and, and_true, wX2_callOther_j113, wX2_callOther_j118, v1, qp_fe, qp_l, nI_add, qp_st_i, qp_st_j, h2]
      exact ha
theorem m22_no {y : qx_St} (hh : y 46 0 d = nI (g + 1)) (hd : d < 8) (g8 : g < 8) (hy : ∀ post : Int32 → qx_St → Prop, post w (qx_st y 46 0 d (nI g)) → wX10_shut (nI d) (nI q) (nI r) v (qx_st y 46 0 d (nI g)) post) (hw : ¬ w = 0) (cd25 : cd ≤ 25) (ha : (cd = 20 → wX10_push (nI d) w (qx_st y 46 0 d (nI g)) (fun s => wX10_push (nI d) (nI 0) s post)) ∧ (¬ cd = 20 → wX10_ends w 0 (qx_st y 46 0 d (nI g)) post)) : wX10_callOut_j22 p2 p3 p4 p5 post (nI d) (nI cd) (nI q) (nI r) arg v y := by
  unfold wX10_callOut_j22
  refine m_pop hh hd g8 (hy _ ?_)
  refine ⟨fun h => absurd h hw, fun _ => ?_⟩
  have e20 : (nI cd = (20 : Int32)) = (cd = 20) := qp_eq (b := 20) (by omega) (by omega)
  rw [e20]
  exact ha
theorem m22_yes {m : Nat} {y : qx_St} (hh : y 46 0 d = nI (g + 1)) (hd : d < 8) (g8 : g < 8) (q8 : q < 8) (r4 : r < 4) (m4 : m < 4) (c8 : c < 8) (hy : ∀ post : Int32 → qx_St → Prop, post 0 (qx_st y 46 0 d (nI g)) → wX10_shut (nI d) (nI q) (nI r) v (qx_st y 46 0 d (nI g)) post) (cd25 : cd ≤ 25) (h39 : y 39 0 d = nI (4 * c + m)) (h43 : y 43 0 d = nI l) (hl : l ≤ 1000)
    (hL : (nI 0 ≤ y 50 0 (8 * d + g) ∧ nI l ≤ y 50 0 (8 * d + g) ∧ L' = l) ∨ (nI 0 ≤ y 50 0 (8 * d + g) ∧ ¬ nI l ≤ y 50 0 (8 * d + g) ∧ y 50 0 (8 * d + g) = nI L') ∨ (¬ nI 0 ≤ y 50 0 (8 * d + g) ∧ L' = 0))
    (hrd : (y 49 0 d = nI 0 ∧ ¬ cd = 21 ∧ rd = nI 0) ∨ ((¬ y 49 0 d = nI 0 ∨ cd = 21) ∧ rd = nI 1)) (ha : wX10_enter (nI (4 * q + r)) arg v (nI c) (nI L') (nI cd) rd (qx_st y 46 0 d (nI g)) post) : wX10_callOut_j22 p2 p3 p4 p5 post (nI d) (nI cd) (nI q) (nI r) arg v y := by
  have ed : nI (4 * c + m) / nI 4 = nI c := by rw [pk_div (by omega) (by omega) (by omega)]; congr 1; omega
  have fin : ∀ b0 a7 a8 : Int32, b0 = nI L' → wX10_callOut_j79 p2 p3 p4 p5 post (nI d) (nI cd) (nI q) (nI r) arg v a7 a8 b0 (qx_st y 46 0 d (nI g)) := by
    rintro b0 a7 a8 rfl
    rcases hrd with ⟨k1, k2, rfl⟩ | ⟨k1, rfl⟩
    · simp (disch := first | decide | assumption | omega) only [wX10_callOut_j79, qp_in, nI_clamp, qp_l, qp_st_f, k1, k2, h39, ed, pk_mul, nI_add, qp_eq, true_imp_iff, not_true, not_false_iff, false_imp_iff, true_and, and_true]
      exact ha
    · by_cases k3 : y 49 0 d = nI 0
      · have k2 := k1.resolve_left (fun h => h k3)
        simp (disch := first | decide | assumption | omega) only [wX10_callOut_j79, qp_in, nI_clamp, qp_l, qp_st_f, k3, k2, h39, ed, pk_mul, nI_add, qp_eq, true_imp_iff, not_true, not_false_iff, false_imp_iff, true_and, and_true]
        rw [k2] at ha
        exact ha
      · simp (disch := first | decide | assumption | omega) only [wX10_callOut_j79, qp_in, nI_clamp, qp_l, qp_st_f, k3, h39, ed, pk_mul, nI_add, qp_eq, true_imp_iff, not_true, not_false_iff, false_imp_iff, true_and, and_true]
        exact ha
  have e43 : (qx_st y 46 0 d (nI g)) 43 0 d = nI l := by rw [qp_st_f (by decide)]; exact h43
  unfold wX10_callOut_j22
  refine m_pop hh hd g8 (hy _ ?_)
  refine ⟨fun _ => ?_, fun h => absurd rfl h⟩
  simp (disch := first | decide | omega) only [qp_l, qp_in, nI_clamp, e43, true_and]
  rcases hL with ⟨l1, l2, l3⟩ | ⟨l1, l2, l3⟩ | ⟨l1, l2⟩
  · exact ⟨fun _ => ⟨fun _ => fin _ _ _ (by rw [l3]), fun h => absurd l2 h⟩, fun h => absurd l1 h⟩
  · exact ⟨fun _ => ⟨fun h => absurd h l2, fun _ => fin _ _ _ l3⟩, fun h => absurd l1 h⟩
  · exact ⟨fun h => absurd h l1, fun _ => fin _ _ _ (by rw [l2])⟩
end QCX
