/-! the class's and the reference's ways by the code -/
section QJ
variable {rf : Int32 → Int32 → qx_St → (qx_St → Prop) → Prop} {d i p c : Nat} {dep a b : Int32} {x y : qx_St} {post : qx_St → Prop}
theorem jx_num (hc : c ≤ 6) (hw : wX2_numberFor d (nI c) a x (fun r s => wX1_put d r s post)) : wX2_doStep_j70 rf d i dep post dep (nI p) (nI c) a x := by
  have h1 : (6 < c) = False := eq_false (by omega)
  simp (disch := omega) only [wX2_doStep_j70, qp_l, qp_lt, h1, false_imp_iff, true_and, not_false_iff, true_imp_iff]
  exact hw
theorem jx_comb (h8 : 8 ≤ c) (hc : c ≤ 13) (hw : wX2_combine d (nI c) x post) : wX2_doStep_j70 rf d i dep post dep (nI p) (nI c) a x := by
  have h1 : (6 < c) = True := eq_true (by omega)
  have h2 : (c < 8) = False := eq_false (by omega)
  have h3 : (13 < c) = False := eq_false (by omega)
  simp (disch := omega) only [wX2_doStep_j70, qp_l, qp_lt, h1, h2, h3, false_imp_iff, true_and, not_false_iff, not_true, true_imp_iff, and_true]
  exact hw
theorem jx_arr (h8 : 14 ≤ c) (hc : c ≤ 18) (hw : wX2_arrange d (nI c) a x post) : wX2_doStep_j70 rf d i dep post dep (nI p) (nI c) a x := by
  have h1 : (6 < c) = True := eq_true (by omega)
  have h2 : (c < 8) = False := eq_false (by omega)
  have h3 : (13 < c) = True := eq_true (by omega)
  have h4 : (c < 14) = False := eq_false (by omega)
  have h5 : (18 < c) = False := eq_false (by omega)
  simp (disch := omega) only [wX2_doStep_j70, wX2_doStep_j116, qp_l, qp_lt, h1, h2, h3, h4, h5, false_imp_iff, true_and, not_false_iff, not_true, true_imp_iff, and_true]
  exact hw
theorem jx_call (h8 : 19 ≤ c) (hc : c ≤ 21) (hp : p < 20) (hw : wX2_callOther rf d (nI c) a (x 20 i p) dep x post) : wX2_doStep_j70 rf d i dep post dep (nI p) (nI c) a x := by
  have h1 : (6 < c) = True := eq_true (by omega)
  have h2 : (c < 8) = False := eq_false (by omega)
  have h3 : (13 < c) = True := eq_true (by omega)
  have h4 : (c < 14) = False := eq_false (by omega)
  have h5 : (18 < c) = True := eq_true (by omega)
  have h6 : (c < 19) = False := eq_false (by omega)
  have h7 : (21 < c) = False := eq_false (by omega)
  simp (disch := omega) only [wX2_doStep_j70, wX2_doStep_j116, wX2_doStep_j141, qp_l, qp_lt, h1, h2, h3, h4, h5, h6, h7, false_imp_iff, true_and, not_false_iff, not_true, true_imp_iff, and_true, qp_in, nI_clamp]
  exact hw
theorem jx_act (hc : c = 7 ∨ (22 ≤ c ∧ c ≤ 25)) (hw : wX2_act d (nI c) a dep x post) : wX2_doStep_j70 rf d i dep post dep (nI p) (nI c) a x := by
  have h1 : (6 < c) = True := eq_true (by omega)
  rcases hc with rfl | ⟨h8, hc⟩
  · simp (disch := omega) only [wX2_doStep_j70, wX2_doStep_j116, wX2_doStep_j141, qp_l, qp_lt]
    simp
    exact hw
  · have h2 : (c < 8) = False := eq_false (by omega)
    have h3 : (13 < c) = True := eq_true (by omega)
    have h4 : (c < 14) = False := eq_false (by omega)
    have h5 : (18 < c) = True := eq_true (by omega)
    have h6 : (c < 19) = False := eq_false (by omega)
    have h7 : (21 < c) = True := eq_true (by omega)
    simp (disch := omega) only [wX2_doStep_j70, wX2_doStep_j116, wX2_doStep_j141, qp_l, qp_lt, h1, h2, h3, h4, h5, h6, h7, false_imp_iff, true_and, not_false_iff, not_true, true_imp_iff, and_true]
    exact hw
theorem jm_num (hc : c ≤ 6) (hw : wX10_gives (nI d) (nI c) a y (fun r s => wX10_push (nI d) r s post)) : wX10_act (nI d) (nI c) a b y post := by
  have h1 : (7 ≤ c) = False := eq_false (by omega)
  simp (disch := omega) only [wX10_act, qp_l, qp_le, h1, false_imp_iff, true_and, not_false_iff, true_imp_iff]
  exact hw
theorem jm_rek (hc : (8 ≤ c ∧ c ≤ 13) ∨ c = 18) (hw : wX10_reckon (nI d) (nI c) y post) : wX10_act (nI d) (nI c) a b y post := by
  rcases (show c = 8 ∨ c = 9 ∨ c = 10 ∨ c = 11 ∨ c = 12 ∨ c = 13 ∨ c = 18 by omega) with rfl | rfl | rfl | rfl | rfl | rfl | rfl <;> (simp (disch := omega) only [wX10_act, qp_sw7, qp_l, qp_le, qp_eq]; simp; exact hw)
theorem jm_save (hw : wX10_save (nI d) a y post) : wX10_act (nI d) (nI 7) a b y post := by
  simp (disch := omega) only [wX10_act, qp_sw7, qp_l, qp_le, qp_eq]; simp; exact hw
theorem jm_tell (hw : wX10_tell (nI d) a y post) : wX10_act (nI d) (nI 22) a b y post := by
  simp (disch := omega) only [wX10_act, qp_sw7, qp_l, qp_le, qp_eq]; simp; exact hw
theorem jm_send (hw : wX10_send (nI d) a y post) : wX10_act (nI d) (nI 23) a b y post := by
  simp (disch := omega) only [wX10_act, qp_sw7, qp_l, qp_le, qp_eq]; simp; exact hw
theorem jm_give (hw : wX10_pop (nI d) y (fun r s => wX10_ends 0 r s post)) : wX10_act (nI d) (nI 24) a b y post := by
  simp (disch := omega) only [wX10_act, qp_sw7, qp_l, qp_le, qp_eq]; simp; exact hw
theorem jm_throw (hw : wX10_ends a 0 y post) : wX10_act (nI d) (nI 25) a b y post := by
  simp (disch := omega) only [wX10_act, qp_sw7, qp_l, qp_le, qp_eq]; simp; exact hw
theorem jm_call (h8 : 19 ≤ c) (hc : c ≤ 21) (hw : wX10_callOut (nI d) (nI c) a b y post) : wX10_act (nI d) (nI c) a b y post := by
  rcases (show c = 19 ∨ c = 20 ∨ c = 21 by omega) with rfl | rfl | rfl <;> (simp (disch := omega) only [wX10_act, qp_sw7, qp_l, qp_le, qp_eq]; simp; exact hw)
theorem jm_14 (hd : d < 8) (hw : wX10_pop (nI d) y (fun r s => (r = nI 0 → post (qx_st s 45 0 d (y 45 0 d + a))) ∧ (¬ r = nI 0 → post (qx_st s 45 0 d (y 45 0 d + nI 0))))) : wX10_act (nI d) (nI 14) a b y post := by
  simp (disch := omega) only [wX10_act, qp_sw7, qp_l, qp_le, qp_eq, Nat.reduceLeDiff, Nat.reduceEqDiff, Nat.reduceAdd, Nat.reduceLT, or_self, false_imp_iff, true_and, true_imp_iff, not_true, and_true, qp_in, nI_clamp, qp_fe]
  exact hw
theorem jm_15 (hd : d < 8) (hw : wX10_pop (nI d) y (fun r s => (r = nI 0 → post (qx_st s 45 0 d (s 45 0 d))) ∧ (¬ r = nI 0 → (nI 0 ≤ y 45 0 d - nI 1 - a → post (qx_st s 45 0 d (y 45 0 d - nI 1 - a))) ∧ (¬ nI 0 ≤ y 45 0 d - nI 1 - a → post (qx_st s 45 0 d (nI 0)))))) : wX10_act (nI d) (nI 15) a b y post := by
  simp (disch := omega) only [wX10_act, qp_sw7, qp_l, qp_le, qp_eq, Nat.reduceLeDiff, Nat.reduceEqDiff, Nat.reduceAdd, Nat.reduceLT, or_self, false_imp_iff, true_and, true_imp_iff, not_true, and_true, qp_in, nI_clamp, qp_fe]
  exact hw
theorem jm_16 {h : Nat} (hd : d < 8) (h8 : h < 8) (g1 : y 46 0 d = nI (h + 1)) (hw : wX10_push (nI d) (y 50 0 (8 * d + h)) y post) : wX10_act (nI d) (nI 16) a b y post := by
  have e : 8 * d + (h + 1) - 1 = 8 * d + h := by omega
  simp (disch := omega) only [wX10_act, qp_sw7, qp_l, qp_le, qp_eq, Nat.reduceLeDiff, Nat.reduceEqDiff, Nat.reduceAdd, Nat.reduceLT, or_self, false_imp_iff, true_and, true_imp_iff, not_true, and_true, qp_in, nI_clamp, qp_fe, g1, pk_mul, nI_add, pk_sub, e]
  exact hw
theorem jm_17 {h : Nat} (hd : d < 8) (g1 : y 46 0 d = nI (h + 1)) (hw : post (qx_st y 46 0 d (nI h))) : wX10_act (nI d) (nI 17) a b y post := by
  simp (disch := omega) only [wX10_act, qp_sw7, qp_l, qp_le, qp_eq, Nat.reduceLeDiff, Nat.reduceEqDiff, Nat.reduceAdd, Nat.reduceLT, or_self, false_imp_iff, true_and, true_imp_iff, not_true, and_true, qp_in, nI_clamp, qp_fe, g1, pk_sub, Nat.add_sub_cancel]
  exact hw
end QJ
