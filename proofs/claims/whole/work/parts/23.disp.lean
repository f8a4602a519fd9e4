/-! what a step does, by its code -/
abbrev yDec (d l u p : Nat) (y : qx_St) : qx_St := qx_st (qx_st (qx_st y 43 0 d (nI l)) 44 0 d (nI u)) 45 0 d (nI (p + 1))
abbrev xDec (d l p : Nat) (x : qx_St) : qx_St := qx_st (qx_st x 12 d 9 (nI l)) 12 d 10 (nI (p + 1))
abbrev xThr (d : Nat) (t : Int32) (x : qx_St) : qx_St := qx_st (qx_st x 12 d 11 1) 12 d 12 t
abbrev xGiv (d : Nat) (g : Int32) (x : qx_St) : qx_St := qx_st (qx_st x 12 d 11 1) 12 d 13 g
def noFit (c h : Nat) : Prop := h < tkN c ∨ 8 + tkN c < h + ptN c
theorem x_thr {d : Nat} {t : Int32} {x : qx_St} {post : qx_St → Prop} (hp : post (xThr d t x)) : wX1_endThrowing d t x post := by
  simp only [wX1_endThrowing, qp_fe]; exact hp
theorem x_giv {d : Nat} {t : Int32} {x : qx_St} {post : qx_St → Prop} (hp : post (xGiv d t x)) : wX1_endGiving d t x post := by
  simp only [wX1_endGiving, qp_fe]; exact hp
/-- the reference's step, with its code's three ways -/
theorem m_go {d i p k l u h c : Nat} {y : qx_St} {post : qx_St → Prop} (hd : d < 8) (hi : i < 32) (g1 : y 30 0 12 = nI (d + 1)) (g2 : y 39 0 d = nI i) (g3 : y 45 0 d = nI p) (g4 : y 34 0 i = nI k) (g5 : y 43 0 d = nI (l + 1)) (g6 : y 44 0 d = nI u) (g7 : y 36 0 (20 * i + p) = nI c) (g8 : y 46 0 d = nI h) (hp : p < k) (hk : k ≤ 20) (hl : l ≤ 1000) (hc : c ≤ 25) (hh : h ≤ 8)
    (hw : (noFit c h ∧ wX10_ends 8 0 (yDec d l (u + 1) p y) post) ∨ (¬ noFit c h ∧ ¬ y 49 0 d = 0 ∧ (c = 7 ∨ c = 22 ∨ c = 23) ∧ wX10_ends 2 0 (yDec d l (u + 1) p y) post) ∨ (¬ noFit c h ∧ (y 49 0 d = 0 ∨ (c ≠ 7 ∧ c ≠ 22 ∧ c ≠ 23)) ∧ wX10_act (nI d) (nI c) (y 37 0 (20 * i + p)) (y 38 0 (20 * i + p)) (yDec d l (u + 1) p y) post)) : wX10_oneStep y post := by
  have e2 : (nI (l + 1) = nI 0) = False := eq_false (nI_ne0 (by omega) (by omega))
  obtain ⟨f1, f2, f3, f4⟩ := x_tkI hc
  simp (disch := first | decide | omega) only [wX10_oneStep, g1, pk_sub, Nat.add_sub_cancel, qp_in, nI_clamp, g2, g3, g4, g5, e2, qp_lt, hp, true_and, not_true, not_false_iff, false_imp_iff, true_imp_iff, and_true, qp_fe, qp_st_f, qp_st_ff, g6, nI_1, qp_l, pk_mul, nI_add, g7, g8]
  refine m_takes hc ?_
  rcases Nat.lt_or_ge h (tkN c) with h1 | h1
  · simp (disch := first | decide | omega) only [qp_lt, h1, true_imp_iff, not_true, false_imp_iff, and_true]
    rcases hw with hw | hw | hw
    · exact hw.2
    · exact absurd (Or.inl h1) hw.1
    · exact absurd (Or.inl h1) hw.1
  · have h1' : ¬ h < tkN c := by omega
    simp (disch := first | decide | omega) only [qp_lt, h1', true_imp_iff, not_false_iff, false_imp_iff, true_and]
    refine m_takes hc ?_
    refine m_leaves hc ?_
    have e5 : nI h - nI (tkN c) + nI (ptN c) = nI (h - tkN c + ptN c) := by rw [pk_sub (by omega), nI_add]
    simp (disch := decide) only [qp_st_f, g8]
    rw [e5]
    by_cases h2 : h - tkN c + ptN c ≤ 8
    · have nf : ¬ noFit c h := by unfold noFit; omega
      simp (disch := first | decide | omega) only [qp_le, h2, true_imp_iff, not_true, false_imp_iff, and_true, qp_eq]
      rcases hw with hw | hw | hw
      · exact absurd hw.1 nf
      · obtain ⟨-, w1, w2, w3⟩ := hw
        have w1' : ¬ y 49 0 d = nI 0 := w1
        simp (disch := first | decide | omega) only [w1', false_imp_iff, true_and, not_false_iff, true_imp_iff]
        rcases w2 with rfl | rfl | rfl <;> simp (disch := omega) <;> exact w3
      · obtain ⟨-, w1, w2⟩ := hw
        by_cases w3 : y 49 0 d = 0
        · have w3' : y 49 0 d = nI 0 := w3
          simp (disch := first | decide | omega) only [w3', true_imp_iff, not_true, false_imp_iff, and_true]
          exact w2
        · have w3' : ¬ y 49 0 d = nI 0 := w3
          obtain ⟨v1, v2, v3⟩ := w1.resolve_left w3
          simp (disch := first | decide | omega) only [w3', false_imp_iff, true_and, not_false_iff, true_imp_iff, v1, v2, v3]
          exact w2
    · have nf : noFit c h := by unfold noFit; omega
      simp (disch := first | decide | omega) only [qp_le, h2, false_imp_iff, true_and, not_false_iff, true_imp_iff]
      rcases hw with hw | hw | hw
      · exact hw.2
      · exact absurd nf hw.1
      · exact absurd nf hw.1
/-- the class's -/
theorem x_go {rf : Int32 → Int32 → qx_St → (qx_St → Prop) → Prop} {d i p h c : Nat} {dep : Int32} {x : qx_St} {post : qx_St → Prop} (g1 : x 12 d 10 = nI (p + 1)) (g2 : x 18 i p = nI c) (g3 : x 12 d 1 = nI h) (hp : p < 20) (hc : c ≤ 25) (hh : h ≤ 8)
    (hw : (noFit c h ∧ post (xThr d 8 x)) ∨ (¬ noFit c h ∧ ¬ x 12 d 7 = 0 ∧ (c = 7 ∨ c = 22 ∨ c = 23) ∧ post (xThr d 2 x)) ∨ (¬ noFit c h ∧ (x 12 d 7 = 0 ∨ (c ≠ 7 ∧ c ≠ 22 ∧ c ≠ 23)) ∧ wX2_doStep_j70 rf d i dep post dep (nI p) (nI c) (x 19 i p) x)) : wX2_doStep rf d i dep x post := by
  have e1 : nI (p + 1) - 1 = nI p := nI_pred p
  simp (disch := first | decide | omega) only [wX2_doStep, g1, e1, qp_in, nI_clamp, g2, g3, true_and]
  refine x_fits hc hh ?_
  by_cases nf : h < tkN c ∨ 8 + tkN c < h + ptN c
  · rw [if_pos nf]
    refine ⟨fun _ => ?_, fun h => absurd rfl h⟩
    rcases hw with hw | hw | hw
    · exact x_thr hw.2
    · exact absurd nf hw.1
    · exact absurd nf hw.1
  · rw [if_neg nf]
    refine ⟨fun h => absurd h (by decide), fun _ => ⟨fun h7 => ?_, fun h7 => ?_⟩⟩
    · rcases hw with hw | hw | hw
      · exact absurd hw.1 nf
      · exact absurd h7 hw.2.1
      · exact hw.2.2
    · rcases hw with hw | hw | hw
      · exact absurd hw.1 nf
      · obtain ⟨-, -, w2, w3⟩ := hw
        rcases w2 with rfl | rfl | rfl <;> simp (disch := omega) [wX0_writes, qp_l, qp_eq] <;> exact x_thr w3
      · obtain ⟨v1, v2, v3⟩ := hw.2.1.resolve_left h7
        simp (disch := omega) only [wX0_writes, qp_l, qp_eq, v1, v2, v3, false_imp_iff, true_and, not_false_iff, true_imp_iff, not_true, and_true]
        exact hw.2.2
