/-! the stacks and the limits, side by side -/
theorem rT.pop {d L h p l : Nat} {x y : qx_St} (t : rT d L (h + 1) p l x y) : x 13 d h = y 50 0 (8 * d + h) ∧ rT d L h p l (qx_st x 12 d 1 (nI h)) (qx_st y 46 0 d (nI h)) := by
  obtain ⟨t1, t2, t3, t4, t5, t6, t7, t8, t9, t10, t11, t12, t13⟩ := t
  refine ⟨t4 h (by omega), by omega, qp_st_ff _ _ _ _ _, qp_st_ff _ _ _ _ _, fun j hj => ?_, t5, ?_, ?_, t8, t9, ?_, ?_, ?_, ?_⟩
  · rw [qp_st_f (by decide), qp_st_f (by decide)]; exact t4 j (by omega)
  all_goals first | (rw [qp_st_j (by decide)]; assumption) | (rw [qp_st_f (by decide)]; assumption)
theorem rT.push {d L h p l : Nat} {x y : qx_St} (t : rT d L h p l x y) (h8 : h < 8) (v : Int32) : rT d L (h + 1) p l (qx_st (qx_st x 13 d h v) 12 d 1 (nI (h + 1))) (qx_st (qx_st y 50 0 (8 * d + h) v) 46 0 d (nI (h + 1))) := by
  obtain ⟨t1, t2, t3, t4, t5, t6, t7, t8, t9, t10, t11, t12, t13⟩ := t
  refine ⟨by omega, qp_st_ff _ _ _ _ _, qp_st_ff _ _ _ _ _, fun j hj => ?_, t5, ?_, ?_, t8, t9, ?_, ?_, ?_, ?_⟩
  · by_cases e : j = h
    · subst e
      simp (disch := decide) only [qp_st_f, qp_st_ff]
    · have e2 : 8 * d + j ≠ 8 * d + h := by omega
      simp (disch := first | decide | assumption) only [qp_st_f, qp_st_j]
      exact t4 j (by omega)
  all_goals first | (rw [qp_st_j (by decide), qp_st_f (by decide)]; assumption) | (rw [qp_st_f (by decide), qp_st_f (by decide)]; assumption)
theorem rT.pos {d L h p p' l : Nat} {x y : qx_St} (t : rT d L h p l x y) (hp : p' ≤ 60) : rT d L h p' l (qx_st x 12 d 10 (nI p')) (qx_st y 45 0 d (nI p')) := by
  obtain ⟨t1, t2, t3, t4, t5, t6, t7, t8, t9, t10, t11, t12, t13⟩ := t
  refine ⟨t1, ?_, ?_, fun j hj => ?_, hp, qp_st_ff _ _ _ _ _, qp_st_ff _ _ _ _ _, t8, t9, ?_, ?_, ?_, ?_⟩
  case refine_3 => rw [qp_st_f (by decide), qp_st_f (by decide)]; exact t4 j hj
  all_goals first | (rw [qp_st_j (by decide)]; assumption) | (rw [qp_st_f (by decide)]; assumption)
theorem rT.dec {d L h p l : Nat} {x y : qx_St} (t : rT d L h p (l + 1) x y) (hp : p < 60) : rT d L h (p + 1) l (qx_st (qx_st x 12 d 9 (nI l)) 12 d 10 (nI (p + 1))) (qx_st (qx_st (qx_st y 43 0 d (nI l)) 44 0 d (nI (L - l))) 45 0 d (nI (p + 1))) := by
  obtain ⟨t1, t2, t3, t4, t5, t6, t7, t8, t9, t10, t11, t12, t13⟩ := t
  refine ⟨t1, ?_, ?_, fun j hj => ?_, by omega, qp_st_ff _ _ _ _ _, qp_st_ff _ _ _ _ _, by omega, t9, ?_, ?_, ?_, ?_⟩
  · rw [qp_st_j (by decide), qp_st_j (by decide)]; exact t2
  · rw [qp_st_f (by decide), qp_st_f (by decide), qp_st_f (by decide)]; exact t3
  · rw [qp_st_f (by decide), qp_st_f (by decide), qp_st_f (by decide), qp_st_f (by decide), qp_st_f (by decide)]; exact t4 j hj
  · rw [qp_st_j (by decide), qp_st_ff]
  · rw [qp_st_f (by decide), qp_st_f (by decide), qp_st_ff]
  · rw [qp_st_j (by decide), qp_st_j (by decide)]; exact t12
  · rw [qp_st_f (by decide), qp_st_ff]
theorem rT.cg {d L h p l : Nat} {x y x' y' : qx_St} (t : rT d L h p l x y) (h12 : x' 12 d = x 12 d) (h13 : x' 13 d = x 13 d) (g43 : y' 43 = y 43) (g44 : y' 44 = y 44) (g45 : y' 45 = y 45) (g46 : y' 46 = y 46) (g50 : y' 50 = y 50) : rT d L h p l x' y' := by
  unfold rT at t ⊢
  rw [h12, h13, g43, g44, g45, g46, g50]
  exact t
/-! switches over a number -/
theorem qp_sw0 {c N : Nat} (hc : c < 2 ^ 30) (hN : N < 1000) : (∀ i : Nat, i < N → ¬ nI c = Int32.ofInt (0 + i)) = (c < 0 ∨ 0 + N ≤ c) := by
  refine propext ⟨fun h => ?_, fun h i hi e => ?_⟩
  · rcases Nat.lt_or_ge c 0 with h1 | h1
    · exact Or.inl h1
    · rcases Nat.lt_or_ge c (0 + N) with h2 | h2
      · refine absurd ?_ (h (c - 0) (by omega))
        apply Int32.toInt_inj.mp
        rw [nI_toInt (by omega), Int32.toInt_ofInt_of_le (by omega) (by omega)]
        omega
      · exact Or.inr h2
  · have e2 := congrArg Int32.toInt e
    rw [nI_toInt (by omega), Int32.toInt_ofInt_of_le (by omega) (by omega)] at e2
    omega
theorem qp_sw1 {c N : Nat} (hc : c < 2 ^ 30) (hN : N < 1000) : (∀ i : Nat, i < N → ¬ nI c = Int32.ofInt (1 + i)) = (c < 1 ∨ 1 + N ≤ c) := by
  refine propext ⟨fun h => ?_, fun h i hi e => ?_⟩
  · rcases Nat.lt_or_ge c 1 with h1 | h1
    · exact Or.inl h1
    · rcases Nat.lt_or_ge c (1 + N) with h2 | h2
      · refine absurd ?_ (h (c - 1) (by omega))
        apply Int32.toInt_inj.mp
        rw [nI_toInt (by omega), Int32.toInt_ofInt_of_le (by omega) (by omega)]
        omega
      · exact Or.inr h2
  · have e2 := congrArg Int32.toInt e
    rw [nI_toInt (by omega), Int32.toInt_ofInt_of_le (by omega) (by omega)] at e2
    omega
theorem qp_sw6 {c N : Nat} (hc : c < 2 ^ 30) (hN : N < 1000) : (∀ i : Nat, i < N → ¬ nI c = Int32.ofInt (6 + i)) = (c < 6 ∨ 6 + N ≤ c) := by
  refine propext ⟨fun h => ?_, fun h i hi e => ?_⟩
  · rcases Nat.lt_or_ge c 6 with h1 | h1
    · exact Or.inl h1
    · rcases Nat.lt_or_ge c (6 + N) with h2 | h2
      · refine absurd ?_ (h (c - 6) (by omega))
        apply Int32.toInt_inj.mp
        rw [nI_toInt (by omega), Int32.toInt_ofInt_of_le (by omega) (by omega)]
        omega
      · exact Or.inr h2
  · have e2 := congrArg Int32.toInt e
    rw [nI_toInt (by omega), Int32.toInt_ofInt_of_le (by omega) (by omega)] at e2
    omega
theorem qp_sw7 {c N : Nat} (hc : c < 2 ^ 30) (hN : N < 1000) : (∀ i : Nat, i < N → ¬ nI c = Int32.ofInt (7 + i)) = (c < 7 ∨ 7 + N ≤ c) := by
  refine propext ⟨fun h => ?_, fun h i hi e => ?_⟩
  · rcases Nat.lt_or_ge c 7 with h1 | h1
    · exact Or.inl h1
    · rcases Nat.lt_or_ge c (7 + N) with h2 | h2
      · refine absurd ?_ (h (c - 7) (by omega))
        apply Int32.toInt_inj.mp
        rw [nI_toInt (by omega), Int32.toInt_ofInt_of_le (by omega) (by omega)]
        omega
      · exact Or.inr h2
  · have e2 := congrArg Int32.toInt e
    rw [nI_toInt (by omega), Int32.toInt_ofInt_of_le (by omega) (by omega)] at e2
    omega
theorem qp_sw8 {c N : Nat} (hc : c < 2 ^ 30) (hN : N < 1000) : (∀ i : Nat, i < N → ¬ nI c = Int32.ofInt (8 + i)) = (c < 8 ∨ 8 + N ≤ c) := by
  refine propext ⟨fun h => ?_, fun h i hi e => ?_⟩
  · rcases Nat.lt_or_ge c 8 with h1 | h1
    · exact Or.inl h1
    · rcases Nat.lt_or_ge c (8 + N) with h2 | h2
      · refine absurd ?_ (h (c - 8) (by omega))
        apply Int32.toInt_inj.mp
        rw [nI_toInt (by omega), Int32.toInt_ofInt_of_le (by omega) (by omega)]
        omega
      · exact Or.inr h2
  · have e2 := congrArg Int32.toInt e
    rw [nI_toInt (by omega), Int32.toInt_ofInt_of_le (by omega) (by omega)] at e2
    omega
def tkN (c : Nat) : Nat := ([0, 0, 0, 0, 0, 0, 0, 1, 2, 2, 2, 2, 2, 2, 1, 1, 1, 1, 2, 3, 3, 2, 1, 1, 1, 0] : List Nat).getD c 0
def ptN (c : Nat) : Nat := ([1, 1, 1, 1, 1, 1, 1, 0, 1, 1, 1, 1, 1, 1, 0, 0, 2, 0, 2, 1, 2, 1, 0, 0, 0, 0] : List Nat).getD c 0
theorem m_takes {c : Nat} {y : qx_St} {post : Int32 → qx_St → Prop} (hc : c ≤ 25) (hp : post (nI (tkN c)) y) : wX10_takes (nI c) y post := by
  rcases (show c = 0 ∨ c = 1 ∨ c = 2 ∨ c = 3 ∨ c = 4 ∨ c = 5 ∨ c = 6 ∨ c = 7 ∨ c = 8 ∨ c = 9 ∨ c = 10 ∨ c = 11 ∨ c = 12 ∨ c = 13 ∨ c = 14 ∨ c = 15 ∨ c = 16 ∨ c = 17 ∨ c = 18 ∨ c = 19 ∨ c = 20 ∨ c = 21 ∨ c = 22 ∨ c = 23 ∨ c = 24 ∨ c = 25 by omega) with rfl | rfl | rfl | rfl | rfl | rfl | rfl | rfl | rfl | rfl | rfl | rfl | rfl | rfl | rfl | rfl | rfl | rfl | rfl | rfl | rfl | rfl | rfl | rfl | rfl | rfl <;> (simp (disch := omega) only [wX10_takes, qp_sw7, qp_l, qp_eq]; simp; exact hp)
theorem m_leaves {c : Nat} {y : qx_St} {post : Int32 → qx_St → Prop} (hc : c ≤ 25) (hp : post (nI (ptN c)) y) : wX10_leaves (nI c) y post := by
  rcases (show c = 0 ∨ c = 1 ∨ c = 2 ∨ c = 3 ∨ c = 4 ∨ c = 5 ∨ c = 6 ∨ c = 7 ∨ c = 8 ∨ c = 9 ∨ c = 10 ∨ c = 11 ∨ c = 12 ∨ c = 13 ∨ c = 14 ∨ c = 15 ∨ c = 16 ∨ c = 17 ∨ c = 18 ∨ c = 19 ∨ c = 20 ∨ c = 21 ∨ c = 22 ∨ c = 23 ∨ c = 24 ∨ c = 25 by omega) with rfl | rfl | rfl | rfl | rfl | rfl | rfl | rfl | rfl | rfl | rfl | rfl | rfl | rfl | rfl | rfl | rfl | rfl | rfl | rfl | rfl | rfl | rfl | rfl | rfl | rfl <;> (simp (disch := omega) [wX10_leaves, wX10_in, qp_l, qp_eq, qp_le, qp_lt]; exact hp)
theorem x_tkI {c : Nat} (hc : c ≤ 25) : qx_takesI c = nI (tkN c) ∧ qx_putsI c = nI (ptN c) ∧ tkN c ≤ 3 ∧ ptN c ≤ 2 := by
  rcases (show c = 0 ∨ c = 1 ∨ c = 2 ∨ c = 3 ∨ c = 4 ∨ c = 5 ∨ c = 6 ∨ c = 7 ∨ c = 8 ∨ c = 9 ∨ c = 10 ∨ c = 11 ∨ c = 12 ∨ c = 13 ∨ c = 14 ∨ c = 15 ∨ c = 16 ∨ c = 17 ∨ c = 18 ∨ c = 19 ∨ c = 20 ∨ c = 21 ∨ c = 22 ∨ c = 23 ∨ c = 24 ∨ c = 25 by omega) with rfl | rfl | rfl | rfl | rfl | rfl | rfl | rfl | rfl | rfl | rfl | rfl | rfl | rfl | rfl | rfl | rfl | rfl | rfl | rfl | rfl | rfl | rfl | rfl | rfl | rfl <;> exact ⟨rfl, rfl, by decide, by decide⟩
theorem x_fits {c h : Nat} {x : qx_St} {post : Int32 → qx_St → Prop} (hc : c ≤ 25) (hh : h ≤ 8) (hp : post (if h < tkN c ∨ 8 + tkN c < h + ptN c then 0 else 1) x) : wX0_fitsStack (nI c) (nI h) x post := by
  obtain ⟨e1, e2, e3, e4⟩ := x_tkI hc
  by_cases h1 : h < tkN c
  · simp (disch := omega) only [wX0_fitsStack, qp_in, nI_clamp, e1, e2, qp_lt, h1, true_or, if_true, true_and, not_true, false_imp_iff, and_true, true_imp_iff] at hp ⊢
    exact hp
  · have e5 : nI h - nI (tkN c) + nI (ptN c) = nI (h - tkN c + ptN c) := by rw [pk_sub (by omega), nI_add]
    by_cases h2 : 8 + tkN c < h + ptN c
    · have h3 : 8 < h - tkN c + ptN c := by omega
      simp (disch := omega) only [wX0_fitsStack, qp_in, nI_clamp, e1, e2, e5, qp_l, qp_lt, h1, h2, h3, false_or, if_true, true_and, not_true, not_false_iff, false_imp_iff, and_true, true_imp_iff] at hp ⊢
      exact hp
    · have h3 : ¬ 8 < h - tkN c + ptN c := by omega
      simp (disch := omega) only [wX0_fitsStack, qp_in, nI_clamp, e1, e2, e5, qp_l, qp_lt, h1, h2, h3, false_or, if_false, true_and, not_true, not_false_iff, false_imp_iff, and_true, true_imp_iff] at hp ⊢
      exact hp
/-! the reference's step -/
theorem m_end0 {d i p k : Nat} {y : qx_St} {post : qx_St → Prop} (hd : d < 8) (hi : i < 32) (g1 : y 30 0 12 = nI (d + 1)) (g2 : y 39 0 d = nI i) (g3 : y 45 0 d = nI p) (g4 : y 34 0 i = nI k) (hp : p ≤ 60) (hk : k ≤ 20) (h : k ≤ p) (hw : wX10_ends 0 0 y post) : wX10_oneStep y post := by
  have e1 : nI (d + 1) - 1 = nI d := nI_pred d
  have h1 : ¬ p < k := by omega
  simp (disch := omega) only [wX10_oneStep, g1, e1, qp_in, nI_clamp, g2, g3, g4, qp_lt, h1, true_and, false_imp_iff, not_false_iff, true_imp_iff]
  exact hw
theorem m_end6 {d i p k : Nat} {y : qx_St} {post : qx_St → Prop} (hd : d < 8) (hi : i < 32) (g1 : y 30 0 12 = nI (d + 1)) (g2 : y 39 0 d = nI i) (g3 : y 45 0 d = nI p) (g4 : y 34 0 i = nI k) (g5 : y 43 0 d = nI 0) (hp : p ≤ 60) (hk : k ≤ 20) (h : p < k) (hw : wX10_ends 6 0 y post) : wX10_oneStep y post := by
  have e1 : nI (d + 1) - 1 = nI d := nI_pred d
  have e2 : (nI 0 = (0 : Int32)) = True := eq_true rfl
  simp (disch := omega) only [wX10_oneStep, g1, e1, qp_in, nI_clamp, g2, g3, g4, g5, e2, qp_lt, h, true_and, and_true, not_true, false_imp_iff, true_imp_iff]
  exact hw

