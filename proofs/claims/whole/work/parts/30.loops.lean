/-! the reference's loops: what is held, what is undone -/
theorem qp_sa_sa (σ : qx_St) (f i : Nat) (g g' : Nat → Int32) : qx_sa (qx_sa σ f i g) f i g' = qx_sa σ f i g' := by
  funext f' i'
  by_cases h : f' = f ∧ i' = i
  · obtain ⟨rfl, rfl⟩ := h
    rw [qx_sa_ff, qx_sa_ff]
  · rw [qx_sa_ne h, qx_sa_ne h, qx_sa_ne h]
theorem qp_cpy_s (f g : Nat → Int32) (sp dp k : Nat) : upd (va_cpy f g sp dp k) (dp + k) (f (sp + k)) = va_cpy f g sp dp (k + 1) := by
  funext j
  simp only [upd, va_cpy]
  by_cases h : j = dp + k
  · subst h
    rw [if_pos rfl, if_pos (by omega)]
    congr 1
    omega
  · rw [if_neg h]
    by_cases h2 : dp ≤ j ∧ j < dp + k
    · rw [if_pos h2, if_pos (by omega)]
    · rw [if_neg h2, if_neg (by omega)]
theorem qp_cpy_0 (f g : Nat → Int32) (sp dp : Nat) : va_cpy f g sp dp 0 = g := by
  funext j
  simp only [va_cpy]
  rw [if_neg (by omega)]
theorem qp_sa_self (σ : qx_St) (f i : Nat) : qx_sa σ f i (σ f i) = σ := by
  funext f' i'
  by_cases h : f' = f ∧ i' = i
  · obtain ⟨rfl, rfl⟩ := h
    rw [qx_sa_ff]
  · rw [qx_sa_ne h]
/-- one row of a copy -/
theorem qp_cp {σ : qx_St} {f f' sp dp k : Nat} {v : Int32} (hv : v = σ f 0 (sp + k)) : qx_st (qx_sa σ f' 0 (va_cpy (σ f 0) (σ f' 0) sp dp k)) f' 0 (dp + k) v = qx_sa σ f' 0 (va_cpy (σ f 0) (σ f' 0) sp dp (k + 1)) := by
  rw [hv, qx_st, qx_sa_ff, qp_sa_sa, qp_cpy_s]
def yHold (d : Nat) (y : qx_St) : qx_St := qx_st (qx_st (qx_sa (qx_sa (qx_sa y 51 0 (va_cpy (y 33 0) (y 51 0) 0 (64 * d) 64)) 53 0 (va_cpy (y 32 0) (y 53 0) 0 (8 * d) 8)) 52 0 (va_cpy (y 31 0) (y 52 0) 0 (4 * d) 4)) 54 0 d (y 30 0 30)) 55 0 d (y 30 0 35)
def yUndo (d : Nat) (y : qx_St) : qx_St := qx_st (qx_st (qx_sa (qx_sa (qx_sa y 33 0 (va_cpy (y 51 0) (y 33 0) (64 * d) 0 64)) 32 0 (va_cpy (y 53 0) (y 32 0) (8 * d) 0 8)) 31 0 (va_cpy (y 52 0) (y 31 0) (4 * d) 0 4)) 30 0 30 (y 54 0 d)) 30 0 35 (y 55 0 d)
section QL
variable {d : Nat} {y : qx_St} {p1 : Int32} {post : qx_St → Prop}
theorem hold_l64 (hd : d < 8) (hp : post (qx_st (qx_st (qx_sa y 52 0 (va_cpy (y 31 0) (y 52 0) 0 (4 * d) 4)) 54 0 d (y 30 0 30)) 55 0 d (y 30 0 35))) : ∀ r k, k + r = 4 → wX10_hold_l64 p1 post (r + 1) (nI d) (nI k) (qx_sa y 52 0 (va_cpy (y 31 0) (y 52 0) 0 (4 * d) k)) := by
  intro r
  induction r with
  | zero =>
    intro k hk
    obtain rfl : k = 4 := by omega
    simp (disch := first | decide | omega) only [wX10_hold_l64, qp_l, qp_le, Nat.le_refl, true_imp_iff, not_true, false_imp_iff, and_true, qp_in, nI_clamp, true_and, qp_fe, qp_sa_f, qp_st_f]
    exact hp
  | succ r ih =>
    intro k hk
    have IH := ih (k + 1) (by omega)
    revert IH
    generalize r + 1 = R
    intro IH
    have h1 : ¬ 4 ≤ k := by omega
    simp (disch := first | decide | omega) only [wX10_hold_l64, qp_l, qp_le, h1, true_imp_iff, not_false_iff, false_imp_iff, true_and, qp_in, nI_clamp, qp_fe, pk_mul, nI_add, qp_sa_f]
    rw [qp_cp (by rw [Nat.zero_add])]
    exact IH
theorem hold_l33 (hd : d < 8) (hp : ∃ n, wX10_hold_l64 p1 post n (nI d) (nI 0) (qx_sa y 53 0 (va_cpy (y 32 0) (y 53 0) 0 (8 * d) 8))) : ∀ r k, k + r = 8 → wX10_hold_l33 p1 post (r + 1) (nI d) (nI k) (qx_sa y 53 0 (va_cpy (y 32 0) (y 53 0) 0 (8 * d) k)) := by
  intro r
  induction r with
  | zero =>
    intro k hk
    obtain rfl : k = 8 := by omega
    simp (disch := first | decide | omega) only [wX10_hold_l33, qp_l, qp_le, Nat.le_refl, true_imp_iff, not_true, false_imp_iff, and_true]
    exact hp
  | succ r ih =>
    intro k hk
    have IH := ih (k + 1) (by omega)
    revert IH
    generalize r + 1 = R
    intro IH
    have h1 : ¬ 8 ≤ k := by omega
    simp (disch := first | decide | omega) only [wX10_hold_l33, qp_l, qp_le, h1, true_imp_iff, not_false_iff, false_imp_iff, true_and, qp_in, nI_clamp, qp_fe, pk_mul, nI_add, qp_sa_f]
    rw [qp_cp (by rw [Nat.zero_add])]
    exact IH
theorem hold_l2 (hd : d < 8) (hp : ∃ n, wX10_hold_l33 p1 post n (nI d) (nI 0) (qx_sa y 51 0 (va_cpy (y 33 0) (y 51 0) 0 (64 * d) 64))) : ∀ r k, k + r = 64 → wX10_hold_l2 p1 post (r + 1) (nI d) (nI k) (qx_sa y 51 0 (va_cpy (y 33 0) (y 51 0) 0 (64 * d) k)) := by
  intro r
  induction r with
  | zero =>
    intro k hk
    obtain rfl : k = 64 := by omega
    simp (disch := first | decide | omega) only [wX10_hold_l2, qp_l, qp_le, Nat.le_refl, true_imp_iff, not_true, false_imp_iff, and_true]
    exact hp
  | succ r ih =>
    intro k hk
    have IH := ih (k + 1) (by omega)
    revert IH
    generalize r + 1 = R
    intro IH
    have h1 : ¬ 64 ≤ k := by omega
    simp (disch := first | decide | omega) only [wX10_hold_l2, qp_l, qp_le, h1, true_imp_iff, not_false_iff, false_imp_iff, true_and, qp_in, nI_clamp, qp_fe, pk_mul, nI_add, qp_sa_f]
    rw [qp_cp (by rw [Nat.zero_add])]
    exact IH
theorem m_hold (hd : d < 8) (hp : post (yHold d y)) : wX10_hold (nI d) y post := by
  have h1 := hold_l64 (y := qx_sa (qx_sa y 51 0 (va_cpy (y 33 0) (y 51 0) 0 (64 * d) 64)) 53 0 (va_cpy (y 32 0) (y 53 0) 0 (8 * d) 8)) (p1 := nI d) (post := post) hd (by
    simp (disch := decide) only [qp_sa_f]
    exact hp) 4 0 rfl
  rw [qp_cpy_0, qp_sa_self] at h1
  have h2 := hold_l33 (y := qx_sa y 51 0 (va_cpy (y 33 0) (y 51 0) 0 (64 * d) 64)) (p1 := nI d) (post := post) hd (by
    simp (disch := decide) only [qp_sa_f]
    exact ⟨_, h1⟩) 8 0 rfl
  rw [qp_cpy_0, qp_sa_self] at h2
  have h3 := hold_l2 (y := y) (p1 := nI d) (post := post) hd ⟨_, h2⟩ 64 0 rfl
  rw [qp_cpy_0, qp_sa_self] at h3
  exact ⟨_, h3⟩
theorem undo_l64 (hd : d < 8) (hp : post (qx_st (qx_st (qx_sa y 31 0 (va_cpy (y 52 0) (y 31 0) (4 * d) 0 4)) 30 0 30 (y 54 0 d)) 30 0 35 (y 55 0 d))) : ∀ r k, k + r = 4 → wX10_undo_l64 p1 post (r + 1) (nI d) (nI k) (qx_sa y 31 0 (va_cpy (y 52 0) (y 31 0) (4 * d) 0 k)) := by
  intro r
  induction r with
  | zero =>
    intro k hk
    obtain rfl : k = 4 := by omega
    simp (disch := first | decide | omega) only [wX10_undo_l64, qp_l, qp_le, Nat.le_refl, true_imp_iff, not_true, false_imp_iff, and_true, qp_in, nI_clamp, true_and, qp_fe, qp_sa_f, qp_st_f]
    exact hp
  | succ r ih =>
    intro k hk
    have IH := ih (k + 1) (by omega)
    revert IH
    generalize r + 1 = R
    intro IH
    have h1 : ¬ 4 ≤ k := by omega
    have e := qp_cp (σ := y) (f := 52) (f' := 31) (sp := 4 * d) (dp := 0) (k := k) rfl
    rw [Nat.zero_add] at e
    simp (disch := first | decide | omega) only [wX10_undo_l64, qp_l, qp_le, h1, true_imp_iff, not_false_iff, false_imp_iff, true_and, qp_in, nI_clamp, qp_fe, pk_mul, nI_add, qp_sa_f]
    rw [e]
    exact IH
theorem undo_l33 (hd : d < 8) (hp : ∃ n, wX10_undo_l64 p1 post n (nI d) (nI 0) (qx_sa y 32 0 (va_cpy (y 53 0) (y 32 0) (8 * d) 0 8))) : ∀ r k, k + r = 8 → wX10_undo_l33 p1 post (r + 1) (nI d) (nI k) (qx_sa y 32 0 (va_cpy (y 53 0) (y 32 0) (8 * d) 0 k)) := by
  intro r
  induction r with
  | zero =>
    intro k hk
    obtain rfl : k = 8 := by omega
    simp (disch := first | decide | omega) only [wX10_undo_l33, qp_l, qp_le, Nat.le_refl, true_imp_iff, not_true, false_imp_iff, and_true]
    exact hp
  | succ r ih =>
    intro k hk
    have IH := ih (k + 1) (by omega)
    revert IH
    generalize r + 1 = R
    intro IH
    have h1 : ¬ 8 ≤ k := by omega
    have e := qp_cp (σ := y) (f := 53) (f' := 32) (sp := 8 * d) (dp := 0) (k := k) rfl
    rw [Nat.zero_add] at e
    simp (disch := first | decide | omega) only [wX10_undo_l33, qp_l, qp_le, h1, true_imp_iff, not_false_iff, false_imp_iff, true_and, qp_in, nI_clamp, qp_fe, pk_mul, nI_add, qp_sa_f]
    rw [e]
    exact IH
theorem undo_l2 (hd : d < 8) (hp : ∃ n, wX10_undo_l33 p1 post n (nI d) (nI 0) (qx_sa y 33 0 (va_cpy (y 51 0) (y 33 0) (64 * d) 0 64))) : ∀ r k, k + r = 64 → wX10_undo_l2 p1 post (r + 1) (nI d) (nI k) (qx_sa y 33 0 (va_cpy (y 51 0) (y 33 0) (64 * d) 0 k)) := by
  intro r
  induction r with
  | zero =>
    intro k hk
    obtain rfl : k = 64 := by omega
    simp (disch := first | decide | omega) only [wX10_undo_l2, qp_l, qp_le, Nat.le_refl, true_imp_iff, not_true, false_imp_iff, and_true]
    exact hp
  | succ r ih =>
    intro k hk
    have IH := ih (k + 1) (by omega)
    revert IH
    generalize r + 1 = R
    intro IH
    have h1 : ¬ 64 ≤ k := by omega
    have e := qp_cp (σ := y) (f := 51) (f' := 33) (sp := 64 * d) (dp := 0) (k := k) rfl
    rw [Nat.zero_add] at e
    simp (disch := first | decide | omega) only [wX10_undo_l2, qp_l, qp_le, h1, true_imp_iff, not_false_iff, false_imp_iff, true_and, qp_in, nI_clamp, qp_fe, pk_mul, nI_add, qp_sa_f]
    rw [e]
    exact IH
theorem m_undo (hd : d < 8) (hp : post (yUndo d y)) : wX10_undo (nI d) y post := by
  have h1 := undo_l64 (y := qx_sa (qx_sa y 33 0 (va_cpy (y 51 0) (y 33 0) (64 * d) 0 64)) 32 0 (va_cpy (y 53 0) (y 32 0) (8 * d) 0 8)) (p1 := nI d) (post := post) hd (by
    simp (disch := decide) only [qp_sa_f]
    exact hp) 4 0 rfl
  rw [qp_cpy_0, qp_sa_self] at h1
  have h2 := undo_l33 (y := qx_sa y 33 0 (va_cpy (y 51 0) (y 33 0) (64 * d) 0 64)) (p1 := nI d) (post := post) hd (by
    simp (disch := decide) only [qp_sa_f]
    exact ⟨_, h1⟩) 8 0 rfl
  rw [qp_cpy_0, qp_sa_self] at h2
  have h3 := undo_l2 (y := y) (p1 := nI d) (post := post) hd ⟨_, h2⟩ 64 0 rfl
  rw [qp_cpy_0, qp_sa_self] at h3
  exact ⟨_, h3⟩
end QL
