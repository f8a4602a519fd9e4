/-! the relation behind the entry -/
theorem yEnt_f {n d e dp L c m pay f : Nat} {arg v cal how rd : Int32} {y : qx_St} (h : f < 30 ∨ (33 ≤ f ∧ f ≤ 38) ∨ f = 50 ∨ (56 ≤ f ∧ f ≤ 59) ∨ (62 ≤ f ∧ f ≤ 64)) : yEnt n d e dp L c m pay arg v cal how rd y f = y f := by
  unfold yEnt yRec yPay
  rw [qp_st_f (by omega)]
  by_cases h40 : e < 40
  · rw [if_pos h40, qp_st_f (by omega), qp_st_f (by omega), qp_st_f (by omega), qp_st_f (by omega), qp_st_f (by omega)]
    by_cases hp : pay < n
    · rw [if_pos hp, qp_st_f (by omega), qp_st_f (by omega), yArr_f (by omega)]
    · rw [if_neg hp, qp_st_f (by omega), qp_st_f (by omega), yArr_f (by omega)]
  · rw [if_neg h40, qp_st_f (by omega), qp_st_f (by omega)]
    by_cases hp : pay < n
    · rw [if_pos hp, qp_st_f (by omega), qp_st_f (by omega), yArr_f (by omega)]
    · rw [if_neg hp, qp_st_f (by omega), qp_st_f (by omega), yArr_f (by omega)]
theorem yEnt_a {n d e dp L c m pay f : Nat} {arg v cal how rd : Int32} {y : qx_St} (h : (39 ≤ f ∧ f ≤ 55)) : yEnt n d e dp L c m pay arg v cal how rd y f = yArr d e L (nI (4 * c + m)) arg v cal how rd y f := by
  unfold yEnt yRec yPay
  rw [qp_st_f (by omega)]
  by_cases h40 : e < 40
  · rw [if_pos h40, qp_st_f (by omega), qp_st_f (by omega), qp_st_f (by omega), qp_st_f (by omega), qp_st_f (by omega)]
    by_cases hp : pay < n
    · rw [if_pos hp, qp_st_f (by omega), qp_st_f (by omega)]
    · rw [if_neg hp, qp_st_f (by omega), qp_st_f (by omega)]
  · rw [if_neg h40, qp_st_f (by omega), qp_st_f (by omega)]
    by_cases hp : pay < n
    · rw [if_pos hp, qp_st_f (by omega), qp_st_f (by omega)]
    · rw [if_neg hp, qp_st_f (by omega), qp_st_f (by omega)]
theorem yEnt_p {n d e dp L c m pay f : Nat} {arg v cal how rd : Int32} {y : qx_St} (h : (f = 31 ∨ f = 32)) : yEnt n d e dp L c m pay arg v cal how rd y f = yPay n c pay v (yArr d e L (nI (4 * c + m)) arg v cal how rd y) f := by
  unfold yEnt yRec
  rw [qp_st_f (by omega)]
  by_cases h40 : e < 40
  · rw [if_pos h40, qp_st_f (by omega), qp_st_f (by omega), qp_st_f (by omega), qp_st_f (by omega), qp_st_f (by omega)]
  · rw [if_neg h40, qp_st_f (by omega), qp_st_f (by omega)]
theorem yPay30 {n c pay : Nat} {v : Int32} {y : qx_St} : yPay n c pay v y 30 = y 30 := by
  unfold yPay
  by_cases hp : pay < n
  · rw [if_pos hp, qp_st_f (by decide), qp_st_f (by decide)]
  · rw [if_neg hp, qp_st_f (by decide), qp_st_f (by decide)]
theorem yPayR {n c pay f : Nat} {v : Int32} {y : qx_St} (h : f = 60 ∨ f = 61 ∨ f = 65) : yPay n c pay v y f = y f := by
  unfold yPay
  by_cases hp : pay < n
  · rw [if_pos hp, qp_st_f (by omega), qp_st_f (by omega)]
  · rw [if_neg hp, qp_st_f (by omega), qp_st_f (by omega)]
theorem yEnt_30 {n d e dp L c m pay j : Nat} {arg v cal how rd : Int32} {y : qx_St} : yEnt n d e dp L c m pay arg v cal how rd y 30 0 j = if j = 36 then nI (e + 1) else if j = 37 then nI (mx dp (d + 1)) else if j = 12 then nI (d + 1) else y 30 0 j := by
  unfold yEnt yRec
  have h0 : yPay n c pay v (yArr d e L (nI (4 * c + m)) arg v cal how rd y) 30 = y 30 := by rw [yPay30, yArr_f (by omega)]
  by_cases j36 : j = 36
  · subst j36; rw [qp_st_ff, if_pos rfl]
  · rw [qp_st_j j36, if_neg j36]
    have h1 : ∀ z : qx_St, (if e < 40 then qx_st (qx_st (qx_st z 60 0 e (nI (4 * c + m))) 61 0 e (nI (d + 1))) 65 0 e rd else z) 30 = z 30 := by
      intro z
      by_cases h40 : e < 40
      · rw [if_pos h40, qp_st_f (by decide), qp_st_f (by decide), qp_st_f (by decide)]
      · rw [if_neg h40]
    rw [h1]
    by_cases j37 : j = 37
    · subst j37; rw [qp_st_ff, if_pos rfl]
    · rw [qp_st_j j37, if_neg j37]
      by_cases j12 : j = 12
      · subst j12; rw [qp_st_ff, if_pos rfl]
      · rw [qp_st_j j12, if_neg j12, h0]
theorem yEnt_r {n d e dp L c m pay q : Nat} {arg v cal how rd : Int32} {y : qx_St} (hq : q ≠ e) : yEnt n d e dp L c m pay arg v cal how rd y 60 0 q = y 60 0 q ∧ yEnt n d e dp L c m pay arg v cal how rd y 61 0 q = y 61 0 q ∧ yEnt n d e dp L c m pay arg v cal how rd y 65 0 q = y 65 0 q := by
  unfold yEnt yRec
  by_cases h40 : e < 40
  · rw [if_pos h40]
    simp (disch := first | decide | assumption) only [qp_st_f, qp_st_j]
    rw [yPayR (by omega), yPayR (by omega), yPayR (by omega), yArr_f (by omega), yArr_f (by omega), yArr_f (by omega)]
    exact ⟨rfl, rfl, rfl⟩
  · rw [if_neg h40]
    simp (disch := first | decide | assumption) only [qp_st_f]
    rw [yPayR (by omega), yPayR (by omega), yPayR (by omega), yArr_f (by omega), yArr_f (by omega), yArr_f (by omega)]
    exact ⟨rfl, rfl, rfl⟩
theorem yEnt_e {n d e dp L c m pay : Nat} {arg v cal how rd : Int32} {y : qx_St} (h40 : e < 40) : yEnt n d e dp L c m pay arg v cal how rd y 60 0 e = nI (4 * c + m) ∧ yEnt n d e dp L c m pay arg v cal how rd y 61 0 e = nI (d + 1) ∧ yEnt n d e dp L c m pay arg v cal how rd y 65 0 e = rd := by
  unfold yEnt yRec
  rw [if_pos h40]
  simp (disch := decide) only [qp_st_f, qp_st_ff]
  exact ⟨trivial, trivial, trivial⟩
theorem yArr_d {d e L : Nat} {mem arg v cal how rd : Int32} {y : qx_St} : (yArr d e L mem arg v cal how rd y) 39 0 d = mem ∧ (yArr d e L mem arg v cal how rd y) 40 0 d = arg ∧ (yArr d e L mem arg v cal how rd y) 41 0 d = v ∧ (yArr d e L mem arg v cal how rd y) 42 0 d = cal ∧ (yArr d e L mem arg v cal how rd y) 43 0 d = nI L ∧ (yArr d e L mem arg v cal how rd y) 44 0 d = nI 0 ∧ (yArr d e L mem arg v cal how rd y) 45 0 d = nI 0 ∧ (yArr d e L mem arg v cal how rd y) 46 0 d = nI 0 ∧ (yArr d e L mem arg v cal how rd y) 47 0 d = how ∧ (yArr d e L mem arg v cal how rd y) 48 0 d = nI e ∧ (yArr d e L mem arg v cal how rd y) 49 0 d = rd := by
  unfold yArr
  simp (disch := decide) only [qp_st_f, qp_st_ff, and_self]
theorem yArr_k {d e L k : Nat} {mem arg v cal how rd : Int32} {y : qx_St} (hk : k ≠ d) : (yArr d e L mem arg v cal how rd y) 39 0 k = y 39 0 k ∧ (yArr d e L mem arg v cal how rd y) 40 0 k = y 40 0 k ∧ (yArr d e L mem arg v cal how rd y) 41 0 k = y 41 0 k ∧ (yArr d e L mem arg v cal how rd y) 42 0 k = y 42 0 k ∧ (yArr d e L mem arg v cal how rd y) 43 0 k = y 43 0 k ∧ (yArr d e L mem arg v cal how rd y) 44 0 k = y 44 0 k ∧ (yArr d e L mem arg v cal how rd y) 45 0 k = y 45 0 k ∧ (yArr d e L mem arg v cal how rd y) 46 0 k = y 46 0 k ∧ (yArr d e L mem arg v cal how rd y) 47 0 k = y 47 0 k ∧ (yArr d e L mem arg v cal how rd y) 48 0 k = y 48 0 k ∧ (yArr d e L mem arg v cal how rd y) 49 0 k = y 49 0 k ∧ (yArr d e L mem arg v cal how rd y) 54 0 k = y 54 0 k ∧ (yArr d e L mem arg v cal how rd y) 55 0 k = y 55 0 k := by
  unfold yArr
  simp (disch := first | decide | assumption) only [qp_st_f, qp_st_j, yHold_f, true_and]
  unfold yHold
  simp (disch := first | decide | assumption) only [qp_st_f, qp_st_j, qp_sa_f, and_self]
theorem yArr_h {d e L : Nat} {mem arg v cal how rd : Int32} {y : qx_St} : (yArr d e L mem arg v cal how rd y) 51 0 = va_cpy (y 33 0) (y 51 0) 0 (64 * d) 64 ∧ (yArr d e L mem arg v cal how rd y) 53 0 = va_cpy (y 32 0) (y 53 0) 0 (8 * d) 8 ∧ (yArr d e L mem arg v cal how rd y) 52 0 = va_cpy (y 31 0) (y 52 0) 0 (4 * d) 4 ∧ (yArr d e L mem arg v cal how rd y) 54 0 d = y 30 0 30 ∧ (yArr d e L mem arg v cal how rd y) 55 0 d = y 30 0 35 := by
  unfold yArr yHold
  simp (disch := decide) only [qp_st_f, qp_st_ff, qp_sa_f, qp_sa_ff, and_self]
section QEN
variable {n d c m L e dp ev pay : Nat} {arg v cal how rd : Int32} {x y : qx_St}
/-- coins move alike -/
theorem rW.paid (w : rW n ev x y) (n8 : n ≤ 8) (cn : c < n) (hpay : pC n pay cal) {x' y' : qx_St} (h3 : x' 3 = x 3) (h4 : x' 4 = x 4) (h6 : x' 6 = x 6) (h5 : x' 5 0 = xMove pay c v x 5 0) (g3 : y' 30 0 3 = y 30 0 3) (g30 : y' 30 0 30 = y 30 0 30) (g35 : y' 30 0 35 = y 30 0 35) (g33 : y' 33 = y 33) (g56 : y' 56 = y 56) (g57 : y' 57 = y 57) (g58 : y' 58 = y 58) (g59 : y' 59 = y 59) (g31 : y' 31 0 = yPay n c pay v y 31 0) (g32 : y' 32 0 = yPay n c pay v y 32 0) : rW n ev x' y' := by
  obtain ⟨w1, w2, w3, w4, w5, w6, w7, w8, w9, w10, w11⟩ := w
  unfold rW
  rw [h3, h4, h5, h6, g3, g30, g35, g33, g56, g57, g58, g59, g31, g32]
  refine ⟨w1, w2, fun k hk => ?_, fun k h1 h2 => ?_, fun u hu => ?_, ?_, w7, w8, w9, w10, w11⟩
  · unfold xMove yPay
    rcases hpay with ⟨h1, rfl⟩ | ⟨u, hu, rfl, rfl⟩
    · rw [if_pos h1]
      by_cases e1 : k = c
      · subst e1
        by_cases e2 : k = pay
        · subst e2
          rw [qp_st_ff, qp_st_ff, qp_st_ff, qp_st_ff, w3 k hk]
          rw [Int32.sub_add_cancel, Int32.add_sub_cancel]
        · rw [qp_st_ff, qp_st_j e2, qp_st_j e2, qp_st_ff, w3 k hk]
      · rw [qp_st_j e1]
        by_cases e2 : k = pay
        · subst e2
          rw [qp_st_ff, qp_st_ff, qp_st_j e1, w3 k hk]
        · rw [qp_st_j e2, qp_st_j e2, qp_st_j e1]; exact w3 k hk
    · rw [if_neg (by omega), qp_st_f (f' := 32) (by decide)]
      have e2 : k ≠ 8 + u := by omega
      by_cases e1 : k = c
      · subst e1
        rw [qp_st_ff, qp_st_j e2, qp_st_ff, w3 k hk]
      · rw [qp_st_j e1, qp_st_j e2, qp_st_j e1]; exact w3 k hk
  · unfold xMove
    have e1 : k ≠ c := by omega
    have e2 : k ≠ pay := by rcases hpay with ⟨h1, -⟩ | ⟨u, hu, rfl, -⟩ <;> omega
    rw [qp_st_j e1, qp_st_j e2]; exact w4 k h1 h2
  · unfold xMove yPay
    have e1 : 8 + u ≠ c := by omega
    rw [qp_st_j e1]
    rcases hpay with ⟨h1, rfl⟩ | ⟨u', hu', rfl, rfl⟩
    · have e2 : 8 + u ≠ pay := by omega
      rw [if_pos h1, qp_st_j e2, qp_st_f (by decide), qp_st_f (by decide)]; exact w5 u hu
    · have e3 : 8 + u' - 8 = u' := by omega
      rw [if_neg (by omega), e3]
      by_cases e2 : u = u'
      · subst e2
        rw [qp_st_ff, qp_st_ff, w5 u hu]
      · have e4 : 8 + u ≠ 8 + u' := by omega
        rw [qp_st_j e4, qp_st_j e2, qp_st_f (by decide)]; exact w5 u hu
  · unfold xMove
    have e1 : 12 ≠ c := by omega
    have e2 : 12 ≠ pay := by rcases hpay with ⟨h1, -⟩ | ⟨u, hu, rfl, -⟩ <;> omega
    rw [qp_st_j e1, qp_st_j e2]; exact w6
end QEN
