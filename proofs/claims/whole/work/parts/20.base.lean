/-! numbers -/
theorem qp_l (n : Nat) : (@OfNat.ofNat Int32 n Int32.instOfNat) = nI (@OfNat.ofNat Nat n (instOfNatNat n)) := rfl
theorem qp_in {k n : Nat} (h : k < n) (hn : n < 2 ^ 31) : vp_in (nI k) n := vp_in_nI h hn
theorem qp_cl {k : Nat} (h : k < 2 ^ 31) : (nI k).toNatClampNeg = k := nI_clamp h
theorem qp_st_ff (σ : qx_St) (f i j : Nat) (v : Int32) : qx_st σ f i j v f i j = v := by simp [qx_st, qx_sa, va_up, upd]
theorem qp_st_f {σ : qx_St} {f i j f' : Nat} {v : Int32} (h : f' ≠ f) : qx_st σ f i j v f' = σ f' := by simp [qx_st, qx_sa, va_up, h]
theorem qp_st_i {σ : qx_St} {f i j i' : Nat} {v : Int32} (h : i' ≠ i) : qx_st σ f i j v f i' = σ f i' := by simp [qx_st, qx_sa, va_up, h]
theorem qp_st_j {σ : qx_St} {f i j j' : Nat} {v : Int32} (h : j' ≠ j) : qx_st σ f i j v f i j' = σ f i j' := by simp [qx_st, qx_sa, va_up, upd, h]
theorem qp_st_all (σ : qx_St) (f i j : Nat) (v : Int32) (f' i' j' : Nat) : qx_st σ f i j v f' i' j' = if f' = f ∧ i' = i ∧ j' = j then v else σ f' i' j' := by
  simp only [qx_st, qx_sa, va_up, upd]
  by_cases h1 : f' = f
  · subst h1
    by_cases h2 : i' = i
    · subst h2
      by_cases h3 : j' = j <;> simp [h3]
    · simp [h2]
  · simp [h1]
theorem qp_sa_f {σ : qx_St} {f i f' : Nat} {g : Nat → Int32} (h : f' ≠ f) : qx_sa σ f i g f' = σ f' := by simp [qx_sa, va_up, h]
theorem qp_sa_i {σ : qx_St} {f i i' : Nat} {g : Nat → Int32} (h : i' ≠ i) : qx_sa σ f i g f i' = σ f i' := by simp [qx_sa, va_up, h]
theorem qp_lt {a b : Nat} (ha : a < 2 ^ 31) (hb : b < 2 ^ 31) : (nI a < nI b) = (a < b) := propext (nI_ltI ha hb)
theorem qp_le {a b : Nat} (ha : a < 2 ^ 31) (hb : b < 2 ^ 31) : (nI a ≤ nI b) = (a ≤ b) := propext (nI_leI ha hb)
theorem qp_eq {a b : Nat} (ha : a < 2 ^ 31) (hb : b < 2 ^ 31) : (nI a = nI b) = (a = b) := propext (nI_eq ha hb)
example (σ : qx_St) (d x : Nat) : qx_st σ 12 d 1 5 13 d x = σ 13 d x := by simp [qp_st_f]
example (σ : qx_St) (d x : Nat) : qx_st σ 12 d 1 5 12 d 3 = σ 12 d 3 := by simp [qp_st_j]
example : ((6 : Int32) < 8) := by simp
example : ¬ ((8 : Int32) < 8) := by simp
example (p : Prop) (h : p) : ((6 : Int32) < 8 → p) ∧ (¬ ((6 : Int32) < 8) → False) := by simp [h]
example : (nI 8 : Int32) = 8 := by simp [nI]
example (k : Nat) : nI k + 1 = nI (k + 1) := nI_1 k
