/-! numbers and cells -/
theorem qp_l (n : Nat) : (@OfNat.ofNat Int32 n Int32.instOfNat) = nI (@OfNat.ofNat Nat n (instOfNatNat n)) := rfl
theorem qp_in {k n : Nat} (h : k < n) (hn : n < 2 ^ 31) : vp_in (nI k) n = True := eq_true (vp_in_nI h hn)
theorem qp_st_ff (σ : qx_St) (f i j : Nat) (v : Int32) : qx_st σ f i j v f i j = v := by simp [qx_st, qx_sa, va_up, upd]
theorem qp_st_f {σ : qx_St} {f i j f' : Nat} {v : Int32} (h : f' ≠ f) : qx_st σ f i j v f' = σ f' := by simp [qx_st, qx_sa, va_up, h]
theorem qp_st_i {σ : qx_St} {f i j i' : Nat} {v : Int32} (h : i' ≠ i) : qx_st σ f i j v f i' = σ f i' := by simp [qx_st, qx_sa, va_up, h]
theorem qp_st_j {σ : qx_St} {f i j j' : Nat} {v : Int32} (h : j' ≠ j) : qx_st σ f i j v f i j' = σ f i j' := by simp [qx_st, qx_sa, va_up, upd, h]
theorem qp_sa_ff (σ : qx_St) (f i : Nat) (g : Nat → Int32) : qx_sa σ f i g f i = g := qx_sa_ff σ f i g
theorem qp_sa_f {σ : qx_St} {f i f' : Nat} {g : Nat → Int32} (h : f' ≠ f) : qx_sa σ f i g f' = σ f' := by simp [qx_sa, va_up, h]
theorem qp_sa_i {σ : qx_St} {f i i' : Nat} {g : Nat → Int32} (h : i' ≠ i) : qx_sa σ f i g f i' = σ f i' := by simp [qx_sa, va_up, h]
theorem qp_lt {a b : Nat} (ha : a < 2 ^ 31) (hb : b < 2 ^ 31) : (nI a < nI b) = (a < b) := propext (nI_ltI ha hb)
theorem qp_le {a b : Nat} (ha : a < 2 ^ 31) (hb : b < 2 ^ 31) : (nI a ≤ nI b) = (a ≤ b) := propext (nI_leI ha hb)
theorem qp_eq {a b : Nat} (ha : a < 2 ^ 31) (hb : b < 2 ^ 31) : (nI a = nI b) = (a = b) := propext (nI_eq ha hb)
theorem qp_fe {α : Type} {a : α} {p : α → Prop} : (∀ x, x = a → p x) = p a := propext ⟨fun h => h a rfl, fun h _ e => e ▸ h⟩
/-! the two stacks -/
theorem x_take {σ : qx_St} {d h : Nat} {post : Int32 → qx_St → Prop} (hh : σ 12 d 1 = nI (h + 1)) (h8 : h < 8) (hp : post (σ 13 d h) (qx_st σ 12 d 1 (nI h))) : wX1_take d σ post := by
  simp (disch := omega) only [wX1_take, qp_fe, hh, qp_l, pk_sub, Nat.add_sub_cancel, qp_st_ff, qp_st_f, qp_in, nI_clamp, true_and]
  exact hp
theorem x_put {σ : qx_St} {d h : Nat} {v : Int32} {post : qx_St → Prop} (hh : σ 12 d 1 = nI h) (h8 : h < 8) (hp : post (qx_st (qx_st σ 13 d h v) 12 d 1 (nI (h + 1)))) : wX1_put d v σ post := by
  simp (disch := omega) only [wX1_put, qp_fe, hh, qp_l, nI_add, qp_st_ff, qp_st_f, qp_in, nI_clamp, true_and]
  exact hp
theorem m_pop {σ : qx_St} {d h : Nat} {post : Int32 → qx_St → Prop} (hh : σ 46 0 d = nI (h + 1)) (hd : d < 8) (h8 : h < 8) (hp : post (σ 50 0 (8 * d + h)) (qx_st σ 46 0 d (nI h))) : wX10_pop (nI d) σ post := by
  simp (disch := omega) only [wX10_pop, qp_fe, hh, qp_l, pk_sub, pk_mul, nI_add, Nat.add_sub_cancel, qp_st_ff, qp_st_f, qp_in, nI_clamp, true_and]
  exact hp
theorem m_push {σ : qx_St} {d h : Nat} {v : Int32} {post : qx_St → Prop} (hh : σ 46 0 d = nI h) (hd : d < 8) (h8 : h < 8) (hp : post (qx_st (qx_st σ 50 0 (8 * d + h) v) 46 0 d (nI (h + 1)))) : wX10_push (nI d) v σ post := by
  simp (disch := omega) only [wX10_push, qp_fe, hh, qp_l, pk_mul, nI_add, qp_st_ff, qp_st_f, qp_in, nI_clamp, true_and]
  exact hp
