/-! the frame's loop: a step that stays in the frame -/
theorem qp_div {a b : Int32} (h : ¬ b = 0) : (a.toInt64 / b.toInt64).toInt32 = a / b := by
  apply Int32.toInt_inj.mp
  have hb : b.toInt ≠ 0 := fun e => h (Int32.toInt_inj.mp (by rw [e]; rfl))
  rw [Int64.toInt_toInt32, Int64.toInt_div, Int32.toInt_toInt64, Int32.toInt_toInt64, Int32.toInt_div]
  have h1 := Int32.toInt_lt a
  have h2 := Int32.le_toInt a
  have h3 : -(2 ^ 31 : Int) ≤ a.toInt.tdiv b.toInt ∧ a.toInt.tdiv b.toInt ≤ 2 ^ 31 := by
    have := Int.natAbs_tdiv_le_natAbs a.toInt b.toInt
    omega
  have h4 : (a.toInt.tdiv b.toInt).bmod (2 ^ 64) = a.toInt.tdiv b.toInt := by
    apply Int.bmod_eq_of_le <;> omega
  rw [h4]
theorem qp_div0 {b : Int32} (h : ¬ b = 0) : ¬ b.toInt64 = 0 := by
  intro e
  apply h
  apply Int32.toInt_inj.mp
  rw [← Int32.toInt_toInt64, e]
  rfl
def rH (n d pl c m : Nat) (hw : Int32) (L h p l e dp ev : Nat) (x0 y0 x y : qx_St) : Prop := rB n d pl c m hw e dp ev x0 y0 x y ∧ rT d L h p l x y ∧ e ≤ pl + 1 + (L - l) ∧ pl + 1 + L ≤ 1001 ∧ dp ≤ 8 ∧ pl < e ∧ d < 8
def rD (d : Nat) (t g : Int32) (x : qx_St) : Prop := x 12 d 11 = 1 ∧ x 12 d 12 = t ∧ (t = 0 → x 12 d 13 = g) ∧ (¬ t = 0 → x 12 d 13 = 0)
section QH
variable {n d pl c m L h p p' l e dp ev : Nat} {x0 y0 x y x' y' : qx_St} {hw : Int32}
theorem rH.loc (H : rH n d pl c m hw L h p l e dp ev x0 y0 x y) {h' p2 : Nat} (hx : xL d x x') (hy : yL d y y') (t : rT d L h' p2 l x' y') : rH n d pl c m hw L h' p2 l e dp ev x0 y0 x' y' := ⟨H.1.loc hx hy, t, H.2.2⟩
theorem rH.pop (H : rH n d pl c m hw L (h + 1) p l e dp ev x0 y0 x y) : x 13 d h = y 50 0 (8 * d + h) ∧ rH n d pl c m hw L h p l e dp ev x0 y0 (qx_st x 12 d 1 (nI h)) (qx_st y 46 0 d (nI h)) := ⟨H.2.1.pop.1, H.loc (xL.st (by omega)) (yL.st (by omega)) H.2.1.pop.2⟩
theorem rH.push (H : rH n d pl c m hw L h p l e dp ev x0 y0 x y) (h8 : h < 8) (v : Int32) : rH n d pl c m hw L (h + 1) p l e dp ev x0 y0 (qx_st (qx_st x 13 d h v) 12 d 1 (nI (h + 1))) (qx_st (qx_st y 50 0 (8 * d + h) v) 46 0 d (nI (h + 1))) := H.loc (xL.stk.trans (xL.st (by omega))) ((yL.stk (by omega)).trans (yL.st (by omega))) (H.2.1.push h8 v)
theorem rH.pos (H : rH n d pl c m hw L h p l e dp ev x0 y0 x y) (hp : p' ≤ 60) : rH n d pl c m hw L h p' l e dp ev x0 y0 (qx_st x 12 d 10 (nI p')) (qx_st y 45 0 d (nI p')) := H.loc (xL.st (by omega)) (yL.st (by omega)) (H.2.1.pos hp)
theorem rT.xst {j : Nat} {v : Int32} (hj : j = 11 ∨ j = 12 ∨ j = 13) (t : rT d L h p l x y) : rT d L h p l (qx_st x 12 d j v) y := by
  obtain ⟨t1, t2, t3, t4, t5, t6, t7, t8, t9, t10, t11, t12, t13⟩ := t
  refine ⟨t1, ?_, t3, fun j hj => ?_, t5, ?_, t7, t8, t9, ?_, t11, ?_, t13⟩
  · rw [qp_st_j (by omega)]; exact t2
  · rw [qp_st_f (by decide)]; exact t4 j hj
  · rw [qp_st_j (by omega)]; exact t6
  · rw [qp_st_j (by omega)]; exact t10
  · rw [qp_st_j (by omega)]; exact t12
theorem rN.st {j : Nat} {v : Int32} (hj : j = 1 ∨ j = 9 ∨ j = 10) (N : rN d x) : rN d (qx_st x 12 d j v) := by
  unfold rN at N ⊢
  rw [qp_st_j (by omega), qp_st_j (by omega), qp_st_j (by omega)]
  exact N
theorem rN.cg (N : rN d x) (h : x' 12 d = x 12 d) : rN d x' := by
  unfold rN at N ⊢
  rw [h]
  exact N
theorem rN.stf {f i j : Nat} {v : Int32} (hf : f ≠ 12) (N : rN d x) : rN d (qx_st x f i j v) := N.cg (by rw [qp_st_f (Ne.symm hf)])
theorem rH.thr (H : rH n d pl c m hw L h p l e dp ev x0 y0 x y) (N : rN d x) {t : Int32} (ht : ¬ t = 0) (g : Int32) : rH n d pl c m hw L h p l e dp ev x0 y0 (xThr d t x) y ∧ rD d t g (xThr d t x) := by
  refine ⟨H.loc ((xL.st (by omega)).trans (xL.st (by omega))) yL.rf ((H.2.1.xst (by omega)).xst (by omega)), ?_, qp_st_ff _ _ _ _ _, fun e => absurd e ht, fun _ => ?_⟩
  · simp (disch := decide) only [xThr, qp_st_j, qp_st_ff]
  · simp (disch := decide) only [xThr, qp_st_j]; exact N.2.2
theorem rH.giv (H : rH n d pl c m hw L h p l e dp ev x0 y0 x y) (N : rN d x) (g : Int32) : rH n d pl c m hw L h p l e dp ev x0 y0 (xGiv d g x) y ∧ rD d 0 g (xGiv d g x) := by
  refine ⟨H.loc ((xL.st (by omega)).trans (xL.st (by omega))) yL.rf ((H.2.1.xst (by omega)).xst (by omega)), ?_, ?_, fun _ => qp_st_ff _ _ _ _ _, fun e => absurd rfl e⟩
  · simp (disch := decide) only [xGiv, qp_st_j, qp_st_ff]
  · simp (disch := decide) only [xGiv, qp_st_j]; exact N.2.1
/-- the numbers that a step puts on the stack -/
theorem num_sim (H : rH n d pl c m hw L h p l e dp ev x0 y0 x y) {k : Nat} {a b : Int32} (hk : k ≤ 6) (ho : rOk k a b) : ∃ v, (∀ post : Int32 → qx_St → Prop, post v x → wX2_numberFor d (nI k) a x post) ∧ ∀ post : Int32 → qx_St → Prop, post v y → wX10_gives (nI d) (nI k) a y post := by
  obtain ⟨⟨hP, hW, hS, hE, hO, hM, ⟨a1, a2, a3, a4, a5, a6, a7, a8, a9, a10, a11, a12, a13⟩, hfx, hfy⟩, hT, h1, h2, h3, h4, hd⟩ := H
  have n8 := hP.1
  have e1 : nI (4 * c + m) / nI 4 = nI c := by rw [pk_div (by omega) (by omega) (by omega)]; congr 1; omega
  rcases (show k = 0 ∨ k = 1 ∨ k = 2 ∨ k = 3 ∨ k = 4 ∨ k = 5 ∨ k = 6 by omega) with rfl | rfl | rfl | rfl | rfl | rfl | rfl
  · refine ⟨a, fun post hp => ?_, fun post hp => ?_⟩
    · simp (disch := omega) only [wX2_numberFor, qp_sw1, qp_l, qp_eq]; simp; exact hp
    · simp (disch := omega) only [wX10_gives, qp_sw0, qp_l, qp_eq, qp_in, true_and]; simp; exact hp
  · refine ⟨x 12 d 4, fun post hp => ?_, fun post hp => ?_⟩
    · simp (disch := omega) only [wX2_numberFor, qp_sw1, qp_l, qp_eq]; simp; exact hp
    · simp (disch := omega) only [wX10_gives, qp_sw0, qp_l, qp_eq, qp_in, nI_clamp, true_and, ← a6]; simp; exact hp
  · refine ⟨x 12 d 5, fun post hp => ?_, fun post hp => ?_⟩
    · simp (disch := omega) only [wX2_numberFor, qp_sw1, qp_l, qp_eq]; simp; exact hp
    · simp (disch := omega) only [wX10_gives, qp_sw0, qp_l, qp_eq, qp_in, nI_clamp, true_and, ← a7]; simp; exact hp
  · refine ⟨x 12 d 6, fun post hp => ?_, fun post hp => ?_⟩
    · simp (disch := omega) only [wX2_numberFor, qp_sw1, qp_l, qp_eq]; simp; exact hp
    · simp (disch := omega) only [wX10_gives, qp_sw0, qp_l, qp_eq, qp_in, nI_clamp, true_and, ← a8]; simp; exact hp
  · refine ⟨x 5 0 c, fun post hp => ?_, fun post hp => ?_⟩
    · simp (disch := omega) only [wX2_numberFor, qp_sw1, qp_l, qp_eq, a3, qp_in, nI_clamp, true_and]; simp; exact hp
    · simp (disch := omega) only [wX10_gives, qp_sw0, qp_l, qp_eq, qp_in, nI_clamp, true_and, a5, e1, ← hW.2.2.1 c a1]; simp; exact hp
  · refine ⟨nI c, fun post hp => ?_, fun post hp => ?_⟩
    · simp (disch := omega) only [wX2_numberFor, qp_sw1, qp_l, qp_eq, a3]; simp; exact hp
    · simp (disch := omega) only [wX10_gives, qp_sw0, qp_l, qp_eq, qp_in, nI_clamp, true_and, a5, e1]; simp; exact hp
  · obtain ⟨q, hq, rfl⟩ := ho.1 (Or.inl rfl)
    have e2 : c * 8 + q = 8 * c + q := by omega
    refine ⟨x 4 0 (8 * c + q), fun post hp => ?_, fun post hp => ?_⟩
    · simp (disch := omega) only [wX2_numberFor, qp_sw1, qp_l, qp_eq, a3, pk_mul, nI_add, e2, qp_in, nI_clamp, true_and]; simp; exact hp
    · simp (disch := omega) only [wX10_gives, qp_sw0, qp_l, qp_eq, qp_in, nI_clamp, true_and, a5, e1, pk_mul, nI_add, ← hW.1 (8 * c + q) (by omega)]; simp; exact hp
end QH
