/-! entered: the relation -/
theorem qp_st5 {σ : qx_St} {f i j : Nat} {v : Int32} : qx_st σ f i j v f = va_up (σ f) i (upd (σ f i) j v) := by simp [qx_st, qx_sa, va_up]
theorem xMove5 {a b : Nat} {v : Int32} {x x1 : qx_St} (h : x1 5 = x 5) : xMove a b v x1 5 = xMove a b v x 5 := by
  unfold xMove
  simp only [qp_st5, h]
theorem yPay31 {n c pay : Nat} {v : Int32} {y y1 : qx_St} (h1 : y1 31 = y 31) (h2 : y1 32 = y 32) : yPay n c pay v y1 31 = yPay n c pay v y 31 ∧ yPay n c pay v y1 32 = yPay n c pay v y 32 := by
  unfold yPay
  by_cases hp : pay < n
  · simp only [if_pos hp]
    constructor
    · rw [qp_st_f (by decide), qp_st_f (by decide), qp_st_f (by decide), qp_st_f (by decide)]; exact h1
    · simp only [qp_st5, h2]
  · simp only [if_neg hp]
    constructor
    · rw [qp_st5, qp_st5, qp_st_f (by decide), qp_st_f (by decide), h1]
    · simp (disch := decide) only [qp_st_f, qp_st5, h2]
theorem qp_mx {a b : Nat} (ha : a ≤ 8) (hb : b ≤ 8) : mx a b ≤ 8 := by unfold mx; split <;> omega
section QER
variable {n d c m L e dp ev pay : Nat} {arg v cal how rd : Int32} {x y : qx_St}
theorem ent_rel (hP : rP n x y) (hW : rW n ev x y) (hE : rE e dp x y) (hM : rM n d x y) (g12 : y 30 0 12 = nI d) (hb : bG d c m L arg v cal rd x) (cn : c < n) (m4 : m < 4) (hpay : pC n pay cal) (hrd : qx_vz rd) (hL : e + 1 + L ≤ 1001) (hdp : dp ≤ 8) (hd : d < 8) :
    rH n d e c m how L 0 0 L (e + 1) (mx dp (d + 1)) ev x y (xMove pay c v (xKeep d (xRep e dp d x))) (yEnt n d e dp L c m pay arg v cal how rd y) ∧ rN d (xMove pay c v (xKeep d (xRep e dp d x))) ∧ yEnt n d e dp L c m pay arg v cal how rd y 47 0 d = how := by
  have n8 := hP.1
  generalize hx' : xMove pay c v (xKeep d (xRep e dp d x)) = x'
  generalize hy' : yEnt n d e dp L c m pay arg v cal how rd y = y'
  have fx : ∀ f, (f ≠ 5 ∧ f ≠ 7 ∧ f ≠ 14 ∧ f ≠ 15 ∧ f ≠ 16) → x' f = x f := fun f h => by rw [← hx', xMove_f h.1, xKeep_f ⟨h.2.2.1, h.2.2.2.1, h.2.2.2.2⟩, xRep_f h.2.1]
  have fk : ∀ f k, (f = 14 ∨ f = 15 ∨ f = 16) → k ≠ d → x' f k = x f k := fun f k h hk => by rw [← hx', xMove_f (by omega), xKeep_i hk, xRep_f (by omega)]
  have fy : ∀ f, (f < 30 ∨ (33 ≤ f ∧ f ≤ 38) ∨ f = 50 ∨ (56 ≤ f ∧ f ≤ 59) ∨ (62 ≤ f ∧ f ≤ 64)) → y' f = y f := fun f h => by rw [← hy']; exact yEnt_f h
  have fa : ∀ f, (39 ≤ f ∧ f ≤ 55) → y' f = yArr d e L (nI (4 * c + m)) arg v cal how rd y f := fun f h => by rw [← hy']; exact yEnt_a h
  have f30 : ∀ j, y' 30 0 j = if j = 36 then nI (e + 1) else if j = 37 then nI (mx dp (d + 1)) else if j = 12 then nI (d + 1) else y 30 0 j := fun j => by rw [← hy']; exact yEnt_30
  have h7 : ∀ j, j ≠ 6 → j ≠ 7 → x' 7 0 j = x 7 0 j := fun j h1 h2 => by rw [← hx', xMove_f (by decide), xKeep_f (by decide)]; unfold xRep; rw [qp_st_j h1, qp_st_j h2]
  have h76 : x' 7 0 6 = nI (e + 1) := by rw [← hx', xMove_f (by decide), xKeep_f (by decide)]; unfold xRep; rw [qp_st_ff]
  have h77 : x' 7 0 7 = nI (mx dp (d + 1)) := by rw [← hx', xMove_f (by decide), xKeep_f (by decide)]; unfold xRep; rw [qp_st_j (by decide), qp_st_ff]
  have e12 : x' 12 d = x 12 d := by rw [fx 12 (by decide)]
  obtain ⟨d39, d40, d41, d42, d43, d44, d45, d46, d47, d48, d49⟩ := @yArr_d d e L (nI (4 * c + m)) arg v cal how rd y
  obtain ⟨a51, a53, a52, a54, a55⟩ := @yArr_h d e L (nI (4 * c + m)) arg v cal how rd y
  obtain ⟨b1, b2, b3, b4, b5, b6, b7, b8, b9, b10, b11, b12, b13⟩ := hb
  have h15 : x' 15 d = va_cpy (x 4 0) (x 15 d) 0 0 64 := by
    rw [← hx', xMove_f (by decide)]; unfold xKeep
    simp (disch := decide) only [qp_st_f, qp_sa_f, qp_sa_ff]
    rw [xRep_f (by decide), xRep_f (by decide)]
  have h16 : x' 16 d = va_cpy (x 5 0) (x 16 d) 0 0 13 := by
    rw [← hx', xMove_f (by decide)]; unfold xKeep
    simp (disch := decide) only [qp_st_f, qp_sa_f, qp_sa_ff]
    rw [xRep_f (by decide), xRep_f (by decide)]
  have h142 : x' 14 d 2 = x 3 0 3 := by
    rw [← hx', xMove_f (by decide)]; unfold xKeep
    simp (disch := decide) only [qp_st_f, qp_st_j, qp_st_ff]
    rw [xRep_f (by decide)]
  have h143 : x' 14 d 3 = x 3 0 4 := by
    rw [← hx', xMove_f (by decide)]; unfold xKeep
    simp (disch := decide) only [qp_st_f, qp_st_j, qp_st_ff]
    rw [xRep_f (by decide)]
  have h5 : x' 5 = xMove pay c v x 5 := by rw [← hx']; exact xMove5 (by rw [xKeep_f (by decide), xRep_f (by decide)])
  have hp31 := @yPay31 n c pay v y (yArr d e L (nI (4 * c + m)) arg v cal how rd y) (yArr_f (by omega)) (yArr_f (by omega))
  have h31 : y' 31 = yPay n c pay v y 31 := by rw [← hy', yEnt_p (by omega)]; exact hp31.1
  have h32 : y' 32 = yPay n c pay v y 32 := by rw [← hy', yEnt_p (by omega)]; exact hp31.2
  have hW' : rW n ev x' y' := hW.paid n8 cn hpay (fx 3 (by decide)) (fx 4 (by decide)) (fx 6 (by decide)) (by rw [h5]) (by rw [f30]; rfl) (by rw [f30]; rfl) (by rw [f30]; rfl) (fy 33 (by omega)) (fy 56 (by omega)) (fy 57 (by omega)) (fy 58 (by omega)) (fy 59 (by omega)) (by rw [h31]) (by rw [h32])
  refine ⟨⟨⟨?_, hW', ?_, ?_, ?_, ?_, ?_, ?_, ?_⟩, ?_, by omega, by omega, qp_mx hdp (by omega), by omega, hd⟩, ?_, ?_⟩
  · exact hP.cg (fx 1 (by decide)) (fx 17 (by decide)) (fx 18 (by decide)) (fx 19 (by decide)) (fx 20 (by decide)) (by rw [f30]; rfl) (fy 34 (by omega)) (fy 35 (by omega)) (fy 36 (by omega)) (fy 37 (by omega)) (fy 38 (by omega))
  · obtain ⟨w1, w2, w3, w4, w5, w6, w7, w8, w9, w10, w11⟩ := hW
    unfold rS
    rw [h15, h16, h142, h143, fa 51 (by omega), fa 52 (by omega), fa 53 (by omega), fa 54 (by omega), fa 55 (by omega), a51, a52, a53, a54, a55, f30]
    refine ⟨fun q hq => ?_, fun q h1 h2 => ?_, fun c' hc => ?_, fun c' h1 h2 => ?_, fun u hu => ?_, ?_, ⟨ev, Nat.le_refl _, w8, w9⟩, w11⟩
    · simp only [va_cpy]
      rw [if_pos (by omega), if_pos (by omega), show 0 + (64 * d + q - 64 * d) = q by omega, show 0 + (q - 0) = q by omega]; exact w1 q hq
    · simp only [va_cpy]
      rw [if_pos (by omega), show 0 + (q - 0) = q by omega]; exact w2 q h1 h2
    · simp only [va_cpy]
      rw [if_pos (by omega), if_pos (by omega), show 0 + (8 * d + c' - 8 * d) = c' by omega, show 0 + (c' - 0) = c' by omega]; exact w3 c' hc
    · simp only [va_cpy]
      rw [if_pos (by omega), show 0 + (c' - 0) = c' by omega]; exact w4 c' h1 h2
    · simp only [va_cpy]
      rw [if_pos (by omega), if_pos (by omega), show 0 + (4 * d + u - 4 * d) = u by omega, show 0 + (8 + u - 0) = 8 + u by omega]; exact w5 u hu
    · simp only [va_cpy]
      rw [if_pos (by omega), show 0 + (12 - 0) = 12 by omega]; exact w6
  · exact ⟨h76, by rw [f30]; rfl, h77, by rw [f30]; rfl⟩
  · intro k h1 h2 h3
    omega
  · exact hM.cg (fun k hk => by rw [fx 12 (by decide)]) (fun k hk => by rw [fa 39 (by omega)]; exact (yArr_k (by omega)).1)
  · unfold rA
    rw [e12, fa 39 (by omega), fa 40 (by omega), fa 41 (by omega), fa 42 (by omega), fa 49 (by omega), fa 48 (by omega), fa 47 (by omega), d39, d40, d41, d42, d49, d48, d47, f30]
    refine ⟨cn, m4, b2, b3, rfl, b4, b5, b6, b7, by rw [b7]; exact hrd, ⟨rfl, rfl⟩, rfl, fun h40 => ?_⟩
    rw [← hy']
    exact yEnt_e h40
  · refine ⟨?_, h142⟩
    refine ⟨fun k hk => ⟨by rw [fx 12 (by decide)], by rw [fx 13 (by decide)], fk 14 k (by omega) (by omega), fk 15 k (by omega) (by omega), fk 16 k (by omega) (by omega)⟩, fx 1 (by decide), fx 17 (by decide), fx 18 (by decide), fx 19 (by decide), fx 20 (by decide), fun f hf => fx f (by omega), h7, fun q _ => by rw [fx 8 (by decide)]⟩
  · refine ⟨fun k hk => ?_, fun q hq => ⟨by rw [fy 50 (by omega)], ?_⟩, fun q hq => ?_, fun q hq => ?_, fy 34 (by omega), fy 35 (by omega), fy 36 (by omega), fy 37 (by omega), fy 38 (by omega), fun f hf => fy f (by omega), fun j h1 h2 h3 h4 h5 => ?_, fun q hq => ?_⟩
    · rw [fa 39 (by omega), fa 40 (by omega), fa 41 (by omega), fa 42 (by omega), fa 43 (by omega), fa 44 (by omega), fa 45 (by omega), fa 46 (by omega), fa 47 (by omega), fa 48 (by omega), fa 49 (by omega), fa 54 (by omega), fa 55 (by omega)]
      exact yArr_k (by omega)
    · rw [fa 53 (by omega), a53]; simp only [va_cpy]; rw [if_neg (by omega)]
    · rw [fa 51 (by omega), a51]; simp only [va_cpy]; rw [if_neg (by omega)]
    · rw [fa 52 (by omega), a52]; simp only [va_cpy]; rw [if_neg (by omega)]
    · rw [f30, if_neg h4, if_neg h5, if_neg h1]
    · have := @yEnt_r n d e dp L c m pay q arg v cal how rd y (by omega)
      rw [hy'] at this
      exact ⟨this.1, this.2.1, by rw [fy 62 (by omega)], by rw [fy 63 (by omega)], by rw [fy 64 (by omega)], this.2.2⟩
  · unfold rT
    rw [e12, fa 43 (by omega), fa 44 (by omega), fa 45 (by omega), fa 46 (by omega), d43, d44, d45, d46, Nat.sub_self]
    exact ⟨by omega, b1, rfl, fun j hj => by omega, by omega, b10, rfl, Nat.le_refl _, by omega, b9, rfl, b8, rfl⟩
  · exact ⟨by rw [e12]; exact b11, by rw [e12]; exact b12, by rw [e12]; exact b13⟩
  · rw [fa 47 (by omega)]; exact d47
end QER
