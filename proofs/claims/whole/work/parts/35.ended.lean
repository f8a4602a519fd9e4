/-! a frame ends -/
def xBack (d : Nat) (x : qx_St) : qx_St := qx_st (qx_st (qx_sa (qx_sa x 4 0 (va_cpy (x 15 d) (x 4 0) 0 0 64)) 5 0 (va_cpy (x 16 d) (x 5 0) 0 0 13)) 3 0 3 (x 14 d 2)) 3 0 4 (x 14 d 3)
def xRow (pl d : Nat) (x : qx_St) : qx_St := if pl < 40 then qx_st (qx_st (qx_st (qx_st (qx_st (qx_st (qx_st x 8 0 (7 * pl) (x 12 d 2)) 8 0 (7 * pl + 1) (x 12 d 3)) 8 0 (7 * pl + 2) (nI (d + 1))) 8 0 (7 * pl + 3) (x 12 d 8 - x 12 d 9)) 8 0 (7 * pl + 4) (x 12 d 12)) 8 0 (7 * pl + 5) (x 12 d 13)) 8 0 (7 * pl + 6) (x 12 d 7) else x
def yRow (pl d : Nat) (t g : Int32) (y : qx_St) : qx_St := if pl < 40 then qx_st (qx_st (qx_st y 62 0 pl (y 44 0 d)) 63 0 pl t) 64 0 pl (if t = 0 then g else 0) else y
theorem xBack_f {d f : Nat} {x : qx_St} (h : f ≠ 3 ∧ f ≠ 4 ∧ f ≠ 5) : xBack d x f = x f := by unfold xBack; rw [qp_st_f h.1, qp_st_f h.1, qp_sa_f h.2.2, qp_sa_f h.2.1]
theorem xRow_f {pl d f : Nat} {x : qx_St} (h : f ≠ 8) : xRow pl d x f = x f := by
  unfold xRow
  by_cases h40 : pl < 40
  · rw [if_pos h40, qp_st_f h, qp_st_f h, qp_st_f h, qp_st_f h, qp_st_f h, qp_st_f h, qp_st_f h]
  · rw [if_neg h40]
theorem yRow_f {pl d f : Nat} {t g : Int32} {y : qx_St} (h : f ≠ 62 ∧ f ≠ 63 ∧ f ≠ 64) : yRow pl d t g y f = y f := by
  unfold yRow
  by_cases h40 : pl < 40
  · rw [if_pos h40, qp_st_f h.2.2, qp_st_f h.2.1, qp_st_f h.1]
  · rw [if_neg h40]
theorem yUndo_f {d f : Nat} {y : qx_St} (h : f ≠ 30 ∧ f ≠ 31 ∧ f ≠ 32 ∧ f ≠ 33) : yUndo d y f = y f := by unfold yUndo; rw [qp_st_f h.1, qp_st_f h.1, qp_sa_f h.2.1, qp_sa_f h.2.2.1, qp_sa_f h.2.2.2]
theorem x_row {pl d : Nat} {x : qx_St} {post : qx_St → Prop} (hpl : pl < 2000) (hz : qx_vz (x 12 d 7)) (hp : post (xRow pl d x)) : wX5_writeRow (nI pl) d (nI (d + 1)) x post := by
  unfold xRow at hp
  have e7 : pl * 7 = 7 * pl := by omega
  by_cases h40 : pl < 40
  · rw [if_pos h40] at hp
    rcases hz with hz | hz
    · have hz' : x 12 d 7 = nI 0 := hz
      rw [hz'] at hp
      simp (disch := first | decide | omega) only [wX5_writeRow, wX1_used, qp_l, qp_lt, h40, pk_mul, nI_add, e7, qp_in, nI_clamp, qp_fe, qp_st_f, hz', true_and, true_imp_iff, not_true, false_imp_iff, and_true]
      exact hp
    · have hz' : x 12 d 7 = nI 1 := hz
      have hne : ¬ nI 1 = nI 0 := by decide
      rw [hz'] at hp
      simp (disch := first | decide | omega) only [wX5_writeRow, wX1_used, qp_l, qp_lt, h40, pk_mul, nI_add, e7, qp_in, nI_clamp, qp_fe, qp_st_f, hz', hne, true_and, true_imp_iff, not_true, not_false_iff, false_imp_iff, and_true]
      exact hp
  · rw [if_neg h40] at hp
    simp (disch := first | decide | omega) only [wX5_writeRow, qp_l, qp_lt, h40, true_and, true_imp_iff, not_false_iff, false_imp_iff]
    exact hp
theorem x_back {d : Nat} {x : qx_St} {post : qx_St → Prop} (hp : post (xBack d x)) : wX6_putBack d x post := by
  have c0 : (nI 0).toNatClampNeg = 0 := rfl
  have c64 : (nI 64).toNatClampNeg = 64 := rfl
  have c13 : (nI 13).toNatClampNeg = 13 := rfl
  simp (disch := decide) only [wX6_putBack, qp_l, qp_fe, c0, c64, c13, qp_sa_f, qp_st_f]
  exact hp
theorem x_end {rf : Int32 → Int32 → qx_St → (qx_St → Prop) → Prop} {p1 p2 a1 a7 : Int32} {d i pl : Nat} {t g : Int32} {x : qx_St} {post : qx_St → Prop} (hpl : pl < 2000) (hz : qx_vz (x 12 d 7)) (hD : rD d t g x) (hp : post (xRow pl d (if t = 0 then x else xBack d x))) : wX2_runFrame_j159 rf p1 p2 post a1 (nI (d + 1)) d i d (nI pl) a7 x := by
  unfold wX2_runFrame_j159 wX1_hasThrown
  rw [hD.2.1]
  by_cases ht : t = 0
  · rw [if_pos ht] at hp
    exact ⟨fun _ => ⟨fun _ => x_row hpl hz hp, fun h => absurd rfl h⟩, fun h => absurd ht h⟩
  · rw [if_neg ht] at hp
    refine ⟨fun h => absurd h ht, fun _ => ⟨fun h => absurd h (by decide), fun _ => x_back (x_row hpl ?_ hp)⟩⟩
    rw [xBack_f (by decide)]
    exact hz
theorem m_end {d pl : Nat} {t g : Int32} {y : qx_St} {post : qx_St → Prop} (hd : d < 8) (hpl : pl < 2000) (g12 : y 30 0 12 = nI (d + 1)) (g48 : y 48 0 d = nI pl) (hw : ∃ k, wX10_ends_j94 t g post (wX10_ends_l8 t g post k) t g t g 1 (nI d) (nI pl) (yRow pl d t g (if t = 0 then qx_st y 30 0 12 (nI d) else yUndo d (qx_st y 30 0 12 (nI d))))) : wX10_ends t g y post := by
  obtain ⟨k, hw⟩ := hw
  refine ⟨k + 1, ?_⟩
  have e1 : nI (d + 1) - nI 1 = nI d := nI_pred d
  -- the records
  have rec39 : ∀ y1 : qx_St, y1 48 0 d = nI pl → (wX10_ends_j94 t g post (wX10_ends_l8 t g post k) t g t g 1 (nI d) (nI pl) (yRow pl d t g y1)) → wX10_ends_j39 t g post (wX10_ends_l8 t g post k) t g t g 1 (nI d) y1 := by
    intro y1 h48 hq
    unfold yRow at hq
    by_cases h40 : pl < 40
    · have h40' : ¬ 40 ≤ pl := by omega
      rw [if_pos h40] at hq
      by_cases ht : t = 0
      · rw [if_pos ht] at hq
        have ht' : t = nI 0 := ht
        simp (disch := first | decide | omega) only [wX10_ends_j39, wX10_ends_j93, qp_in, nI_clamp, h48, qp_l, qp_le, h40', qp_fe, qp_st_f, true_and, true_imp_iff, not_true, not_false_iff, false_imp_iff, and_true]
        exact ⟨fun _ => hq, fun h => absurd ht' h⟩
      · rw [if_neg ht] at hq
        have ht' : ¬ t = nI 0 := ht
        simp (disch := first | decide | omega) only [wX10_ends_j39, wX10_ends_j93, qp_in, nI_clamp, h48, qp_l, qp_le, h40', qp_fe, qp_st_f, true_and, true_imp_iff, not_true, not_false_iff, false_imp_iff, and_true]
        exact ⟨fun h => absurd h ht', fun _ => hq⟩
    · have h40' : 40 ≤ pl := by omega
      rw [if_neg h40] at hq
      simp (disch := first | decide | omega) only [wX10_ends_j39, qp_in, nI_clamp, h48, qp_l, qp_le, h40', true_and, true_imp_iff, not_true, false_imp_iff, and_true]
      exact hq
  unfold wX10_ends_l8
  refine ⟨fun h => absurd h (by decide), fun _ => ?_⟩
  simp only [qp_fe, g12, qp_l, e1, qp_st_ff]
  by_cases ht : t = 0
  · rw [if_pos ht] at hw
    exact ⟨fun _ => rec39 _ (by rw [qp_st_f (by decide)]; exact g48) hw, fun h => absurd ht h⟩
  · rw [if_neg ht] at hw
    refine ⟨fun h => absurd h ht, fun _ => m_undo hd (rec39 _ ?_ hw)⟩
    rw [yUndo_f (by decide), qp_st_f (by decide)]
    exact g48
/-- the end of frame d, seen from below -/
def rZ (n d pl L u e dp ev : Nat) (t g : Int32) (x0 y0 x y : qx_St) : Prop := rP n x y ∧ rW n ev x y ∧ rE e dp x y ∧ rO pl e x y ∧ rM n d x y ∧ xF d pl x0 x ∧ yF d pl y0 y ∧ rD d t g x ∧ u ≤ L ∧ x 12 d 8 = nI L ∧ x 12 d 9 = nI (L - u) ∧ y 44 0 d = nI u ∧ y 30 0 12 = nI d
section QZ
variable {n d pl c m L h p l e dp ev : Nat} {t g : Int32} {x0 y0 x y : qx_St} {hw : Int32}
theorem rW.undo {ev0 : Nat} (hW : rW n ev x y) (hS : rS n ev d x y) (n8 : n ≤ 8) (h0 : x 14 d 2 = nI ev0) (h60 : ev0 ≤ 60) : ∃ ev', ev0 ≤ ev' ∧ rW n ev' (xBack d x) (yUndo d (qx_st y 30 0 12 (nI d))) := by
  obtain ⟨w1, w2, w3, w4, w5, w6, w7, w8, w9, w10, w11⟩ := hW
  obtain ⟨s1, s2, s3, s4, s5, s6, ⟨k, k1, k2, k3⟩, s8⟩ := hS
  have k0 : ev0 = k := (nI_eq (by omega) (by omega)).mp (h0.symm.trans k2)
  refine ⟨k, by omega, ?_⟩
  have x4 : xBack d x 4 0 = va_cpy (x 15 d) (x 4 0) 0 0 64 := by unfold xBack; simp (disch := decide) only [qp_st_f, qp_sa_f, qp_sa_ff]
  have x5 : xBack d x 5 0 = va_cpy (x 16 d) (x 5 0) 0 0 13 := by unfold xBack; simp (disch := decide) only [qp_st_f, qp_sa_f, qp_sa_ff]
  have x33 : xBack d x 3 0 3 = x 14 d 2 := by unfold xBack; simp (disch := decide) only [qp_st_j, qp_st_ff]
  have x34 : xBack d x 3 0 4 = x 14 d 3 := by unfold xBack; simp (disch := decide) only [qp_st_ff]
  have y33 : yUndo d (qx_st y 30 0 12 (nI d)) 33 0 = va_cpy (y 51 0) (y 33 0) (64 * d) 0 64 := by unfold yUndo; simp (disch := decide) only [qp_st_f, qp_sa_f, qp_sa_ff]
  have y32 : yUndo d (qx_st y 30 0 12 (nI d)) 32 0 = va_cpy (y 53 0) (y 32 0) (8 * d) 0 8 := by unfold yUndo; simp (disch := decide) only [qp_st_f, qp_sa_f, qp_sa_ff]
  have y31 : yUndo d (qx_st y 30 0 12 (nI d)) 31 0 = va_cpy (y 52 0) (y 31 0) (4 * d) 0 4 := by unfold yUndo; simp (disch := decide) only [qp_st_f, qp_sa_f, qp_sa_ff]
  have y30 : yUndo d (qx_st y 30 0 12 (nI d)) 30 0 30 = y 54 0 d := by unfold yUndo; simp (disch := decide) only [qp_st_j, qp_st_ff, qp_st_f]
  have y35 : yUndo d (qx_st y 30 0 12 (nI d)) 30 0 35 = y 55 0 d := by unfold yUndo; simp (disch := decide) only [qp_st_ff, qp_st_f]
  have y3 : yUndo d (qx_st y 30 0 12 (nI d)) 30 0 3 = y 30 0 3 := by unfold yUndo; simp (disch := decide) only [qp_st_j, qp_sa_f]
  unfold rW
  rw [x4, x5, x33, x34, y33, y32, y31, y30, y35, y3, xBack_f (f := 6) (by decide), yUndo_f (f := 56) (by decide), yUndo_f (f := 57) (by decide), yUndo_f (f := 58) (by decide), yUndo_f (f := 59) (by decide), qp_st_f (f' := 56) (by decide), qp_st_f (f' := 57) (by decide), qp_st_f (f' := 58) (by decide), qp_st_f (f' := 59) (by decide)]
  refine ⟨fun q hq => ?_, fun q h1 h2 => ?_, fun c hc => ?_, fun c h1 h2 => ?_, fun u hu => ?_, ?_, by omega, k2, k3, fun j hj => w10 j (by omega), s8⟩
  · simp only [va_cpy]; rw [if_pos (by omega), if_pos (by omega), show 0 + (q - 0) = q by omega, show 64 * d + (q - 0) = 64 * d + q by omega]; exact s1 q hq
  · simp only [va_cpy]; rw [if_pos (by omega), show 0 + (q - 0) = q by omega]; exact s2 q h1 h2
  · simp only [va_cpy]; rw [if_pos (by omega), if_pos (by omega), show 0 + (c - 0) = c by omega, show 8 * d + (c - 0) = 8 * d + c by omega]; exact s3 c hc
  · simp only [va_cpy]; rw [if_pos (by omega), show 0 + (c - 0) = c by omega]; exact s4 c h1 h2
  · simp only [va_cpy]; rw [if_pos (by omega), if_pos (by omega), show 0 + (8 + u - 0) = 8 + u by omega, show 4 * d + (u - 0) = 4 * d + u by omega]; exact s5 u hu
  · simp only [va_cpy]; rw [if_pos (by omega), show 0 + (12 - 0) = 12 by omega]; exact s6
theorem end_rel {ev0 : Nat} (H : rH n d pl c m hw L h p l e dp ev x0 y0 x y) (hD : rD d t g x) (hv0 : x0 3 0 3 = nI ev0) (h60 : ev0 ≤ 60) : ∃ ev', ev0 ≤ ev' ∧ rZ n d pl L (L - l) e dp ev' t g x0 y0 (xRow pl d (if t = 0 then x else xBack d x)) (yRow pl d t g (if t = 0 then qx_st y 30 0 12 (nI d) else yUndo d (qx_st y 30 0 12 (nI d)))) := by
  obtain ⟨⟨hP, hW, hS, hE, hO, hM, hA, hfx, hfy⟩, hT, he, hB, hdp, hpl, hd⟩ := H
  have n8 := hP.1
  -- before the rows
  have hsn : x 14 d 2 = nI ev0 := hfx.2.trans hv0
  obtain ⟨ev', hev, hW'⟩ : ∃ ev', ev0 ≤ ev' ∧ rW n ev' (if t = 0 then x else xBack d x) (if t = 0 then qx_st y 30 0 12 (nI d) else yUndo d (qx_st y 30 0 12 (nI d))) := by
    by_cases ht : t = 0
    · rw [if_pos ht, if_pos ht]
      have k60 := hW.2.2.2.2.2.2.1
      obtain ⟨k, k1, k2, k3⟩ := hS.2.2.2.2.2.2.1
      have k0 : ev0 = k := (nI_eq (by omega) (by omega)).mp (hsn.symm.trans k2)
      exact ⟨ev, by omega, hW.cg rfl rfl rfl rfl (qp_st_j (by decide)) (qp_st_j (by decide)) (qp_st_j (by decide)) (qp_st_f (by decide)) (qp_st_f (by decide)) (qp_st_f (by decide)) (qp_st_f (by decide)) (qp_st_f (by decide)) (qp_st_f (by decide)) (qp_st_f (by decide))⟩
    · rw [if_neg ht, if_neg ht]
      exact hW.undo hS n8 hsn h60
  refine ⟨ev', hev, ?_⟩
  generalize hx1 : (if t = 0 then x else xBack d x) = x1 at hW'
  generalize hy1 : (if t = 0 then qx_st y 30 0 12 (nI d) else yUndo d (qx_st y 30 0 12 (nI d))) = y1 at hW'
  have fx : ∀ f, (f ≠ 3 ∧ f ≠ 4 ∧ f ≠ 5) → x1 f = x f := fun f hf => by
    rw [← hx1]
    by_cases ht : t = 0
    · rw [if_pos ht]
    · rw [if_neg ht]; exact xBack_f hf
  have fy : ∀ f, (f ≠ 30 ∧ f ≠ 31 ∧ f ≠ 32 ∧ f ≠ 33) → y1 f = y f := fun f hf => by
    rw [← hy1]
    by_cases ht : t = 0
    · rw [if_pos ht]; exact qp_st_f hf.1
    · rw [if_neg ht, yUndo_f hf]; exact qp_st_f hf.1
  have f30 : ∀ j, j ≠ 12 → j ≠ 30 → j ≠ 35 → y1 30 0 j = y 30 0 j := fun j h1 h2 h3 => by
    rw [← hy1]
    by_cases ht : t = 0
    · rw [if_pos ht]; exact qp_st_j h1
    · rw [if_neg ht]; unfold yUndo
      rw [qp_st_j h3, qp_st_j h2, qp_sa_f (by decide), qp_sa_f (by decide), qp_sa_f (by decide)]
      exact qp_st_j h1
  have f12 : y1 30 0 12 = nI d := by
    rw [← hy1]
    by_cases ht : t = 0
    · rw [if_pos ht]; exact qp_st_ff _ _ _ _ _
    · rw [if_neg ht]; unfold yUndo
      rw [qp_st_j (by decide), qp_st_j (by decide), qp_sa_f (by decide), qp_sa_f (by decide), qp_sa_f (by decide)]
      exact qp_st_ff _ _ _ _ _
  have rx : ∀ f, f ≠ 8 → xRow pl d x1 f = x1 f := fun f hf => xRow_f hf
  have ry : ∀ f, (f ≠ 62 ∧ f ≠ 63 ∧ f ≠ 64) → yRow pl d t g y1 f = y1 f := fun f hf => yRow_f hf
  have gx : ∀ f, (f ≠ 3 ∧ f ≠ 4 ∧ f ≠ 5 ∧ f ≠ 8) → xRow pl d x1 f = x f := fun f hf => (rx f hf.2.2.2).trans (fx f ⟨hf.1, hf.2.1, hf.2.2.1⟩)
  have gy : ∀ f, (f ≠ 30 ∧ f ≠ 31 ∧ f ≠ 32 ∧ f ≠ 33 ∧ f ≠ 62 ∧ f ≠ 63 ∧ f ≠ 64) → yRow pl d t g y1 f = y f := fun f hf => (ry f hf.2.2.2.2).trans (fy f ⟨hf.1, hf.2.1, hf.2.2.1, hf.2.2.2.1⟩)
  have gj : ∀ j, j ≠ 12 → j ≠ 30 → j ≠ 35 → yRow pl d t g y1 30 0 j = y 30 0 j := fun j h1 h2 h3 => by rw [ry 30 (by decide)]; exact f30 j h1 h2 h3
  have rows8 : ∀ q, (q < 7 * pl ∨ 7 * (pl + 1) ≤ q) → xRow pl d x1 8 0 q = x 8 0 q := fun q hq => by
    unfold xRow
    by_cases h40 : pl < 40
    · rw [if_pos h40, qp_st_j (by omega), qp_st_j (by omega), qp_st_j (by omega), qp_st_j (by omega), qp_st_j (by omega), qp_st_j (by omega), qp_st_j (by omega), fx 8 (by decide)]
    · rw [if_neg h40, fx 8 (by decide)]
  have rowsy : ∀ q, q ≠ pl → yRow pl d t g y1 62 0 q = y 62 0 q ∧ yRow pl d t g y1 63 0 q = y 63 0 q ∧ yRow pl d t g y1 64 0 q = y 64 0 q := fun q hq => by
    unfold yRow
    by_cases h40 : pl < 40
    · rw [if_pos h40]
      simp (disch := first | decide | assumption) only [qp_st_f, qp_st_j]
      rw [fy 62 (by decide), fy 63 (by decide), fy 64 (by decide)]; exact ⟨rfl, rfl, rfl⟩
    · rw [if_neg h40, fy 62 (by decide), fy 63 (by decide), fy 64 (by decide)]; exact ⟨rfl, rfl, rfl⟩
  obtain ⟨t1, t2, t3, t4, t5, t6, t7, t8, t9, t10, t11, t12, t13⟩ := hT
  obtain ⟨a1, a2, a3, a4, a5, a6, a7, a8, a9, a10, a11, a12, a13⟩ := hA
  have ell : L - (L - l) = l := by omega
  refine ⟨?_, ?_, ?_, ?_, ?_, ?_, ?_, ?_, by omega, ?_, ?_, ?_, ?_⟩
  · exact hP.cg (gx 1 (by decide)) (gx 17 (by decide)) (gx 18 (by decide)) (gx 19 (by decide)) (gx 20 (by decide)) (gj 0 (by decide) (by decide) (by decide)) (gy 34 (by decide)) (gy 35 (by decide)) (gy 36 (by decide)) (gy 37 (by decide)) (gy 38 (by decide))
  · exact hW'.cg (rx 3 (by decide)) (rx 4 (by decide)) (rx 5 (by decide)) (rx 6 (by decide)) (by rw [ry 30 (by decide)]) (by rw [ry 30 (by decide)]) (by rw [ry 30 (by decide)]) (ry 31 (by decide)) (ry 32 (by decide)) (ry 33 (by decide)) (ry 56 (by decide)) (ry 57 (by decide)) (ry 58 (by decide)) (ry 59 (by decide))
  · exact hE.cg (by rw [gx 7 (by decide)]) (by rw [gx 7 (by decide)]) (gj 36 (by decide) (by decide) (by decide)) (gj 37 (by decide) (by decide) (by decide))
  · intro k k1 k2 k3
    by_cases hk : k = pl
    · subst hk
      obtain ⟨q1, q2, q3⟩ := a13 k3
      unfold rRow
      rw [gy 60 (by decide), gy 61 (by decide), gy 65 (by decide), q1, q2, q3]
      unfold xRow yRow
      rw [if_pos k3, if_pos k3]
      have m0 : 7 * k ≠ 7 * k + 1 := by omega
      have m1 : 7 * k ≠ 7 * k + 2 := by omega
      have m2 : 7 * k ≠ 7 * k + 3 := by omega
      have m3 : 7 * k ≠ 7 * k + 4 := by omega
      have m4 : 7 * k ≠ 7 * k + 5 := by omega
      have m5 : 7 * k ≠ 7 * k + 6 := by omega
      have mm : ∀ a b : Nat, a ≠ b → 7 * k + a ≠ 7 * k + b := fun a b hab => by omega
      simp (disch := first | decide | omega) only [qp_st_f, qp_st_j, qp_st_ff]
      rw [fx 12 (by decide), fy 44 (by decide), t10, t12, t13, hD.2.1, a3, a4, a9, pk_sub t8]
      refine ⟨⟨c, m, by omega, a2, rfl, rfl, rfl⟩, trivial, rfl, rfl, ?_, rfl, by rw [← a9]; exact a10⟩
      by_cases ht : t = 0
      · rw [if_pos ht]; exact hD.2.2.1 ht
      · rw [if_neg ht]; exact hD.2.2.2 ht
    · have := hO k (by omega) k2 k3
      unfold rRow at this ⊢
      obtain ⟨r1, r2, r3⟩ := rowsy k hk
      rw [gy 60 (by decide), gy 61 (by decide), gy 65 (by decide), r1, r2, r3, rows8 (7 * k) (by omega), rows8 (7 * k + 1) (by omega), rows8 (7 * k + 2) (by omega), rows8 (7 * k + 3) (by omega), rows8 (7 * k + 4) (by omega), rows8 (7 * k + 5) (by omega), rows8 (7 * k + 6) (by omega)]
      exact this
  · exact hM.cg (fun k _ => by rw [gx 12 (by decide)]) (fun k _ => by rw [gy 39 (by decide)])
  · refine hfx.1.trans (d' := d) (pl' := pl) ⟨fun k _ => ⟨by rw [gx 12 (by decide)], by rw [gx 13 (by decide)], by rw [gx 14 (by decide)], by rw [gx 15 (by decide)], by rw [gx 16 (by decide)]⟩, gx 1 (by decide), gx 17 (by decide), gx 18 (by decide), gx 19 (by decide), gx 20 (by decide), fun f hf => gx f (by omega), fun j _ _ => by rw [gx 7 (by decide)], fun q hq => rows8 q (Or.inl hq)⟩ (Nat.le_refl _) (Nat.le_refl _)
  · refine hfy.trans (d' := d) (pl' := pl) ⟨fun k _ => ?_, fun q _ => ⟨by rw [gy 50 (by decide)], by rw [gy 53 (by decide)]⟩, fun q _ => by rw [gy 51 (by decide)], fun q _ => by rw [gy 52 (by decide)], gy 34 (by decide), gy 35 (by decide), gy 36 (by decide), gy 37 (by decide), gy 38 (by decide), fun f hf => gy f (by omega), fun j h1 h2 h3 h4 h5 => gj j h1 h2 h3, fun q hq => ?_⟩ (Nat.le_refl _) (Nat.le_refl _)
    · rw [gy 39 (by decide), gy 40 (by decide), gy 41 (by decide), gy 42 (by decide), gy 43 (by decide), gy 44 (by decide), gy 45 (by decide), gy 46 (by decide), gy 47 (by decide), gy 48 (by decide), gy 49 (by decide), gy 54 (by decide), gy 55 (by decide)]
      exact ⟨rfl, rfl, rfl, rfl, rfl, rfl, rfl, rfl, rfl, rfl, rfl, rfl, rfl⟩
    · obtain ⟨r1, r2, r3⟩ := rowsy q (by omega)
      rw [gy 60 (by decide), gy 61 (by decide), gy 65 (by decide)]
      exact ⟨rfl, rfl, r1, r2, r3, rfl⟩
  · unfold rD at hD ⊢
    rw [gx 12 (by decide)]
    exact hD
  · rw [gx 12 (by decide)]; exact t12
  · rw [gx 12 (by decide), ell]; exact t10
  · rw [gy 44 (by decide)]; exact t13
  · rw [ry 30 (by decide)]; exact f12
end QZ
