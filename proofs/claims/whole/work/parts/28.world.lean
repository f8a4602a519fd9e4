/-! steps that change the world -/
def xG (x x' : qx_St) : Prop := ∀ f, f ≠ 3 → f ≠ 4 → f ≠ 5 → f ≠ 6 → x' f = x f
def yG (y y' : qx_St) : Prop := (∀ f, f ≠ 30 → f ≠ 31 → f ≠ 32 → f ≠ 33 → f ≠ 56 → f ≠ 57 → f ≠ 58 → f ≠ 59 → y' f = y f) ∧ ∀ j, j ≠ 30 → j ≠ 35 → y' 30 0 j = y 30 0 j
theorem xG.rf {x : qx_St} : xG x x := fun _ _ _ _ _ => rfl
theorem yG.rf {y : qx_St} : yG y y := ⟨fun _ _ _ _ _ _ _ _ _ => rfl, fun _ _ _ => rfl⟩
theorem xG.trans {x x1 x2 : qx_St} (a : xG x x1) (b : xG x1 x2) : xG x x2 := fun f h1 h2 h3 h4 => (b f h1 h2 h3 h4).trans (a f h1 h2 h3 h4)
theorem yG.trans {y y1 y2 : qx_St} (a : yG y y1) (b : yG y1 y2) : yG y y2 := ⟨fun f h1 h2 h3 h4 h5 h6 h7 h8 => (b.1 f h1 h2 h3 h4 h5 h6 h7 h8).trans (a.1 f h1 h2 h3 h4 h5 h6 h7 h8), fun j h1 h2 => (b.2 j h1 h2).trans (a.2 j h1 h2)⟩
theorem xG.st {x : qx_St} {f i j : Nat} {v : Int32} (hf : f = 3 ∨ f = 4 ∨ f = 5 ∨ f = 6) : xG x (qx_st x f i j v) := fun g h1 h2 h3 h4 => qp_st_f (by omega)
theorem yG.st {y : qx_St} {f j : Nat} {v : Int32} (hf : (f = 30 ∧ (j = 30 ∨ j = 35)) ∨ f = 31 ∨ f = 32 ∨ f = 33 ∨ f = 56 ∨ f = 57 ∨ f = 58 ∨ f = 59) : yG y (qx_st y f 0 j v) := by
  refine ⟨fun g h1 h2 h3 h4 h5 h6 h7 h8 => qp_st_f (by omega), fun j' h1 h2 => ?_⟩
  rcases hf with ⟨rfl, h⟩ | hf
  · exact qp_st_j (by omega)
  · rw [qp_st_f (by omega)]
section QW
variable {n d pl c m L h p l e dp ev ev' : Nat} {x0 y0 x y x' y' : qx_St} {hw : Int32}
theorem rB.wld (h : rB n d pl c m hw e dp ev x0 y0 x y) (a1 : xG x x') (b : yG y y') (hW' : rW n ev' x' y') (hev : ev ≤ ev') : rB n d pl c m hw e dp ev' x0 y0 x' y' := by
  obtain ⟨hP, hW, hS, hE, hO, hM, hA, hfx, hfy⟩ := h
  obtain ⟨b1, b2⟩ := b
  have bf : ∀ f, f ≠ 30 → f ≠ 31 → f ≠ 32 → f ≠ 33 → f ≠ 56 → f ≠ 57 → f ≠ 58 → f ≠ 59 → y' f = y f := b1
  have n8 : n ≤ 8 := hP.1
  have q : ∀ f, (f ≠ 30 ∧ f ≠ 31 ∧ f ≠ 32 ∧ f ≠ 33 ∧ f ≠ 56 ∧ f ≠ 57 ∧ f ≠ 58 ∧ f ≠ 59) → y' f = y f := fun f h => bf f h.1 h.2.1 h.2.2.1 h.2.2.2.1 h.2.2.2.2.1 h.2.2.2.2.2.1 h.2.2.2.2.2.2.1 h.2.2.2.2.2.2.2
  have r : ∀ f, (f ≠ 3 ∧ f ≠ 4 ∧ f ≠ 5 ∧ f ≠ 6) → x' f = x f := fun f h => a1 f h.1 h.2.1 h.2.2.1 h.2.2.2
  have s3 : y' 30 0 3 = y 30 0 3 := b2 3 (by decide) (by decide)
  refine ⟨hP.cg (r 1 (by decide)) (r 17 (by decide)) (r 18 (by decide)) (r 19 (by decide)) (r 20 (by decide)) (b2 0 (by decide) (by decide)) (q 34 (by decide)) (q 35 (by decide)) (q 36 (by decide)) (q 37 (by decide)) (q 38 (by decide)), hW', ?_, hE.cg (by rw [r 7 (by decide)]) (by rw [r 7 (by decide)]) (b2 36 (by decide) (by decide)) (b2 37 (by decide) (by decide)), hO.cg (fun _ _ => by rw [r 8 (by decide)]) (fun k _ => by rw [q 60 (by decide), q 61 (by decide), q 62 (by decide), q 63 (by decide), q 64 (by decide), q 65 (by decide)]; exact ⟨rfl, rfl, rfl, rfl, rfl, rfl⟩), hM.cg (fun k _ => by rw [r 12 (by decide)]) (fun k _ => by rw [q 39 (by decide)]), ?_, ?_, ?_⟩
  · have hS' : rS n ev' d x y := by
      obtain ⟨s1, s2, s3, s4, s5, s6, ⟨k, k1, k2⟩, s8⟩ := hS
      exact ⟨s1, s2, s3, s4, s5, s6, ⟨k, by omega, k2⟩, s8⟩
    exact hS'.cg (by rw [r 14 (by decide)]) (by rw [r 15 (by decide)]) (by rw [r 16 (by decide)]) s3 (fun _ _ => by rw [q 51 (by decide)]) (fun _ _ => by rw [q 52 (by decide)]) (fun _ _ => by rw [q 53 (by decide)]) (by rw [q 54 (by decide)]) (by rw [q 55 (by decide)]) n8
  · unfold rA at hA ⊢
    rw [r 12 (by decide), q 39 (by decide), q 40 (by decide), q 41 (by decide), q 42 (by decide), q 49 (by decide), q 48 (by decide), q 47 (by decide), b2 12 (by decide) (by decide), q 60 (by decide), q 61 (by decide), q 65 (by decide)]
    exact hA
  · refine ⟨?_, by rw [r 14 (by decide)]; exact hfx.2⟩
    refine hfx.1.trans (d' := d) (pl' := pl) ⟨fun k hk => ⟨by rw [r 12 (by decide)], by rw [r 13 (by decide)], by rw [r 14 (by decide)], by rw [r 15 (by decide)], by rw [r 16 (by decide)]⟩, r 1 (by decide), r 17 (by decide), r 18 (by decide), r 19 (by decide), r 20 (by decide), fun f hf => r f (by omega), fun j _ _ => by rw [r 7 (by decide)], fun q _ => by rw [r 8 (by decide)]⟩ (Nat.le_refl _) (Nat.le_refl _)
  · refine hfy.trans (d' := d) (pl' := pl) ⟨fun k hk => ?_, fun z hz => ⟨by rw [q 50 (by decide)], by rw [q 53 (by decide)]⟩, fun _ _ => by rw [q 51 (by decide)], fun _ _ => by rw [q 52 (by decide)], q 34 (by decide), q 35 (by decide), q 36 (by decide), q 37 (by decide), q 38 (by decide), fun f hf => q f (by omega), fun j h1 h2 h3 h4 h5 => b2 j h2 h3, fun z _ => by rw [q 60 (by decide), q 61 (by decide), q 62 (by decide), q 63 (by decide), q 64 (by decide), q 65 (by decide)]; exact ⟨rfl, rfl, rfl, rfl, rfl, rfl⟩⟩ (Nat.le_refl _) (Nat.le_refl _)
    rw [q 39 (by decide), q 40 (by decide), q 41 (by decide), q 42 (by decide), q 43 (by decide), q 44 (by decide), q 45 (by decide), q 46 (by decide), q 47 (by decide), q 48 (by decide), q 49 (by decide), q 54 (by decide), q 55 (by decide)]
    exact ⟨rfl, rfl, rfl, rfl, rfl, rfl, rfl, rfl, rfl, rfl, rfl, rfl, rfl⟩
theorem rH.wld (H : rH n d pl c m hw L h p l e dp ev x0 y0 x y) (a : xG x x') (b : yG y y') (hW' : rW n ev' x' y') (hev : ev ≤ ev') : rH n d pl c m hw L h p l e dp ev' x0 y0 x' y' :=
  ⟨H.1.wld a b hW' hev, H.2.1.cg (by rw [a 12 (by decide) (by decide) (by decide) (by decide)]) (by rw [a 13 (by decide) (by decide) (by decide) (by decide)]) (b.1 43 (by decide) (by decide) (by decide) (by decide) (by decide) (by decide) (by decide) (by decide)) (b.1 44 (by decide) (by decide) (by decide) (by decide) (by decide) (by decide) (by decide) (by decide)) (b.1 45 (by decide) (by decide) (by decide) (by decide) (by decide) (by decide) (by decide) (by decide)) (b.1 46 (by decide) (by decide) (by decide) (by decide) (by decide) (by decide) (by decide) (by decide)) (b.1 50 (by decide) (by decide) (by decide) (by decide) (by decide) (by decide) (by decide) (by decide)), H.2.2⟩
theorem rN.wld (N : rN d x) (a : xG x x') : rN d x' := N.cg (by rw [a 12 (by decide) (by decide) (by decide) (by decide)])
/-- a store anew -/
theorem rW.store (w : rW n ev x y) {q : Nat} (hq : q < 8 * n) (v : Int32) {z : Int32} : rW n ev (qx_st (qx_st x 3 0 4 z) 4 0 q v) (qx_st (qx_st y 30 0 35 z) 33 0 q v) := by
  obtain ⟨w1, w2, w3, w4, w5, w6, w7, w8, w9, w10, w11⟩ := w
  refine ⟨fun k hk => ?_, fun k h1 h2 => ?_, fun c hc => ?_, fun c h1 h2 => ?_, fun u hu => ?_, ?_, w7, ?_, ?_, fun j hj => ?_, ?_⟩
  · by_cases e : k = q
    · subst e; rw [qp_st_ff, qp_st_ff]
    · rw [qp_st_j e, qp_st_j e, qp_st_f (by decide), qp_st_f (by decide)]; exact w1 k hk
  · rw [qp_st_j (by omega), qp_st_f (by decide)]; exact w2 k h1 h2
  · simp (disch := decide) only [qp_st_f]; exact w3 c hc
  · simp (disch := decide) only [qp_st_f]; exact w4 c h1 h2
  · simp (disch := decide) only [qp_st_f]; exact w5 u hu
  · simp (disch := decide) only [qp_st_f, qp_st_j]; exact w6
  · simp (disch := decide) only [qp_st_f, qp_st_j]; exact w8
  · simp (disch := decide) only [qp_st_f, qp_st_j]; exact w9
  · simp (disch := decide) only [qp_st_f]; exact w10 j hj
  · simp (disch := decide) only [qp_st_f, qp_st_ff]
/-- coins from a contract to a user -/
theorem rW.send (w : rW n ev x y) {c q : Nat} (hc : c < n) (n8 : n ≤ 8) (hq : q < 4) (v : Int32) : rW n ev (qx_st (qx_st x 5 0 c (x 5 0 c - v)) 5 0 (8 + q) (x 5 0 (8 + q) + v)) (qx_st (qx_st y 32 0 c (y 32 0 c - v)) 31 0 q (y 31 0 q + v)) := by
  obtain ⟨w1, w2, w3, w4, w5, w6, w7, w8, w9, w10, w11⟩ := w
  refine ⟨fun k hk => ?_, fun k h1 h2 => ?_, fun k hk => ?_, fun k h1 h2 => ?_, fun u hu => ?_, ?_, w7, ?_, ?_, fun j hj => ?_, ?_⟩
  · simp (disch := decide) only [qp_st_f]; exact w1 k hk
  · simp (disch := decide) only [qp_st_f]; exact w2 k h1 h2
  · have a1 : k ≠ 8 + q := by omega
    by_cases e : k = c
    · subst e
      simp (disch := first | decide | assumption) only [qp_st_f, qp_st_j, qp_st_ff, w3 k hk]
    · simp (disch := first | decide | assumption) only [qp_st_f, qp_st_j]; exact w3 k hk
  · rw [qp_st_j (by omega), qp_st_j (by omega)]; exact w4 k h1 h2
  · by_cases e : u = q
    · subst e; rw [qp_st_ff, qp_st_ff, w5 u hu]
    · rw [qp_st_j (by omega), qp_st_j (by omega), qp_st_j e, qp_st_f (by decide)]; exact w5 u hu
  · rw [qp_st_j (by omega), qp_st_j (by omega)]; simp (disch := decide) only [qp_st_f]; exact w6
  · simp (disch := decide) only [qp_st_f]; exact w8
  · simp (disch := decide) only [qp_st_f]; exact w9
  · simp (disch := decide) only [qp_st_f]; exact w10 j hj
  · simp (disch := decide) only [qp_st_f]; exact w11
/-- an event more -/
theorem rW.tell (w : rW n ev x y) (h60 : ev < 60) (v1 v2 v3 v4 : Int32) : rW n (ev + 1) (qx_st (qx_st (qx_st (qx_st (qx_st x 6 0 (4 * ev) v1) 6 0 (4 * ev + 1) v2) 6 0 (4 * ev + 2) v3) 6 0 (4 * ev + 3) v4) 3 0 3 (nI (ev + 1))) (qx_st (qx_st (qx_st (qx_st (qx_st y 56 0 ev v1) 57 0 ev v2) 58 0 ev v3) 59 0 ev v4) 30 0 30 (nI (ev + 1))) := by
  obtain ⟨w1, w2, w3, w4, w5, w6, w7, w8, w9, w10, w11⟩ := w
  refine ⟨fun k hk => ?_, fun k h1 h2 => ?_, fun k hk => ?_, fun k h1 h2 => ?_, fun u hu => ?_, ?_, by omega, qp_st_ff _ _ _ _ _, qp_st_ff _ _ _ _ _, fun j hj => ?_, ?_⟩
  · simp (disch := decide) only [qp_st_f]; exact w1 k hk
  · simp (disch := decide) only [qp_st_f]; exact w2 k h1 h2
  · simp (disch := decide) only [qp_st_f]; exact w3 k hk
  · simp (disch := decide) only [qp_st_f]; exact w4 k h1 h2
  · simp (disch := decide) only [qp_st_f]; exact w5 u hu
  · simp (disch := decide) only [qp_st_f, qp_st_j]; exact w6
  · by_cases e : j = ev
    · subst e
      have a1 : 4 * j ≠ 4 * j + 1 := by omega
      have a2 : 4 * j ≠ 4 * j + 2 := by omega
      have a3 : 4 * j ≠ 4 * j + 3 := by omega
      have a4 : 4 * j + 1 ≠ 4 * j + 2 := by omega
      have a5 : 4 * j + 1 ≠ 4 * j + 3 := by omega
      have a6 : 4 * j + 2 ≠ 4 * j + 3 := by omega
      simp (disch := first | decide | assumption) only [qp_st_f, qp_st_j, qp_st_ff, and_self]
    · have b1 : ∀ q r, q < 4 → r < 4 → 4 * j + q ≠ 4 * ev + r := fun q r h1 h2 => by omega
      have b0 : ∀ r, r < 4 → 4 * j ≠ 4 * ev + r := fun r h1 => by omega
      have c0 : 4 * j ≠ 4 * ev := by omega
      have c1 : 4 * j + 1 ≠ 4 * ev := by omega
      have c2 : 4 * j + 2 ≠ 4 * ev := by omega
      have c3 : 4 * j + 3 ≠ 4 * ev := by omega
      simp (disch := first | decide | assumption | exact b1 _ _ (by decide) (by decide) | exact b0 _ (by decide)) only [qp_st_f, qp_st_j]
      exact w10 j (by omega)
  · simp (disch := decide) only [qp_st_f, qp_st_j]; exact w11
end QW
theorem qp_stself {σ : qx_St} {f i j : Nat} {v : Int32} (h : σ f i j = v) : qx_st σ f i j v = σ := by
  funext f' i' j'
  by_cases h1 : f' = f
  · subst h1
    by_cases h2 : i' = i
    · subst h2
      by_cases h3 : j' = j
      · subst h3; rw [qp_st_ff]; exact h.symm
      · rw [qp_st_j h3]
    · rw [qp_st_i h2]
  · rw [qp_st_f h1]
section QX
variable {rf : Int32 → Int32 → qx_St → (qx_St → Prop) → Prop} {i p k : Nat} {dep a b : Int32} {n d pl c m L h p1 l e dp ev : Nat} {x0 y0 x y : qx_St} {hw : Int32}
theorem s_save (H : rH n d pl c m hw L (h + 1) p1 l e dp ev x0 y0 x y) (N : rN d x) (ho : rOk 7 a b) : aC rf i p 7 dep a b n d pl c m hw L l e dp x0 y0 x y := by
  obtain ⟨q, hq, rfl⟩ := ho.1 (Or.inr rfl)
  have hd : d < 8 := H.2.2.2.2.2.2
  have h10 : h + 1 ≤ 8 := H.2.1.1
  obtain ⟨e1, H1⟩ := H.pop
  have N1 := N.st (d := d) (j := 1) (v := nI h) (by omega)
  generalize hx1 : qx_st x 12 d 1 (nI h) = x1 at H1 N1
  generalize hy1 : qx_st y 46 0 d (nI h) = y1 at H1
  have hP := H1.1.1
  have hA := H1.1.2.2.2.2.2.2.1
  have n8 := hP.1
  have cn : c < n := hA.1
  have gx : x1 12 d 2 = nI c := hA.2.2.1
  have gy : y1 39 0 d = nI (4 * c + m) := hA.2.2.2.2.1
  have m4 : m < 4 := hA.2.1
  have ed : nI (4 * c + m) / nI 4 = nI c := by rw [pk_div (by omega) (by omega) (by omega)]; congr 1; omega
  have ec : c * 8 + q = 8 * c + q := by omega
  have hW := H1.1.2.1
  have eq4 : x1 4 0 (8 * c + q) = y1 33 0 (8 * c + q) := hW.1 _ (by omega)
  have ez : x1 3 0 4 = y1 30 0 35 := hW.2.2.2.2.2.2.2.2.2.2
  have a0 : ∀ z : Int32, z + nI 0 = z := fun z => Int32.add_zero z
  by_cases hz : x 13 d h = nI 0 ∧ ¬ x1 4 0 (8 * c + q) = nI 0
  · refine ⟨h, p1, ev, _, _, fun post hp => jx_act (by omega) ?_, fun post hp => jm_save (m_pop H.2.1.2.2.1 hd (by omega) ?_), H1.wld ((xG.st (by omega)).trans (xG.st (by omega))) ((yG.st (by omega)).trans (yG.st (by omega))) (hW.store (q := 8 * c + q) (by omega) (x 13 d h) (z := x1 3 0 4 + nI 1)) (Nat.le_refl _), N1.wld ((xG.st (by omega)).trans (xG.st (by omega)))⟩
    · refine ⟨fun h => absurd h (by decide), fun _ => x_take H.2.1.2.1 (by omega) ?_⟩
      refine ⟨fun _ => ?_, fun h => absurd rfl h⟩
      rw [hx1]
      simp (disch := omega) only [wX8_save, qp_l, gx, pk_mul, nI_add, ec, qp_in, nI_clamp, true_and, qp_fe, hz.1, hz.2, false_imp_iff, true_imp_iff, not_false_iff, not_true, and_true]
      rw [hz.1] at hp
      exact hp
    · rw [hy1, ← e1]
      have hz2 : ¬ y1 33 0 (8 * c + q) = nI 0 := by rw [← eq4]; exact hz.2
      simp (disch := first | decide | omega) only [qp_l, qp_in, nI_clamp, gy, ed, pk_mul, nI_add, true_and, qp_fe, hz.1, hz2, false_imp_iff, true_imp_iff, not_false_iff, not_true, and_true, ← ez]
      rw [hz.1] at hp
      exact hp
  · refine ⟨h, p1, ev, qx_st x1 4 0 (8 * c + q) (x 13 d h), qx_st (qx_st y1 30 0 35 (x1 3 0 4)) 33 0 (8 * c + q) (x 13 d h), fun post hp => jx_act (by omega) ?_, fun post hp => jm_save (m_pop H.2.1.2.2.1 hd (by omega) ?_), ?_, N1.wld (xG.st (by omega))⟩
    · refine ⟨fun h => absurd h (by decide), fun _ => x_take H.2.1.2.1 (by omega) ?_⟩
      refine ⟨fun _ => ?_, fun h => absurd rfl h⟩
      rw [hx1]
      simp (disch := omega) only [wX8_save, qp_l, gx, pk_mul, nI_add, ec, qp_in, nI_clamp, true_and, qp_fe]
      refine ⟨fun h1 => ⟨fun _ => ?_, fun h2 => absurd ⟨h1, h2⟩ hz⟩, fun _ => hp⟩
      exact hp
    · rw [hy1, ← e1]
      simp (disch := first | decide | omega) only [qp_l, qp_in, nI_clamp, gy, ed, pk_mul, nI_add, true_and, qp_fe, a0, ← ez]
      refine ⟨fun h1 => ⟨fun _ => hp, fun h2 => absurd ⟨h1, by rw [eq4]; exact h2⟩ hz⟩, fun _ => hp⟩
    · have w := hW.store (q := 8 * c + q) (by omega) (x 13 d h) (z := x1 3 0 4)
      rw [qp_stself (σ := x1) (f := 3) (i := 0) (j := 4) rfl] at w
      exact H1.wld (xG.st (by omega)) ((yG.st (by omega)).trans (yG.st (by omega))) w (Nat.le_refl _)
theorem s_tell (H : rH n d pl c m hw L (h + 1) p1 l e dp ev x0 y0 x y) (N : rN d x) : aC rf i p 22 (nI (d + 1)) a b n d pl c m hw L l e dp x0 y0 x y ∨ aE rf i p 22 (nI (d + 1)) a b n d pl c m hw L l e dp x0 y0 x y := by
  have hd : d < 8 := H.2.2.2.2.2.2
  have h10 : h + 1 ≤ 8 := H.2.1.1
  obtain ⟨e1, H1⟩ := H.pop
  have N1 := N.st (d := d) (j := 1) (v := nI h) (by omega)
  generalize hx1 : qx_st x 12 d 1 (nI h) = x1 at H1 N1
  generalize hy1 : qx_st y 46 0 d (nI h) = y1 at H1
  have hA := H1.1.2.2.2.2.2.2.1
  have n8 := H1.1.1.1
  have cn : c < n := hA.1
  have gx : x1 12 d 2 = nI c := hA.2.2.1
  have gy : y1 39 0 d = nI (4 * c + m) := hA.2.2.2.2.1
  have m4 : m < 4 := hA.2.1
  have ed : nI (4 * c + m) / nI 4 = nI c := by rw [pk_div (by omega) (by omega) (by omega)]; congr 1; omega
  have hW := H1.1.2.1
  have v60 : ev ≤ 60 := hW.2.2.2.2.2.2.1
  have vx : x1 3 0 3 = nI ev := hW.2.2.2.2.2.2.2.1
  have vy : y1 30 0 30 = nI ev := hW.2.2.2.2.2.2.2.2.1
  rcases Nat.lt_or_ge ev 60 with h60 | h60
  · left
    have ne : ¬ ev = 60 := by omega
    have em : ev * 4 = 4 * ev := by omega
    refine ⟨h, p1, ev + 1, _, _, fun post hp => jx_act (by omega) ?_, fun post hp => jm_tell (m_pop H.2.1.2.2.1 hd (by omega) ?_), H1.wld ((xG.st (by omega)).trans ((xG.st (by omega)).trans ((xG.st (by omega)).trans ((xG.st (by omega)).trans (xG.st (by omega)))))) ((yG.st (by omega)).trans ((yG.st (by omega)).trans ((yG.st (by omega)).trans ((yG.st (by omega)).trans (yG.st (by omega)))))) (hW.tell h60 (nI c) a (x 13 d h) (nI (d + 1))) (by omega), N1.wld ((xG.st (by omega)).trans ((xG.st (by omega)).trans ((xG.st (by omega)).trans ((xG.st (by omega)).trans (xG.st (by omega))))))⟩
    · refine ⟨fun h => absurd h (by decide), fun _ => x_take H.2.1.2.1 (by omega) ?_⟩
      refine ⟨fun h => absurd h (by decide), fun _ => ⟨fun _ => ?_, fun h => absurd rfl h⟩⟩
      rw [hx1]
      simp (disch := first | decide | omega) only [wX2_tell, wX8_addEvent, qp_l, vx, gx, qp_lt, h60, pk_mul, nI_add, em, qp_in, nI_clamp, true_and, qp_fe, qp_st_f, true_imp_iff, not_true, false_imp_iff, and_true]
      exact hp
    · rw [hy1, ← e1]
      simp (disch := first | decide | omega) only [qp_l, vy, qp_eq, ne, gy, ed, nI_add, qp_in, nI_clamp, true_and, qp_fe, qp_st_f, true_imp_iff, not_false_iff, false_imp_iff]
      exact hp
  · right
    have ee : ev = 60 := by omega
    have nl : ¬ ev < 60 := by omega
    have T := H1.thr N1 (t := 9) (by decide) 0
    refine ⟨9, 0, h, p1, ev, _, _, fun post hp => jx_act (by omega) ?_, fun post hp => jm_tell (m_pop H.2.1.2.2.1 hd (by omega) ?_), T.1, T.2⟩
    · refine ⟨fun h => absurd h (by decide), fun _ => x_take H.2.1.2.1 (by omega) ?_⟩
      refine ⟨fun h => absurd h (by decide), fun _ => ⟨fun _ => ?_, fun h => absurd rfl h⟩⟩
      rw [hx1]
      simp (disch := omega) only [wX2_tell, qp_l, vx, qp_lt, nl, true_imp_iff, not_false_iff, false_imp_iff, true_and]
      exact x_thr hp
    · rw [hy1, ← e1]
      simp (disch := omega) only [qp_l, vy, qp_eq, ee, true_imp_iff, not_true, false_imp_iff, and_true]
      exact hp
theorem s_send (H : rH n d pl c m hw L (h + 1) p1 l e dp ev x0 y0 x y) (N : rN d x) (ho : rOk 23 a b) : aC rf i p 23 dep a b n d pl c m hw L l e dp x0 y0 x y ∨ aE rf i p 23 dep a b n d pl c m hw L l e dp x0 y0 x y := by
  obtain ⟨q, hq, rfl⟩ := ho.2.2.2.1 rfl
  have hd : d < 8 := H.2.2.2.2.2.2
  have h10 : h + 1 ≤ 8 := H.2.1.1
  obtain ⟨e1, H1⟩ := H.pop
  have N1 := N.st (d := d) (j := 1) (v := nI h) (by omega)
  generalize hx1 : qx_st x 12 d 1 (nI h) = x1 at H1 N1
  generalize hy1 : qx_st y 46 0 d (nI h) = y1 at H1
  have hA := H1.1.2.2.2.2.2.2.1
  have n8 := H1.1.1.1
  have cn : c < n := hA.1
  have gx : x1 12 d 2 = nI c := hA.2.2.1
  have gy : y1 39 0 d = nI (4 * c + m) := hA.2.2.2.2.1
  have m4 : m < 4 := hA.2.1
  have ed : nI (4 * c + m) / nI 4 = nI c := by rw [pk_div (by omega) (by omega) (by omega)]; congr 1; omega
  have hW := H1.1.2.1
  have vc : x1 5 0 c = y1 32 0 c := hW.2.2.1 c cn
  have nc : 8 + q ≠ c := by omega
  by_cases hv : x 13 d h < nI 0 ∨ x1 5 0 c < x 13 d h
  · right
    have T := H1.thr N1 (t := 7) (by decide) 0
    refine ⟨7, 0, h, p1, ev, _, _, fun post hp => jx_act (by omega) ?_, fun post hp => jm_send (m_pop H.2.1.2.2.1 hd (by omega) ?_), T.1, T.2⟩
    · refine ⟨fun h => absurd h (by decide), fun _ => x_take H.2.1.2.1 (by omega) ?_⟩
      refine ⟨fun h => absurd h (by decide), fun _ => ⟨fun h => absurd h (by decide), fun _ => ⟨fun _ => ?_, fun h => absurd rfl h⟩⟩⟩
      rw [hx1]
      simp (disch := omega) only [wX2_send, wX8_canPay, qp_l, gx, qp_in, nI_clamp, true_and]
      refine ⟨fun _ => ⟨fun _ => x_thr hp, fun h => absurd trivial h⟩, fun h1 => ⟨fun _ => ⟨fun _ => x_thr hp, fun h => absurd trivial h⟩, fun h2 => (hv.elim h1 h2).elim⟩⟩
    · rw [hy1, ← e1]
      simp (disch := omega) only [qp_l, gy, ed, qp_in, nI_clamp, true_and, ← vc]
      refine ⟨fun _ => hp, fun h1 => ⟨fun h2 => absurd (hv.resolve_left h1) (Int32.not_lt.mpr h2), fun _ => hp⟩⟩
  · left
    have hv1 : ¬ x 13 d h < nI 0 := fun h => hv (Or.inl h)
    have hv2 : ¬ x1 5 0 c < x 13 d h := fun h => hv (Or.inr h)
    have hv3 : x 13 d h ≤ x1 5 0 c := Int32.not_lt.mp hv2
    refine ⟨h, p1, ev, _, _, fun post hp => jx_act (by omega) ?_, fun post hp => jm_send (m_pop H.2.1.2.2.1 hd (by omega) ?_), H1.wld ((xG.st (by omega)).trans (xG.st (by omega))) ((yG.st (by omega)).trans (yG.st (by omega))) (hW.send cn n8 hq (x 13 d h)) (Nat.le_refl _), N1.wld ((xG.st (by omega)).trans (xG.st (by omega)))⟩
    · refine ⟨fun h => absurd h (by decide), fun _ => x_take H.2.1.2.1 (by omega) ?_⟩
      refine ⟨fun h => absurd h (by decide), fun _ => ⟨fun h => absurd h (by decide), fun _ => ⟨fun _ => ?_, fun h => absurd rfl h⟩⟩⟩
      rw [hx1]
      simp (disch := omega) only [wX2_send, wX8_canPay, wX8_move, qp_l, gx, qp_in, nI_clamp, true_and, hv1, hv2, false_imp_iff, not_false_iff, true_imp_iff, nI_add, qp_fe, qp_eq]
      simp (disch := first | decide | assumption) only [qp_st_j]
      refine ⟨fun h => absurd h (by decide), fun _ => ?_⟩
      exact hp
    · rw [hy1, ← e1]
      simp (disch := first | decide | omega) only [qp_l, gy, ed, qp_in, nI_clamp, true_and, ← vc, hv1, hv3, false_imp_iff, not_false_iff, not_true, true_imp_iff, and_true, qp_fe, qp_st_f]
      rw [vc]
      exact hp
end QX
