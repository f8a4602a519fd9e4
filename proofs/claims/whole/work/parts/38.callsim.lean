/-! CALL, TRY, LOOK, side by side -/
section QCS
variable {WL : Nat → qx_St → Prop} {k cd n d pl c m L h p l e dp ev : Nat} {hw a b : Int32} {x0 y0 x y : qx_St}
def cC (WL : Nat → qx_St → Prop) (k cd : Nat) (a b : Int32) (n d pl c m : Nat) (hw : Int32) (L p l : Nat) (x0 y0 x y : qx_St) : Prop := ∃ h' l' e' dp' ev' x' y', l' ≤ l ∧ (∀ post : qx_St → Prop, post x' → wX2_callOther (wRF k) d (nI cd) a b (nI (d + 1)) x post) ∧ (∀ j, WL j y' → ∃ j', wX10_callOut (nI d) (nI cd) a b y (WL j')) ∧ rH n d pl c m hw L h' p l' e' dp' ev' x0 y0 x' y' ∧ rN d x'
def cE (WL : Nat → qx_St → Prop) (k cd : Nat) (a b : Int32) (n d pl c m : Nat) (hw : Int32) (L p l : Nat) (x0 y0 x y : qx_St) : Prop := ∃ t g h' l' e' dp' ev' x' y', l' ≤ l ∧ (∀ post : qx_St → Prop, post x' → wX2_callOther (wRF k) d (nI cd) a b (nI (d + 1)) x post) ∧ (∀ j, wX10_ends t g y' (WL j) → ∃ j', wX10_callOut (nI d) (nI cd) a b y (WL j')) ∧ rH n d pl c m hw L h' p l' e' dp' ev' x0 y0 x' y' ∧ rD d t g x'
/-- behind the arguments -/
theorem call_core {g q r : Nat} {arg v : Int32} {x1 y1 : qx_St} (hF : 1 ≤ k → FS WL k) (hkd : d + 1 + k = 8) (H : rH n d pl c m hw L (g + 1) p l e dp ev x0 y0 x1 y1) (N : rN d x1) (c1 : 19 ≤ cd) (c2 : cd ≤ 21) (hg : g + ptN cd ≤ 8) (q8 : q < 8) (r4 : r < 4) (he : e ≤ pl + (L - l))
    (wx : ∀ post : qx_St → Prop, wX2_callOther_j20 (wRF k) d (nI cd) (nI q) (nI r) (nI (d + 1)) post (nI cd) (nI q) (nI r) (nI (d + 1)) arg v x1 → wX2_callOther (wRF k) d (nI cd) (nI q) (nI r) (nI (d + 1)) x post) (wy : ∀ post : qx_St → Prop, wX10_callOut_j22 (nI d) (nI cd) (nI q) (nI r) post (nI d) (nI cd) (nI q) (nI r) arg v y1 → wX10_callOut (nI d) (nI cd) (nI q) (nI r) y post) :
    cC WL k cd (nI q) (nI r) n d pl c m hw L p l x0 y0 x y ∨ cE WL k cd (nI q) (nI r) n d pl c m hw L p l x0 y0 x y := by
  have hd : d < 8 := H.2.2.2.2.2.2
  have g8 : g + 1 ≤ 8 := H.2.1.1
  have hl : l ≤ L := H.2.1.2.2.2.2.2.2.2.1
  have hL : L ≤ 1000 := H.2.1.2.2.2.2.2.2.2.2.1
  have hB : pl + 1 + L ≤ 1001 := H.2.2.2.1
  obtain ⟨e1, H2⟩ := H.pop
  have N2 := N.st (d := d) (j := 1) (v := nI g) (by omega)
  obtain ⟨w, sx, sy, s0⟩ := shut_sim (v := v) H2 q8 r4
  by_cases hw0 : w = 0
  case neg =>
    -- it can't be entered
    by_cases c20 : cd = 20
    · left
      subst c20
      have h2 : g + 2 ≤ 8 := hg
      have H3 := H2.push (by omega) w
      have H4 := H3.push (by omega) (nI 0)
      refine ⟨g + 2, l, e, dp, ev, _, _, Nat.le_refl _, fun post hp => wx post (j20_no H.2.1.2.1 (by omega) sx hw0 ?_), fun j hj => ⟨j, wy _ (m22_no H.2.1.2.2.1 hd (by omega) sy hw0 (by omega) ⟨fun _ => ?_, fun h => absurd rfl h⟩)⟩, H4, ((((N2.stf (by decide)).st (by omega)).stf (by decide)).st (by omega))⟩
      · exact ⟨fun _ => x_put H2.2.1.2.1 (by omega) (x_put H3.2.1.2.1 (by omega) hp), fun h => absurd rfl h⟩
      · exact m_push H2.2.1.2.2.1 hd (by omega) (m_push H3.2.1.2.2.1 hd (by omega) hj)
    · right
      have T := H2.thr N2 (t := w) hw0 0
      have n20 : ¬ nI cd = 20 := fun h => c20 ((nI_eq (b := 20) (by omega) (by omega)).mp h)
      exact ⟨w, 0, g, l, e, dp, ev, _, _, Nat.le_refl _, fun post hp => wx post (j20_no H.2.1.2.1 (by omega) sx hw0 ⟨fun h => absurd h n20, fun _ => x_thr hp⟩), fun j hj => ⟨j, wy _ (m22_no H.2.1.2.2.1 hd (by omega) sy hw0 (by omega) ⟨fun h => absurd h c20, fun _ => hj⟩)⟩, T.1, T.2⟩
  subst hw0
  obtain ⟨qn, d7⟩ := s0 rfl
  have F := hF (by omega)
  have hA := H2.1.2.2.2.2.2.2.1
  obtain ⟨a1, a2, a3, a4, a5, a6, a7, a8, a9, a10, a11, a12, a13⟩ := hA
  have n8 : n ≤ 8 := H2.1.1.1
  obtain ⟨L', hL', eL, mL⟩ := lim_eq l (by omega) (x1 13 d g)
  have A1 := H.1.2.2.2.2.2.2.1
  -- whether it only reads
  obtain ⟨rd, hrx, hry, hrz⟩ : ∃ rd : Int32, ((x1 12 d 7 = nI 0 ∧ ¬ cd = 21 ∧ rd = nI 0) ∨ ((¬ x1 12 d 7 = nI 0 ∨ cd = 21) ∧ rd = nI 1)) ∧ ((y1 49 0 d = nI 0 ∧ ¬ cd = 21 ∧ rd = nI 0) ∨ ((¬ y1 49 0 d = nI 0 ∨ cd = 21) ∧ rd = nI 1)) ∧ qx_vz rd := by
    have e9 : x1 12 d 7 = y1 49 0 d := A1.2.2.2.2.2.2.2.2.1
    rw [← e9]
    by_cases h1 : x1 12 d 7 = nI 0
    · by_cases h2 : cd = 21
      · exact ⟨nI 1, Or.inr ⟨Or.inr h2, rfl⟩, Or.inr ⟨Or.inr h2, rfl⟩, Or.inr rfl⟩
      · exact ⟨nI 0, Or.inl ⟨h1, h2, rfl⟩, Or.inl ⟨h1, h2, rfl⟩, Or.inl rfl⟩
    · exact ⟨nI 1, Or.inr ⟨Or.inl h1, rfl⟩, Or.inr ⟨Or.inl h1, rfl⟩, Or.inr rfl⟩
  generalize hx2 : qx_st x1 12 d 1 (nI g) = x2 at *
  generalize hy2 : qx_st y1 46 0 d (nI g) = y2 at *
  have ev60 : ev ≤ 60 := H2.1.2.1.2.2.2.2.2.2.1
  obtain ⟨t, gv, u, e', dp', ev', x5, y5, fX, fY, Z, f47, fe1, fe2, fdp, fev⟩ := F n (d + 1) q r L' e dp ev c arg v (nI c) (nI cd) rd (xS (d + 1) q r L' arg v (nI c) rd x2) y2 (by omega) (H2.1.1.cg (xS_f (by decide)) (xS_f (by decide)) (xS_f (by decide)) (xS_f (by decide)) (xS_f (by decide)) rfl rfl rfl rfl rfl rfl) (H2.1.2.1.cg (xS_f (by decide)) (xS_f (by decide)) (xS_f (by decide)) (xS_f (by decide)) rfl rfl rfl rfl rfl rfl rfl rfl rfl rfl) (H2.1.2.2.2.1.cg (by rw [xS_f (by decide)]) (by rw [xS_f (by decide)]) rfl rfl) ((H2.1.2.2.2.2.2.1.top H2.1.2.2.2.2.2.2.1).cg (fun k hk => xS_k (by omega)) (fun k hk => rfl)) a12 xS_b qn r4 (Or.inl ⟨a1, rfl⟩) hrz (by omega) H2.2.2.2.2.1
  have hu : u ≤ L' := Z.2.2.2.2.2.2.2.2.1
  obtain ⟨R, xd, y43, y44⟩ := back_rel H2 Z (by omega) he fe1 fe2 fdp fev
  have zD : rD (d + 1) t gv x5 := Z.2.2.2.2.2.2.2.1
  have z2 : x5 12 (d + 1) 8 = nI L' := Z.2.2.2.2.2.2.2.2.2.1
  have z3 : x5 12 (d + 1) 9 = nI (L' - u) := Z.2.2.2.2.2.2.2.2.2.2.1
  have z4 : y5 44 0 (d + 1) = nI u := Z.2.2.2.2.2.2.2.2.2.2.2.1
  have t9 : x2 12 d 9 = nI l := H2.2.1.2.2.2.2.2.2.2.2.2.1
  have t11 : y2 43 0 d = nI l := H2.2.1.2.2.2.2.2.2.2.2.2.2.1
  have t13 : y2 44 0 d = nI (L - l) := H2.2.1.2.2.2.2.2.2.2.2.2.2.2.2
  have dd : d + 1 ≠ d := by omega
  -- the class behind the frame
  generalize hx6 : qx_st x5 12 d 9 (nI (l - u)) = x6 at R
  generalize hy6 : qx_st (qx_st y5 44 0 d (nI (L - l + u))) 43 0 d (nI (l - u)) = y6 at R
  have N6 : rN d x6 := by
    have : rN d x5 := N2.cg xd
    rw [← hx6]; exact this.st (by omega)
  have x6d : x6 12 (d + 1) = x5 12 (d + 1) := by rw [← hx6]; exact qp_st_i dd
  have aft : ∀ post : qx_St → Prop, ((t = 0 → wX2_answerGiven d (nI cd) gv x6 post) ∧ (¬ t = 0 → wX2_answerThrown d (nI cd) t x6 post)) → wX2_callOther (wRF k) d (nI cd) (nI q) (nI r) (nI (d + 1)) x post := by
    intro post hp
    refine wx post (j20_yes H.2.1.2.1 (by omega) (by omega) (by omega) (fun post' hp' => ?_) A1.2.2.1 ?_ eL hrx ?_)
    · rw [hx2] at hp' ⊢; exact sx _ hp'
    · have := t9; rw [← hx2, qp_st_j (by decide)] at this; exact this
    · rw [hx2]
      refine fX _ ?_
      unfold xAft wX1_used wX1_hasThrown
      have eu : nI L' - nI (L' - u) = nI u := by rw [pk_sub (by omega)]; congr 1; omega
      have el : nI l - nI u = nI (l - u) := pk_sub (by omega)
      rw [z2, z3, eu, xd, t9]
      dsimp only
      rw [el, hx6, x6d, zD.2.1]
      refine ⟨fun h => ⟨fun _ => ?_, fun h2 => absurd rfl h2⟩, fun h => ⟨fun h2 => absurd h2 (by decide), fun _ => hp.2 h⟩⟩
      rw [zD.2.2.1 h]
      exact hp.1 h
  -- the reference behind it
  have yj : ∀ j, (∃ z, (t = 0 → wX10_ends_j188 t gv (WL j) (wX10_ends_l8 t gv (WL j) z) t gv t gv 1 (nI (d + 1)) (nI e) 0 y6) ∧ (¬ t = 0 → (cd = 20 → wX10_ends_j188 t gv (WL j) (wX10_ends_l8 t gv (WL j) z) t gv t gv 1 (nI (d + 1)) (nI e) 0 y6) ∧ (¬ cd = 20 → wX10_ends_j188 t gv (WL j) (wX10_ends_l8 t gv (WL j) z) t gv t gv 1 (nI (d + 1)) (nI e) 1 y6))) → ∃ j', wX10_callOut (nI d) (nI cd) (nI q) (nI r) y (WL j') := by
    rintro j ⟨z, hz⟩
    obtain ⟨j', hj'⟩ := fY j ⟨z, by
      have e0 : (nI (d + 1) = nI 0) = False := eq_false (nI_ne0 (by omega) (by omega))
      have ep : nI (d + 1) - nI 1 = nI d := nI_pred d
      have eq1 : nI (L - l) + nI u = nI (L - l + u) := nI_add _ _
      have el : nI l - nI u = nI (l - u) := pk_sub (by omega)
      have e47 : y6 47 0 (d + 1) = nI cd := by rw [← hy6, qp_st_f (by decide), qp_st_f (by decide)]; exact f47
      have e20 : (nI cd = nI 20) = (cd = 20) := qp_eq (by omega) (by omega)
      have a44 : qx_st y5 44 0 d (nI (L - l + u)) 44 0 (d + 1) = nI u := by rw [qp_st_j dd]; exact z4
      simp (disch := first | decide | omega) only [wX10_ends_j94, wX10_ends_j187, qp_l, e0, ep, false_imp_iff, not_false_iff, true_imp_iff, true_and, qp_in, nI_clamp, qp_fe, y44, y43, t13, t11, z4, eq1, a44, qp_st_f, el, hy6, f47, e20]
      exact hz⟩
    refine ⟨j', wy _ (m22_yes (l := l) (L' := L') H.2.1.2.2.1 hd (by omega) q8 r4 a2 (by omega) (fun post' hp' => ?_) (by omega) A1.2.2.2.2.1 ?_ (by omega) (by rw [← e1]; exact mL) hry ?_)⟩
    · rw [hy2] at hp' ⊢; exact sy _ hp'
    · have := t11; rw [← hy2, qp_st_f (by decide)] at this; exact this
    · rw [hy2]; exact hj'
  have ep : nI (d + 1) - 1 = nI d := nI_pred d
  have stop : ∀ (j : Nat) (s : qx_St) (z : Int32), WL j s → wX10_ends_l8 t gv (WL j) 1 t gv t gv 0 s := fun j s z h => ⟨fun _ => h, fun h => absurd rfl h⟩
  by_cases ht : t = 0
  · left
    have H7 := R.push (by omega) gv
    by_cases c20 : cd = 20
    · subst c20
      have h2 : g + 2 ≤ 8 := hg
      have H8 := H7.push (by omega) (nI 1)
      refine ⟨g + 2, l - u, e', dp', ev', _, _, by omega, fun post hp => aft post ⟨fun _ => x_put R.2.1.2.1 (by omega) ⟨fun _ => x_put H7.2.1.2.1 (by omega) hp, fun h => absurd rfl h⟩, fun h => absurd ht h⟩, fun j hj => yj j ⟨1, fun _ => ⟨fun _ => ⟨fun _ => ?_, fun h => absurd ht h⟩, fun h => absurd rfl h⟩, fun h => absurd ht h⟩, H8, (((N6.stf (by decide)).st (by omega)).stf (by decide)).st (by omega)⟩
      unfold wX10_ends_j210
      rw [ep]
      refine m_push R.2.1.2.2.1 hd (by omega) ?_
      have e47 : (qx_st (qx_st y6 50 0 (8 * d + g) gv) 46 0 d (nI (g + 1))) 47 0 (d + 1) = nI 20 := by rw [qp_st_f (by decide), qp_st_f (by decide), ← hy6, qp_st_f (by decide), qp_st_f (by decide)]; exact f47
      have hin : vp_in (nI (d + 1)) 8 := vp_in_nI (by omega) (by omega)
      have ec : (nI (d + 1)).toNatClampNeg = d + 1 := nI_clamp (by omega)
      refine ⟨hin, ?_⟩
      rw [ec, e47]
      refine ⟨fun _ => ⟨fun _ => ?_, fun h => absurd ht h⟩, fun h => absurd rfl h⟩
      exact m_push H7.2.1.2.2.1 hd (by omega) (stop j _ 0 hj)
    · have n20 : ¬ nI cd = 20 := fun h => c20 ((nI_eq (b := 20) (by omega) (by omega)).mp h)
      refine ⟨g + 1, l - u, e', dp', ev', _, _, by omega, fun post hp => aft post ⟨fun _ => x_put R.2.1.2.1 (by omega) ⟨fun h => absurd h n20, fun _ => hp⟩, fun h => absurd ht h⟩, fun j hj => yj j ⟨1, fun _ => ⟨fun _ => ⟨fun _ => ?_, fun h => absurd ht h⟩, fun h => absurd rfl h⟩, fun h => absurd ht h⟩, H7, (N6.stf (by decide)).st (by omega)⟩
      unfold wX10_ends_j210
      rw [ep]
      refine m_push R.2.1.2.2.1 hd (by omega) ?_
      have e47 : (qx_st (qx_st y6 50 0 (8 * d + g) gv) 46 0 d (nI (g + 1))) 47 0 (d + 1) = nI cd := by rw [qp_st_f (by decide), qp_st_f (by decide), ← hy6, qp_st_f (by decide), qp_st_f (by decide)]; exact f47
      have hin : vp_in (nI (d + 1)) 8 := vp_in_nI (by omega) (by omega)
      have ec : (nI (d + 1)).toNatClampNeg = d + 1 := nI_clamp (by omega)
      refine ⟨hin, ?_⟩
      rw [ec, e47]
      exact ⟨fun h => absurd h n20, fun _ => stop j _ 0 hj⟩
  · by_cases c20 : cd = 20
    · left
      subst c20
      have h2 : g + 2 ≤ 8 := hg
      have H7 := R.push (by omega) t
      have H8 := H7.push (by omega) (nI 0)
      refine ⟨g + 2, l - u, e', dp', ev', _, _, by omega, fun post hp => aft post ⟨fun h => absurd h ht, fun _ => ⟨fun _ => x_put R.2.1.2.1 (by omega) (x_put H7.2.1.2.1 (by omega) hp), fun h => absurd rfl h⟩⟩, fun j hj => yj j ⟨1, fun h => absurd h ht, fun _ => ⟨fun _ => ⟨fun _ => ⟨fun h => absurd h ht, fun _ => ?_⟩, fun h => absurd rfl h⟩, fun h => absurd rfl h⟩⟩, H8, (((N6.stf (by decide)).st (by omega)).stf (by decide)).st (by omega)⟩
      unfold wX10_ends_j210
      rw [ep]
      refine m_push R.2.1.2.2.1 hd (by omega) ?_
      have e47 : (qx_st (qx_st y6 50 0 (8 * d + g) t) 46 0 d (nI (g + 1))) 47 0 (d + 1) = nI 20 := by rw [qp_st_f (by decide), qp_st_f (by decide), ← hy6, qp_st_f (by decide), qp_st_f (by decide)]; exact f47
      have hin : vp_in (nI (d + 1)) 8 := vp_in_nI (by omega) (by omega)
      have ec : (nI (d + 1)).toNatClampNeg = d + 1 := nI_clamp (by omega)
      refine ⟨hin, ?_⟩
      rw [ec, e47]
      refine ⟨fun _ => ⟨fun h => absurd h ht, fun _ => ?_⟩, fun h => absurd rfl h⟩
      exact m_push H7.2.1.2.2.1 hd (by omega) (stop j _ 0 hj)
    · right
      have n20 : ¬ nI cd = 20 := fun h => c20 ((nI_eq (b := 20) (by omega) (by omega)).mp h)
      have T := R.thr N6 ht gv
      refine ⟨t, gv, g, l - u, e', dp', ev', _, _, by omega, fun post hp => aft post ⟨fun h => absurd h ht, fun _ => ⟨fun h => absurd h n20, fun _ => x_thr hp⟩⟩, fun j hj => ?_, T.1, T.2⟩
      obtain ⟨z, hz⟩ := hj
      exact yj j ⟨z, fun h => absurd h ht, fun _ => ⟨fun h => absurd h c20, fun _ => ⟨fun h => absurd h (by decide), fun _ => hz⟩⟩⟩
end QCS
