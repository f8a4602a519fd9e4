/-! a step, the loop, a frame: all of it -/
def stC (WL : Nat → qx_St → Prop) (k i p n d pl c m : Nat) (hw : Int32) (L l : Nat) (x0 y0 x y : qx_St) : Prop := ∃ h' p' l' e' dp' ev' x' y', l' ≤ l ∧ (∀ post : qx_St → Prop, post x' → wX2_doStep (wRF k) d i (nI (d + 1)) (xDec d l p x) post) ∧ (∀ j, WL j y' → ∃ j', WL j' y) ∧ rH n d pl c m hw L h' p' l' e' dp' ev' x0 y0 x' y' ∧ rN d x'
def stE (WL : Nat → qx_St → Prop) (k i p n d pl c m : Nat) (hw : Int32) (L l : Nat) (x0 y0 x y : qx_St) : Prop := ∃ t g h' p' l' e' dp' ev' x' y', l' ≤ l ∧ (∀ post : qx_St → Prop, post x' → wX2_doStep (wRF k) d i (nI (d + 1)) (xDec d l p x) post) ∧ (∀ j, wX10_ends t g y' (WL j) → ∃ j', WL j' y) ∧ rH n d pl c m hw L h' p' l' e' dp' ev' x0 y0 x' y' ∧ rD d t g x'
section QFR
variable {WL : Nat → qx_St → Prop} {k n d pl c m L h p l e dp ev sz : Nat} {hw : Int32} {x0 y0 x y : qx_St}
theorem step_sim (hWL : ∀ k s, ¬ s 30 0 12 ≤ 0 → wX10_oneStep s (fun s' => WL k s') → WL (k + 1) s) (hF : 1 ≤ k → FS WL k) (hkd : d + 1 + k = 8) (H : rH n d pl c m hw L h p (l + 1) e dp ev x0 y0 x y) (N : rN d x) (s20 : sz ≤ 20) (sx : x 17 (4 * c + m) 3 = nI sz) (sy : y 34 0 (4 * c + m) = nI sz) (hps : p < sz) : stC WL k (4 * c + m) p n d pl c m hw L l x0 y0 x y ∨ stE WL k (4 * c + m) p n d pl c m hw L l x0 y0 x y := by
  have hd : d < 8 := H.2.2.2.2.2.2
  have hT := H.2.1
  have n8 := H.1.1.1
  obtain ⟨a1, a2, a3, a4, a5, a6, a7, a8, a9, a10, a11, a12, a13⟩ := H.1.2.2.2.2.2.2.1
  obtain ⟨t1, t2, t3, t4, t5, t6, t7, t8, t9, t10, t11, t12, t13⟩ := H.2.1
  have h32 : 4 * c + m < 32 := by omega
  obtain ⟨sz', s1, s2, s3, code⟩ := H.1.1.2.2.2.1 (4 * c + m) (by omega)
  have es : sz = sz' := (nI_eq (by omega) (by omega)).mp (sx.symm.trans s2)
  subst es
  obtain ⟨cd, c25, cx, cy, ax, bx, ok⟩ := code p hps
  have eu : L - (l + 1) + 1 = L - l := by omega
  -- behind the count
  have T1 := hT.dec (by omega)
  have H1 : rH n d pl c m hw L h (p + 1) l e dp ev x0 y0 (xDec d l p x) (yDec d l (L - l) p y) := ⟨H.1.loc ((xL.st (by omega)).trans (xL.st (by omega))) ((yL.st (by omega)).trans ((yL.st (by omega)).trans (yL.st (by omega)))), T1, by have := H.2.2.1; omega, H.2.2.2⟩
  have he : e ≤ pl + (L - l) := by have := H.2.2.1; omega
  have N1 : rN d (xDec d l p x) := (N.st (by omega)).st (by omega)
  have dx : ∀ f, f ≠ 12 → xDec d l p x f = x f := fun f hf => by unfold xDec; rw [qp_st_f hf, qp_st_f hf]
  have x7 : xDec d l p x 12 d 7 = x 12 d 7 := by unfold xDec; rw [qp_st_j (by decide), qp_st_j (by decide)]
  have gx1 : xDec d l p x 12 d 10 = nI (p + 1) := qp_st_ff _ _ _ _ _
  have gx2 : xDec d l p x 18 (4 * c + m) p = nI cd := by rw [dx 18 (by decide)]; exact cx
  have gx3 : xDec d l p x 12 d 1 = nI h := by unfold xDec; rw [qp_st_j (by decide), qp_st_j (by decide)]; exact t2
  have ea : xDec d l p x 19 (4 * c + m) p = y 37 0 (20 * (4 * c + m) + p) := by rw [dx 19 (by decide)]; exact ax
  have eb : xDec d l p x 20 (4 * c + m) p = y 38 0 (20 * (4 * c + m) + p) := by rw [dx 20 (by decide)]; exact bx
  have deep : ¬ y 30 0 12 ≤ 0 := by rw [a12]; exact nI_nle (by omega) (by omega)
  have go : ∀ (j : Nat) (post : qx_St → Prop), post = WL j → ((noFit cd h ∧ wX10_ends 8 0 (yDec d l (L - l) p y) post) ∨ (¬ noFit cd h ∧ ¬ y 49 0 d = 0 ∧ (cd = 7 ∨ cd = 22 ∨ cd = 23) ∧ wX10_ends 2 0 (yDec d l (L - l) p y) post) ∨ (¬ noFit cd h ∧ (y 49 0 d = 0 ∨ (cd ≠ 7 ∧ cd ≠ 22 ∧ cd ≠ 23)) ∧ wX10_act (nI d) (nI cd) (y 37 0 (20 * (4 * c + m) + p)) (y 38 0 (20 * (4 * c + m) + p)) (yDec d l (L - l) p y) post)) → ∃ j', WL j' y := by
    rintro j post rfl hq
    refine ⟨j + 1, hWL j y deep (m_go hd h32 a12 a5 t7 sy t11 t13 cy t3 hps s20 (by omega) c25 t1 ?_)⟩
    rw [eu]
    exact hq
  by_cases nf : noFit cd h
  · right
    have T := H1.thr N1 (t := 8) (by decide) 0
    exact ⟨8, 0, h, p + 1, l, e, dp, ev, _, _, Nat.le_refl _, fun post hp => x_go gx1 gx2 gx3 (by omega) c25 t1 (Or.inl ⟨nf, hp⟩), fun j hj => go j _ rfl (Or.inl ⟨nf, hj⟩), T.1, T.2⟩
  by_cases rw2 : ¬ x 12 d 7 = 0 ∧ (cd = 7 ∨ cd = 22 ∨ cd = 23)
  · right
    have T := H1.thr N1 (t := 2) (by decide) 0
    exact ⟨2, 0, h, p + 1, l, e, dp, ev, _, _, Nat.le_refl _, fun post hp => x_go gx1 gx2 gx3 (by omega) c25 t1 (Or.inr (Or.inl ⟨nf, by rw [x7]; exact rw2.1, rw2.2, hp⟩)), fun j hj => go j _ rfl (Or.inr (Or.inl ⟨nf, by rw [← a9]; exact rw2.1, rw2.2, hj⟩)), T.1, T.2⟩
  have rw3 : x 12 d 7 = 0 ∨ (cd ≠ 7 ∧ cd ≠ 22 ∧ cd ≠ 23) := by
    by_cases h1 : x 12 d 7 = 0
    · exact Or.inl h1
    · right
      refine ⟨fun h => rw2 ⟨h1, Or.inl h⟩, fun h => rw2 ⟨h1, Or.inr (Or.inl h)⟩, fun h => rw2 ⟨h1, Or.inr (Or.inr h)⟩⟩
  have okk : rOk cd (xDec d l p x 19 (4 * c + m) p) (xDec d l p x 20 (4 * c + m) p) := by rw [dx 19 (by decide), dx 20 (by decide)]; exact ok
  have rw4 : xDec d l p x 12 d 7 = 0 ∨ (cd ≠ 7 ∧ cd ≠ 22 ∧ cd ≠ 23) := by rw [x7]; exact rw3
  have rw5 : y 49 0 d = 0 ∨ (cd ≠ 7 ∧ cd ≠ 22 ∧ cd ≠ 23) := by rw [← a9]; exact rw3
  have px : ∀ post : qx_St → Prop, wX2_doStep_j70 (wRF k) d (4 * c + m) (nI (d + 1)) post (nI (d + 1)) (nI p) (nI cd) (xDec d l p x 19 (4 * c + m) p) (xDec d l p x) → wX2_doStep (wRF k) d (4 * c + m) (nI (d + 1)) (xDec d l p x) post := fun post hp => x_go gx1 gx2 gx3 (by omega) c25 t1 (Or.inr (Or.inr ⟨nf, rw4, hp⟩))
  by_cases hc : cd < 19 ∨ 21 < cd
  · rcases act_sim (rf := wRF k) (i := 4 * c + m) (p := p) H1 N1 (by omega) c25 hc nf okk with A | A
    · left
      obtain ⟨h', p', ev', x', y', w1, w2, w3, w4⟩ := A
      refine ⟨h', p', l, e, dp, ev', x', y', Nat.le_refl _, fun post hp => px post (w1 post hp), fun j hj => go j _ rfl (Or.inr (Or.inr ⟨nf, rw5, ?_⟩)), w3, w4⟩
      rw [← ea, ← eb]
      exact w2 _ hj
    · right
      obtain ⟨t, g, h', p', ev', x', y', w1, w2, w3, w4⟩ := A
      refine ⟨t, g, h', p', l, e, dp, ev', x', y', Nat.le_refl _, fun post hp => px post (w1 post hp), fun j hj => go j _ rfl (Or.inr (Or.inr ⟨nf, rw5, ?_⟩)), w3, w4⟩
      rw [← ea, ← eb]
      exact w2 _ hj
  · rcases call_sim hF hkd H1 N1 (show 19 ≤ cd by omega) (by omega) nf okk he with A | A
    · left
      obtain ⟨h', l', e', dp', ev', x', y', l1, w1, w2, w3, w4⟩ := A
      refine ⟨h', p + 1, l', e', dp', ev', x', y', l1, fun post hp => px post (jx_call (by omega) (by omega) (by omega) (w1 post hp)), fun j hj => ?_, w3, w4⟩
      obtain ⟨j', hj'⟩ := w2 j hj
      refine go j' _ rfl (Or.inr (Or.inr ⟨nf, rw5, ?_⟩))
      rw [← ea, ← eb]
      exact jm_call (by omega) (by omega) hj'
    · right
      obtain ⟨t, g, h', l', e', dp', ev', x', y', l1, w1, w2, w3, w4⟩ := A
      refine ⟨t, g, h', p + 1, l', e', dp', ev', x', y', l1, fun post hp => px post (jx_call (by omega) (by omega) (by omega) (w1 post hp)), fun j hj => ?_, w3, w4⟩
      obtain ⟨j', hj'⟩ := w2 j hj
      refine go j' _ rfl (Or.inr (Or.inr ⟨nf, rw5, ?_⟩))
      rw [← ea, ← eb]
      exact jm_call (by omega) (by omega) hj'
/-- the head of the loop -/
theorem l_exit {rf : Int32 → Int32 → qx_St → (qx_St → Prop) → Prop} {P1 P2 A1 A2 A6 : Int32} {i τ : Nat} {post : qx_St → Prop} (he : x 12 d 11 = 1) (hp : ∀ a7, wX2_runFrame_j159 rf P1 P2 post A1 A2 d i d A6 a7 x) : wX2_runFrame_l74 rf P1 P2 post 1 A1 A2 d i d A6 (nI τ) x := by
  unfold wX2_runFrame_l74
  rw [he]
  exact ⟨fun _ => hp _, fun _ => ⟨fun h => absurd h (by decide), fun _ => hp _⟩⟩
theorem l_head {rf : Int32 → Int32 → qx_St → (qx_St → Prop) → Prop} {P1 P2 A1 A2 A6 : Int32} {i τ q : Nat} {post : qx_St → Prop} (hτ : τ ≤ 1000) (he : x 12 d 11 = 0) (g1 : x 12 d 10 = nI p) (g2 : x 17 i 3 = nI sz) (g3 : x 12 d 9 = nI l) (hp : p ≤ 60) (hs : sz ≤ 20) (hl : l ≤ 1000)
    (hq : (p < sz ∧ ∃ l1, l = l1 + 1 ∧ wX2_doStep rf d i A2 (xDec d l1 p x) (fun s => wX2_runFrame_l74 rf P1 P2 post q A1 A2 d i d A6 (nI (τ + 1)) s)) ∨ (p < sz ∧ l = 0 ∧ wX2_runFrame_l74 rf P1 P2 post q A1 A2 d i d A6 (nI (τ + 1)) (xThr d 6 x)) ∨ (¬ p < sz ∧ wX2_runFrame_l74 rf P1 P2 post q A1 A2 d i d A6 (nI (τ + 1)) (xGiv d 0 x))) : wX2_runFrame_l74 rf P1 P2 post (q + 1) A1 A2 d i d A6 (nI τ) x := by
  have h1 : ¬ 1001 ≤ τ := by omega
  have he' : x 12 d 11 = nI 0 := he
  rcases hq with ⟨h2, l1, rfl, h3⟩ | ⟨h2, rfl, h3⟩ | ⟨h2, h3⟩
  · have h4 : 0 < l1 + 1 := by omega
    simp (disch := first | decide | omega) only [wX2_runFrame_l74, qp_l, qp_le, h1, he', g1, g2, g3, qp_lt, h2, h4, qp_fe, nI_add, pk_sub, Nat.add_sub_cancel, qp_st_j, true_imp_iff, not_true, not_false_iff, false_imp_iff, and_true, true_and]
    exact h3
  · have h4 : ¬ 0 < 0 := by omega
    simp (disch := first | decide | omega) only [wX2_runFrame_l74, qp_l, qp_le, h1, he', g1, g2, g3, qp_lt, h2, h4, nI_add, true_imp_iff, not_true, not_false_iff, false_imp_iff, and_true, true_and]
    exact x_thr h3
  · simp (disch := first | decide | omega) only [wX2_runFrame_l74, qp_l, qp_le, h1, he', g1, g2, g3, qp_lt, h2, nI_add, true_imp_iff, not_true, not_false_iff, false_imp_iff, and_true, true_and]
    exact x_giv h3
/-- the loop of a frame -/
theorem loop_sim (hWL : ∀ k s, ¬ s 30 0 12 ≤ 0 → wX10_oneStep s (fun s' => WL k s') → WL (k + 1) s) (hF : 1 ≤ k → FS WL k) (hkd : d + 1 + k = 8) {P1 A1 : Int32} : ∀ (B l h p e dp ev τ : Nat) (x y : qx_St), l < B → rH n d pl c m hw L h p l e dp ev x0 y0 x y → rN d x → τ + l ≤ 1000 →
    ∃ (t g : Int32) (h' p' l' e' dp' ev' : Nat) (x' y' : qx_St), (∀ post : qx_St → Prop, (∀ a7, wX2_runFrame_j159 (wRF k) P1 (nI (d + 1)) post A1 (nI (d + 1)) d (4 * c + m) d (nI pl) a7 x') → ∃ q, wX2_runFrame_l74 (wRF k) P1 (nI (d + 1)) post q A1 (nI (d + 1)) d (4 * c + m) d (nI pl) (nI τ) x) ∧ (∀ j, wX10_ends t g y' (WL j) → ∃ j', WL j' y) ∧ rH n d pl c m hw L h' p' l' e' dp' ev' x0 y0 x' y' ∧ rD d t g x' := by
  intro B
  induction B with
  | zero => intro l h p e dp ev τ x y hlB; omega
  | succ B ih =>
    intro l h p e dp ev τ x y hlB H N hτ
    have hd : d < 8 := H.2.2.2.2.2.2
    have n8 := H.1.1.1
    obtain ⟨a1, a2, a3, a4, a5, a6, a7, a8, a9, a10, a11, a12, a13⟩ := H.1.2.2.2.2.2.2.1
    obtain ⟨t1, t2, t3, t4, t5, t6, t7, t8, t9, t10, t11, t12, t13⟩ := H.2.1
    obtain ⟨sz, s1, s2, s3, -⟩ := H.1.1.2.2.2.1 (4 * c + m) (by omega)
    have h32 : 4 * c + m < 32 := by omega
    have deep : ¬ y 30 0 12 ≤ 0 := by rw [a12]; exact nI_nle (by omega) (by omega)
    by_cases hps : p < sz
    case neg =>
      have T := H.giv N 0
      refine ⟨0, 0, h, p, l, e, dp, ev, _, _, fun post hp => ⟨2, l_head (by omega) N.1 t6 s2 t10 t5 s1 (by omega) (Or.inr (Or.inr ⟨hps, l_exit T.2.1 hp⟩))⟩, fun j hj => ⟨j + 1, hWL j y deep (m_end0 hd h32 a12 a5 t7 s3 t5 s1 (by omega) hj)⟩, T.1, T.2⟩
    rcases Nat.eq_zero_or_pos l with rfl | hl
    · have T := H.thr N (t := 6) (by decide) 0
      exact ⟨6, 0, h, p, 0, e, dp, ev, _, _, fun post hp => ⟨2, l_head (by omega) N.1 t6 s2 t10 t5 s1 (by omega) (Or.inr (Or.inl ⟨hps, rfl, l_exit T.2.1 hp⟩))⟩, fun j hj => ⟨j + 1, hWL j y deep (m_end6 hd h32 a12 a5 t7 s3 t11 t5 s1 hps hj)⟩, T.1, T.2⟩
    obtain ⟨l1, rfl⟩ : ∃ l1, l = l1 + 1 := ⟨l - 1, by omega⟩
    rcases step_sim hWL hF hkd H N s1 s2 s3 hps with A | A
    · obtain ⟨h', p', l', e', dp', ev', x', y', l1', w1, w2, w3, w4⟩ := A
      obtain ⟨t, g, h2, p2, l2, e2, dp2, ev2, x2, y2, v1, v2, v3, v4⟩ := ih l' h' p' e' dp' ev' (τ + 1) x' y' (by omega) w3 w4 (by omega)
      refine ⟨t, g, h2, p2, l2, e2, dp2, ev2, x2, y2, fun post hp => ?_, fun j hj => ?_, v3, v4⟩
      · obtain ⟨q, hq⟩ := v1 post hp
        exact ⟨q + 1, l_head (by omega) N.1 t6 s2 t10 t5 s1 (by omega) (Or.inl ⟨hps, l1, rfl, w1 _ hq⟩)⟩
      · obtain ⟨j', hj'⟩ := v2 j hj
        exact w2 j' hj'
    · obtain ⟨t, g, h', p', l', e', dp', ev', x', y', l1', w1, w2, w3, w4⟩ := A
      refine ⟨t, g, h', p', l', e', dp', ev', x', y', fun post hp => ?_, w2, w3, w4⟩
      exact ⟨2, l_head (by omega) N.1 t6 s2 t10 t5 s1 (by omega) (Or.inl ⟨hps, l1, rfl, w1 _ (l_exit w4.1 hp)⟩)⟩
/-- a frame, by the depth that is left -/
theorem frame_sim (hWL : ∀ k s, ¬ s 30 0 12 ≤ 0 → wX10_oneStep s (fun s' => WL k s') → WL (k + 1) s) (hF : 1 ≤ k → FS WL k) : FS WL (k + 1) := by
  intro n d c m L e dp ev pay arg v cal how rd x y hk hP hW hE hM g12 hb cn m4 hpay hrd hL hdp
  have hd : d < 8 := by omega
  have n8 := hP.1
  have pay12 : pay < 12 := by rcases hpay with ⟨h1, -⟩ | ⟨u, hu, rfl, -⟩ <;> omega
  obtain ⟨H, N, -⟩ := ent_rel (how := how) hP hW hE hM g12 hb cn m4 hpay hrd hL hdp hd
  obtain ⟨t, g, h', p', l', e', dp', ev', x', y', w1, w2, w3, w4⟩ := loop_sim (P1 := nI pay) (A1 := nI pay) hWL hF (by omega) (L + 1) L 0 0 (e + 1) (mx dp (d + 1)) ev 0 _ _ (by omega) H N (by omega)
  have ev60 : ev ≤ 60 := hW.2.2.2.2.2.2.1
  obtain ⟨ev2, v1, Z⟩ := end_rel w3 w4 hW.2.2.2.2.2.2.2.1 ev60
  obtain ⟨a1, a2, a3, a4, a5, a6, a7, a8, a9, a10, a11, a12, a13⟩ := w3.1.2.2.2.2.2.2.1
  have l8 : l' ≤ L := w3.2.1.2.2.2.2.2.2.2.1
  refine ⟨t, g, L - l', e', dp', ev2, _, _, fun post hp => ?_, fun j hj => ?_, Z, ?_, by have := w3.2.2.1; omega, w3.2.2.2.2.2.1, w3.2.2.2.2.1, v1⟩
  · exact x_run hd (by omega) m4 pay12 (by omega) hdp hb.2.1 hb.2.2.1 hb.2.2.2.2.1 hE.1 hE.2.2.1 (w1 post (fun a7 => x_end (by omega) a10 w4 hp))
  · obtain ⟨j', hj'⟩ := w2 j (m_end hd (by omega) a12 a11.1 hj)
    exact ⟨j', m_enter hd n8 cn m4 hpay hrd (by omega) hdp g12 hE.2.1 hE.2.2.2 hj'⟩
  · rw [yRow_f (by decide)]
    by_cases ht : t = 0
    · rw [if_pos ht, qp_st_f (by decide)]; exact a11.2
    · rw [if_neg ht, yUndo_f (by decide), qp_st_f (by decide)]; exact a11.2
theorem frames (hWL : ∀ k s, ¬ s 30 0 12 ≤ 0 → wX10_oneStep s (fun s' => WL k s') → WL (k + 1) s) : ∀ k, 1 ≤ k → FS WL k := by
  intro k
  induction k with
  | zero => intro h; omega
  | succ k ih => intro _; exact frame_sim hWL ih
end QFR
