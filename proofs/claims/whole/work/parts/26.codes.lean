/-! each code -/
def aC (rf : Int32 → Int32 → qx_St → (qx_St → Prop) → Prop) (i p k : Nat) (dep a b : Int32) (n d pl c m : Nat) (hw : Int32) (L l e dp : Nat) (x0 y0 x y : qx_St) : Prop := ∃ h p' ev x' y', (∀ post : qx_St → Prop, post x' → wX2_doStep_j70 rf d i dep post dep (nI p) (nI k) a x) ∧ (∀ post : qx_St → Prop, post y' → wX10_act (nI d) (nI k) a b y post) ∧ rH n d pl c m hw L h p' l e dp ev x0 y0 x' y' ∧ rN d x'
def aE (rf : Int32 → Int32 → qx_St → (qx_St → Prop) → Prop) (i p k : Nat) (dep a b : Int32) (n d pl c m : Nat) (hw : Int32) (L l e dp : Nat) (x0 y0 x y : qx_St) : Prop := ∃ t g h p' ev x' y', (∀ post : qx_St → Prop, post x' → wX2_doStep_j70 rf d i dep post dep (nI p) (nI k) a x) ∧ (∀ post : qx_St → Prop, wX10_ends t g y' post → wX10_act (nI d) (nI k) a b y post) ∧ rH n d pl c m hw L h p' l e dp ev x0 y0 x' y' ∧ rD d t g x'
section QC
variable {rf : Int32 → Int32 → qx_St → (qx_St → Prop) → Prop} {i p k : Nat} {dep a b : Int32} {n d pl c m L h p1 l e dp ev : Nat} {x0 y0 x y : qx_St} {hw : Int32}
theorem s_num (H : rH n d pl c m hw L h p1 l e dp ev x0 y0 x y) (N : rN d x) (hk : k ≤ 6) (ho : rOk k a b) (h8 : h < 8) : aC rf i p k dep a b n d pl c m hw L l e dp x0 y0 x y := by
  obtain ⟨v, hx, hy⟩ := num_sim H hk ho
  have hd : d < 8 := H.2.2.2.2.2.2
  exact ⟨h + 1, p1, ev, _, _, fun post hp => jx_num hk (hx _ (x_put H.2.1.2.1 h8 hp)), fun post hp => jm_num hk (hy _ (m_push H.2.1.2.2.1 hd h8 hp)), H.push h8 v, (N.stf (by decide)).st (by omega)⟩
/-- two numbers are taken -/
theorem two (H : rH n d pl c m hw L (h + 2) p1 l e dp ev x0 y0 x y) (N : rN d x) : ∃ (r s : Int32) (x' y' : qx_St), (∀ post : Int32 → Int32 → qx_St → Prop, post r s x' → wX1_take d x (fun r2 s1 => wX1_take d s1 (fun r4 s3 => post r2 r4 s3))) ∧ (∀ post : Int32 → Int32 → qx_St → Prop, post r s y' → wX10_pop (nI d) y (fun r2 s1 => wX10_pop (nI d) s1 (fun r4 s3 => post r2 r4 s3))) ∧ rH n d pl c m hw L h p1 l e dp ev x0 y0 x' y' ∧ rN d x' := by
  have hd : d < 8 := H.2.2.2.2.2.2
  have h10 : h + 2 ≤ 8 := H.2.1.1
  obtain ⟨e1, H1⟩ := H.pop
  obtain ⟨e2, H2⟩ := H1.pop
  refine ⟨x 13 d (h + 1), _, _, _, fun post hp => x_take H.2.1.2.1 (by omega) (x_take H1.2.1.2.1 (by omega) hp), fun post hp => m_pop H.2.1.2.2.1 hd (by omega) (m_pop H1.2.1.2.2.1 hd (by omega) ?_), H2, (N.st (by omega)).st (by omega)⟩
  rw [← e1, ← e2]
  exact hp
theorem s_comb (H : rH n d pl c m hw L (h + 2) p1 l e dp ev x0 y0 x y) (N : rN d x) (h1 : 8 ≤ k) (hk : k ≤ 13) : aC rf i p k dep a b n d pl c m hw L l e dp x0 y0 x y ∨ aE rf i p k dep a b n d pl c m hw L l e dp x0 y0 x y := by
  have hd : d < 8 := H.2.2.2.2.2.2
  have h10 : h + 2 ≤ 8 := H.2.1.1
  obtain ⟨r, s, x', y', hx, hy, H', N'⟩ := two H N
  have go : ∀ v : Int32, (∀ post : qx_St → Prop, wX1_put d v x' post → wX2_combine d (nI k) x post) → (∀ post : qx_St → Prop, wX10_push (nI d) v y' post → wX10_reckon (nI d) (nI k) y post) → aC rf i p k dep a b n d pl c m hw L l e dp x0 y0 x y := fun v w1 w2 => ⟨h + 1, p1, ev, _, _, fun post hp => jx_comb h1 hk (w1 _ (x_put H'.2.1.2.1 (by omega) hp)), fun post hp => jm_rek (Or.inl ⟨h1, hk⟩) (w2 _ (m_push H'.2.1.2.2.1 hd (by omega) hp)), H'.push (by omega) v, (N'.stf (by decide)).st (by omega)⟩
  rcases (show k = 8 ∨ k = 9 ∨ k = 10 ∨ k = 11 ∨ k = 12 ∨ k = 13 by omega) with rfl | rfl | rfl | rfl | rfl | rfl
  · left
    refine go (s + r) (fun post hp => hx _ ?_) (fun post hp => hy _ ?_)
    · simp (disch := omega) only [wX2_combined, qp_sw8, qp_l, qp_eq]; simp; exact hp
    · simp (disch := omega) only [wX10_reckon_j30, qp_sw8, qp_l, qp_eq]; simp; exact hp
  · left
    refine go (s - r) (fun post hp => hx _ ?_) (fun post hp => hy _ ?_)
    · simp (disch := omega) only [wX2_combined, qp_sw8, qp_l, qp_eq]; simp; exact hp
    · simp (disch := omega) only [wX10_reckon_j30, qp_sw8, qp_l, qp_eq]; simp; exact hp
  · left
    refine go (s * r) (fun post hp => hx _ ?_) (fun post hp => hy _ ?_)
    · simp (disch := omega) only [wX2_combined, qp_sw8, qp_l, qp_eq]; simp; exact hp
    · simp (disch := omega) only [wX10_reckon_j30, qp_sw8, qp_l, qp_eq]; simp; exact hp
  · by_cases hr : r = 0
    · right
      have T := H'.thr N' (t := 3) (by decide) 0
      refine ⟨3, 0, h, p1, ev, _, _, fun post hp => jx_comb h1 hk (hx _ ?_), fun post hp => jm_rek (Or.inl ⟨h1, hk⟩) (hy _ ?_), T.1, T.2⟩
      · refine ⟨fun _ => ?_, fun h => absurd rfl h⟩
        refine ⟨fun _ => x_thr hp, fun h => absurd hr h⟩
      · refine ⟨fun _ => ⟨fun _ => hp, fun h => absurd hr h⟩, fun h => absurd rfl h⟩
    · left
      refine go (s / r) (fun post hp => hx _ ?_) (fun post hp => hy _ ?_)
      · refine ⟨fun _ => ⟨fun h => absurd h hr, fun _ => ⟨hr, hp⟩⟩, fun h => absurd rfl h⟩
      · refine ⟨fun _ => ⟨fun h => absurd h hr, fun _ => ?_⟩, fun h => absurd rfl h⟩
        have e1 := qp_div (a := s) hr
        have e2 := qp_div0 hr
        simp (disch := omega) only [wX10_reckon_j30, qp_sw8, qp_l, qp_eq, e1]; simp; exact ⟨e2, hp⟩
  · left
    by_cases hc : r ≤ s
    · refine go 0 (fun post hp => hx _ ?_) (fun post hp => hy _ ?_)
      · simp (disch := omega) only [wX2_combined, qp_sw8, qp_l, qp_eq]; simp [hc]; exact hp
      · simp (disch := omega) only [wX10_reckon_j30, qp_sw8, qp_l, qp_eq]; simp [hc]; exact hp
    · refine go 1 (fun post hp => hx _ ?_) (fun post hp => hy _ ?_)
      · simp (disch := omega) only [wX2_combined, qp_sw8, qp_l, qp_eq]; simp [hc]; exact hp
      · simp (disch := omega) only [wX10_reckon_j30, qp_sw8, qp_l, qp_eq]; simp [hc]; exact hp
  · left
    by_cases hc : s = r
    · refine go 1 (fun post hp => hx _ ?_) (fun post hp => hy _ ?_)
      · simp (disch := omega) only [wX2_combined, qp_sw8, qp_l, qp_eq]; simp [hc]; exact hp
      · simp (disch := omega) only [wX10_reckon_j30, qp_sw8, qp_l, qp_eq]; simp [hc]; exact hp
    · refine go 0 (fun post hp => hx _ ?_) (fun post hp => hy _ ?_)
      · simp (disch := omega) only [wX2_combined, qp_sw8, qp_l, qp_eq]; simp [hc]; exact hp
      · simp (disch := omega) only [wX10_reckon_j30, qp_sw8, qp_l, qp_eq]; simp [hc]; exact hp
end QC
