/-! call, and the law's loop -/
section QCALL
variable {s : qx_St}
theorem q_call_main {n ev e0 u c m v L : Nat} {arg : Int32} (hP : rP n s s) (hV : rV n ev s s) (hQ : rQ e0 s s) (hu : u < 4) (cn : c < n) (m4 : m < 4) (hL : L ≤ 1000) (A B : qx_St → (Int32 → qx_St → Prop) → Prop)
    (hA : ∀ post : Int32 → qx_St → Prop, wX2_runForUser (nI u) (nI c) (nI m) arg (nI v) (nI L) s (fun s3 => (((s3 7 0 2) = 0 → post (1 : Int32) s3) ∧ (¬ ((s3 7 0 2) = 0) → post (0 : Int32) s3))) → A s post)
    (hB : ∀ (s1 : qx_St) (post : Int32 → qx_St → Prop), (∀ f, 30 ≤ f → s1 f = s f) → wX10_enter (nI (4 * c + m)) arg (nI v) (nI (100 + u)) (nI L) (nI 0) (nI 0) (yStart s1) (fun s23 => ∃ n, wX10_call_l137 (nI u) (nI c) (nI m) arg (nI v) (nI L) post n (nI u) (nI c) (nI m) arg (nI v) (nI L) s23) → B s1 post) : QR A B s := by
  obtain ⟨k1, k2, k3, k4, k5⟩ := start_rel (c := c) (m := m) (L := L) (arg := arg) (v := nI v) (cal := nI (100 + u)) (rd := nI 0) (s1 := s) hP hV (fun _ _ => rfl)
  have hpay : pC n (8 + u) (nI (100 + u)) := Or.inr ⟨u, hu, rfl, rfl⟩
  obtain ⟨t, g, uu, e', dp', ev', x, y0, cls, -, Z, he, -⟩ := frame_top (WL := fun _ _ => True) (fun _ _ _ _ => trivial) n c m L (8 + u) arg (nI v) (nI (100 + u)) (nI 0) (nI 0) _ _ k1 k2 k3 k4 k5 cn m4 hpay (Or.inl rfl) hL
  have hD := Z.2.2.2.2.2.2.2.1
  have huu : uu ≤ L := Z.2.2.2.2.2.2.2.2.1
  have h8 := Z.2.2.2.2.2.2.2.2.2.1
  have h9 := Z.2.2.2.2.2.2.2.2.2.2.1
  have xF1 := Z.2.2.2.2.2.1
  obtain ⟨r, r2, r3, j, c10, c11, H⟩ : ∃ (r r2 r3 : Int32) (j : Nat) (c10 c11 : Int32), (t = 0 ∧ r = 1 ∧ r2 = nI 0 ∧ r3 = g ∧ j = 8 ∧ c10 = nI 1 ∧ c11 = nI 0) ∨ (¬ t = 0 ∧ r = 0 ∧ r2 = nI 1 ∧ r3 = t ∧ j = 9 ∧ c10 = nI 0 ∧ c11 = nI 1) := by
    by_cases ht : t = 0
    · exact ⟨_, _, _, _, _, _, Or.inl ⟨ht, rfl, rfl, rfl, rfl, rfl, rfl⟩⟩
    · exact ⟨_, _, _, _, _, _, Or.inr ⟨ht, rfl, rfl, rfl, rfl, rfl, rfl⟩⟩
  obtain ⟨back, hb⟩ : ∃ back, (if nI (uu / 2) < x 3 0 4 then nI (uu / 2) else x 3 0 4) = back := ⟨_, rfl⟩
  have j8 : j = 8 ∨ j = 9 := by rcases H with ⟨-, -, -, -, h, -⟩ | ⟨-, -, -, -, h, -⟩ <;> omega
  have X72 : (xEnd u (nI uu - back) back r2 r3 (nI uu) j x) 7 0 2 = r2 := by
    unfold xEnd
    simp (disch := omega) only [qp_st_f, qp_st_j, qp_st_ff]
  have xf' : ∀ f, 30 ≤ f → (xEnd u (nI uu - back) back r2 r3 (nI uu) j x) f = s f := fun f hf => by
    have h1 : (xEnd u (nI uu - back) back r2 r3 (nI uu) j x) f = x f := by
      unfold xEnd
      simp (disch := omega) only [qp_st_f]
    rw [h1, xF1.2.2.2.2.2.2.1 f hf]
    unfold xS xStart
    simp (disch := omega) only [qp_st_f]
  refine ⟨r, xEnd u (nI uu - back) back r2 r3 (nI uu) j x, fun post hp => ?_, fun post hp => ?_⟩
  · refine hA post (x_user (cls _ (x_tail hu h8 h9 huu hL hb hD ⟨fun ht => ?_, fun ht => ?_⟩)))
    · rcases H with ⟨h1, rfl, rfl, rfl, rfl, rfl, rfl⟩ | ⟨h1, -⟩
      · exact ⟨fun _ => hp, fun h => absurd X72 h⟩
      · exact absurd ht h1
    · rcases H with ⟨h1, -⟩ | ⟨h1, rfl, rfl, rfl, rfl, rfl, rfl⟩
      · exact absurd h1 ht
      · exact ⟨fun h => absurd (X72.symm.trans h) (by decide), fun _ => hp⟩
  · refine hB _ post xf' ?_
    obtain ⟨k1, k2, k3, k4, k5⟩ := start_rel (c := c) (m := m) (L := L) (arg := arg) (v := nI v) (cal := nI (100 + u)) (rd := nI 0) hP hV xf'
    obtain ⟨t', g', uu', e', dp', ev', x', y, cls', mdl, Z', he, -⟩ := frame_top (WL := fun q s => wX10_call_l137 (nI u) (nI c) (nI m) arg (nI v) (nI L) post q (nI u) (nI c) (nI m) arg (nI v) (nI L) s) (fun q s hn hw => ⟨fun h => absurd h hn, fun _ => hw⟩) n c m L (8 + u) arg (nI v) (nI (100 + u)) (nI 0) (nI 0) _ _ k1 k2 k3 k4 k5 cn m4 hpay (Or.inl rfl) hL
    obtain ⟨w, rfl, hw⟩ := uRF 8 _ _ _ (fun w => w = x) (fun w => w = x') (cls _ rfl) (cls' _ rfl)
    subst hw
    have hD' := Z'.2.2.2.2.2.2.2.1
    have huu' : uu' ≤ L := Z'.2.2.2.2.2.2.2.2.1
    have h9' := Z'.2.2.2.2.2.2.2.2.2.2.1
    have h44 := Z'.2.2.2.2.2.2.2.2.2.2.2.1
    have h12 := Z'.2.2.2.2.2.2.2.2.2.2.2.2
    have hW' := Z'.2.1
    obtain rfl : t = t' := hD.2.1.symm.trans hD'.2.1
    obtain rfl : uu = uu' := by
      have h := (nI_eq (by omega) (by omega)).mp (h9.symm.trans h9')
      omega
    have eg : t = 0 → g = g' := fun ht => (hD.2.2.1 ht).symm.trans (hD'.2.2.1 ht)
    have hb' : (if nI (uu / 2) < y 30 0 35 then nI (uu / 2) else y 30 0 35) = back := by
      rw [← hW'.2.2.2.2.2.2.2.2.2.2]
      exact hb
    refine mdl 1 ⟨0, m_tail hu h44 h12 (by omega) hb' ⟨fun ht => ?_, fun ht => ?_⟩⟩ _ (fun q s h => ⟨q, h⟩)
    · rcases H with ⟨h1, rfl, rfl, rfl, rfl, rfl, rfl⟩ | ⟨h1, -⟩
      · have := eg ht
        subst this
        exact hp _ (call_end hu hP ⟨_, hQ⟩ (Or.inl ⟨rfl, rfl, rfl⟩) Z' (by omega))
      · exact absurd ht h1
    · rcases H with ⟨h1, -⟩ | ⟨h1, rfl, rfl, rfl, rfl, rfl, rfl⟩
      · exact absurd h1 ht
      · exact hp _ (call_end hu hP ⟨_, hQ⟩ (Or.inr ⟨rfl, rfl, rfl⟩) Z' (by omega))
theorem q_call (p1 p2 p3 p4 p5 p6 : Int32) (hR : RX s) : QR (wX9_call p1 p2 p3 p4 p5 p6) (wX10_call p1 p2 p3 p4 p5 p6) s := by
  obtain ⟨n, ev, e, hP, hV, hQ⟩ := hR
  have hR : RX s := ⟨n, ev, e, hP, hV, hQ⟩
  have hP' := hP
  have hV' := hV
  obtain ⟨n8, P1, P2, P3, P4, P5⟩ := hP
  obtain ⟨v1, v2, v3, v4, v5, v6, v7, v8, v9, v10⟩ := hV
  rcases wi p1 0 3 (by omega) (by omega) with ⟨⟨u, -, hu, rfl⟩, wu⟩ | ⟨-, wu⟩
  · have U1 : ∀ post : Int32 → qx_St → Prop, post 1 s → wX9_isUser (nI u) s post := fun post h => (wu _ _ ⟨Or.inr rfl, h⟩).1
    have A1 : ∀ post : Int32 → qx_St → Prop, wX9_refusedMember p2 p3 s (fun r4 s3 => ((r4 = 0 → wX9_within p5 (0 : Int32) (10000 : Int32) s3 (fun r6 s5 => ((r6 = 0 → post (-102 : Int32) s5) ∧ (¬ (r6 = 0) → wX9_within p6 (1 : Int32) (1000 : Int32) s5 (fun r8 s7 => ((r8 = 0 → post (-102 : Int32) s7) ∧ (¬ (r8 = 0) → (vp_in ((8 : Int32) + nI u) 13 ∧ (((p5 + p6) ≤ (s7 5 0 ((8 : Int32) + nI u).toNatClampNeg) → wX9_refusedCall_j78 (nI u) p2 p3 p5 p6 post (nI u) p2 p3 p5 p6 r4 (0 : Int32) s7) ∧ (¬ ((p5 + p6) ≤ (s7 5 0 ((8 : Int32) + nI u).toNatClampNeg)) → wX9_refusedCall_j78 (nI u) p2 p3 p5 p6 post (nI u) p2 p3 p5 p6 r4 (1 : Int32) s7)))))))))) ∧ (¬ (r4 = 0) → post r4 s3))) → wX9_refusedCall (nI u) p2 p3 p5 p6 s post := fun post h => U1 _ ⟨fun h => absurd h (by decide), fun _ => h⟩
    have F : ∀ (r : Int32) (post : Int32 → qx_St → Prop), ¬ r = 0 → post r s → (fun r2 s1 => ((r2 = 0 → wX2_runForUser (nI u) p2 p3 p4 p5 p6 s1 (fun s3 => (((s3 7 0 2) = 0 → post (1 : Int32) s3) ∧ (¬ ((s3 7 0 2) = 0) → post (0 : Int32) s3)))) ∧ (¬ (r2 = 0) → post r2 s1))) r s := fun r post hr hp => ⟨fun h => absurd h hr, fun _ => hp⟩
    have n1 : ¬ (-101 : Int32) = 0 := by decide
    have n2 : ¬ (-102 : Int32) = 0 := by decide
    have n3 : ¬ (-103 : Int32) = 0 := by decide
    rcases rmem p2 p3 n8 with ⟨c, m, hc, hm, rfl, rfl, wa, wb⟩ | ⟨r, hr, wa, wb⟩
    · rcases wi p5 0 10000 (by omega) (by omega) with ⟨⟨v, -, hv, rfl⟩, wv⟩ | ⟨-, wv⟩
      · rcases wi p6 1 1000 (by omega) (by omega) with ⟨⟨L, hL1, hL, rfl⟩, wl⟩ | ⟨-, wl⟩
        · have e8 : (8 : Int32) + nI u = nI (8 + u) := nI_add 8 u
          have c8 : ((8 : Int32) + nI u).toNatClampNeg = 8 + u := by rw [e8, nI_clamp (by omega)]
          have cu : (nI u).toNatClampNeg = u := nI_clamp (by omega)
          have vi : vp_in ((8 : Int32) + nI u) 13 := by rw [e8]; exact vp_in_nI (by omega) (by omega)
          have A2 : ∀ post : Int32 → qx_St → Prop, (((nI v + nI L) ≤ (s 5 0 ((8 : Int32) + nI u).toNatClampNeg) → wX9_refusedCall_j78 (nI u) (nI c) (nI m) (nI v) (nI L) post (nI u) (nI c) (nI m) (nI v) (nI L) 0 (0 : Int32) s) ∧ (¬ ((nI v + nI L) ≤ (s 5 0 ((8 : Int32) + nI u).toNatClampNeg)) → wX9_refusedCall_j78 (nI u) (nI c) (nI m) (nI v) (nI L) post (nI u) (nI c) (nI m) (nI v) (nI L) 0 (1 : Int32) s)) → wX9_refusedCall (nI u) (nI c) (nI m) (nI v) (nI L) s post := fun post h => A1 post (wa _ _ P1 ⟨fun _ => (wv _ _ ⟨fun h => absurd h (by decide), fun _ => (wl _ _ ⟨fun h => absurd h (by decide), fun _ => ⟨vi, h⟩⟩).1⟩).1, fun h => absurd rfl h⟩)
          have ei : (4 : Int32) * nI c + nI m = nI (4 * c + m) := by rw [show (4 : Int32) = nI 4 from rfl, pk_mul, nI_add]
          have ci : ((4 : Int32) * nI c + nI m).toNatClampNeg = 4 * c + m := by rw [ei, nI_clamp (by omega)]
          have vj : vp_in ((4 : Int32) * nI c + nI m) 32 := by rw [ei]; exact vp_in_nI (by omega) (by omega)
          have B2 : ∀ (s1 : qx_St) (post : Int32 → qx_St → Prop), (∀ f, 30 ≤ f → s1 f = s f) → (((s1 31 0 u) < (nI v + nI L) → post (-103 : Int32) s1) ∧ (¬ ((s1 31 0 u) < (nI v + nI L)) → (((s1 34 0 (4 * c + m)) = 0 → post (-103 : Int32) s1) ∧ (¬ ((s1 34 0 (4 * c + m)) = 0) → wX10_enter (nI (4 * c + m)) p4 (nI v) (nI (100 + u)) (nI L) (nI 0) (nI 0) (yStart s1) (fun s23 => ∃ n, wX10_call_l137 (nI u) (nI c) (nI m) p4 (nI v) (nI L) post n (nI u) (nI c) (nI m) p4 (nI v) (nI L) s23))))) → wX10_call (nI u) (nI c) (nI m) p4 (nI v) (nI L) s1 post := by
            intro s1 post h1 h
            refine (wu _ _ ⟨fun h => absurd h (by decide), fun _ => wb _ _ _ (by rw [h1 30 (by omega)]; exact P2) (wv _ _ ⟨fun h => absurd h (by decide), fun _ => (wl _ _ ⟨fun h => absurd h (by decide), fun _ => ?_⟩).2⟩).2⟩).2
            rw [cu, ci]
            refine ⟨vp_in_nI (by omega) (by omega), h.1, fun h2 => ⟨vj, (h.2 h2).1, fun h3 => ?_⟩⟩
            have h4 := (h.2 h2).2 h3
            unfold yStart at h4
            simp only [qp_fe, ei]
            rw [show (100 : Int32) + nI u = nI (100 + u) from nI_add 100 u]
            exact h4
          have eC : s 5 0 (8 + u) = s 31 0 u := v5 u (by omega)
          obtain ⟨sz, l20, e17, e34, -⟩ := P3 (4 * c + m) (by omega)
          by_cases hcoin : s 31 0 u < nI v + nI L
          · have hc2 : ¬ nI v + nI L ≤ s 5 0 (8 + u) := by rw [eC]; exact Int32.not_le.mpr hcoin
            refine QQ.r ⟨-103, s, s, fun post hp => A2 _ ⟨fun h => absurd (by rw [c8] at h; exact h) hc2, fun _ => ⟨fun h => absurd h (by decide), fun _ => F _ _ n3 hp⟩⟩, fun post hp => B2 s post (fun _ _ => rfl) ⟨fun _ => hp, fun h => absurd hcoin h⟩, hR⟩
          · have hc2 : nI v + nI L ≤ s 5 0 (8 + u) := by rw [eC]; exact Int32.not_lt.mp hcoin
            by_cases hsz : sz = 0
            · subst hsz
              refine QQ.r ⟨-103, s, s, fun post hp => A2 _ ⟨fun _ => ⟨fun _ => x_mem (by omega) hm ⟨fun _ => F _ _ n3 hp, fun h => absurd e17 h⟩, fun h => absurd rfl h⟩, fun h => absurd (by rw [c8]; exact hc2) h⟩, fun post hp => B2 s post (fun _ _ => rfl) ⟨fun h => absurd h hcoin, fun _ => ⟨fun _ => hp, fun h => absurd e34 h⟩⟩, hR⟩
            · have hs1 : ¬ s 17 (4 * c + m) 3 = 0 := by rw [e17]; exact nI_ne0 (by omega) (by omega)
              have hs2 : ¬ s 34 0 (4 * c + m) = 0 := by rw [e34]; exact nI_ne0 (by omega) (by omega)
              refine q_call_main hP' hV' hQ (by omega) hc hm hL _ _ (fun post h => A2 _ ⟨fun _ => ⟨fun _ => x_mem (by omega) hm ⟨fun h => absurd h hs1, fun _ => ⟨fun _ => h, fun h => absurd rfl h⟩⟩, fun h => absurd rfl h⟩, fun h => absurd (by rw [c8]; exact hc2) h⟩) (fun s1 post h1 h => B2 s1 post h1 ⟨fun h => absurd (by rw [h1 31 (by omega)] at h; exact h) hcoin, fun _ => ⟨fun h => absurd (by rw [h1 34 (by omega)] at h; exact h) hs2, fun _ => h⟩⟩)
        · exact QQ.r ⟨-102, s, s, fun post hp => A1 _ (wa _ _ P1 ⟨fun _ => (wv _ _ ⟨fun h => absurd h (by decide), fun _ => (wl _ _ ⟨fun _ => F _ _ n2 hp, fun h => absurd rfl h⟩).1⟩).1, fun h => absurd rfl h⟩), fun post hp => (wu _ _ ⟨fun h => absurd h (by decide), fun _ => wb _ _ _ P2 (wv _ _ ⟨fun h => absurd h (by decide), fun _ => (wl _ _ ⟨fun _ => hp, fun h => absurd rfl h⟩).2⟩).2⟩).2, hR⟩
      · exact QQ.r ⟨-102, s, s, fun post hp => A1 _ (wa _ _ P1 ⟨fun _ => (wv _ _ ⟨fun _ => F _ _ n2 hp, fun h => absurd rfl h⟩).1, fun h => absurd rfl h⟩), fun post hp => (wu _ _ ⟨fun h => absurd h (by decide), fun _ => wb _ _ _ P2 (wv _ _ ⟨fun _ => hp, fun h => absurd rfl h⟩).2⟩).2, hR⟩
    · exact QQ.r ⟨r, s, s, fun post hp => A1 _ (wa _ _ P1 ⟨fun h => absurd h hr, fun _ => F _ _ hr hp⟩), fun post hp => (wu _ _ ⟨fun h => absurd h (by decide), fun _ => wb _ _ _ P2 hp⟩).2, hR⟩
  · have U0 : ∀ post : Int32 → qx_St → Prop, post 0 s → wX9_isUser p1 s post := fun post h => (wu _ _ ⟨Or.inl rfl, h⟩).1
    have U2 : ∀ post : Int32 → qx_St → Prop, post (-101) s → wX9_refusedCall p1 p2 p3 p5 p6 s post := fun post h => U0 _ ⟨fun _ => h, fun h => absurd rfl h⟩
    exact QQ.r ⟨-101, s, s, fun post hp => U2 _ ⟨fun h => absurd h (by decide), fun _ => hp⟩, fun post hp => (wu _ _ ⟨fun _ => hp, fun h => absurd rfl h⟩).2, hR⟩
end QCALL
theorem QR.go {A B : qx_St → (Int32 → qx_St → Prop) → Prop} {s : qx_St} {W : qx_St → Prop} {B' : Int32 → qx_St → Prop} (h : QR A B s) (hW : ∀ s, RX s → W s) (hB : ∀ r s1, B s1 (fun r' s' => ((r = r' → W s') ∧ (¬ (r = r') → False))) → B' r s1) : A s B' := by
  obtain ⟨r, s1, a, b⟩ := h
  exact a _ (hB _ _ (b _ (fun s2 h2 => ⟨fun _ => hW s2 h2, fun h => absurd rfl h⟩)))
set_option maxRecDepth 100000 in
theorem law_ok {L : Nat} {xs : Nat → Int32} (hL : L ≤ 3584) : ∀ (r k : Nat) (s : qx_St), RX s → L < 7 * k + 7 * r + 7 → 7 * k ≤ L → wL_loop L xs (r + 1) (nI (7 * k)) s := by
  intro r
  induction r with
  | zero =>
    intro k s hR h hk
    refine ⟨fun _ => trivial, fun hn => absurd ?_ hn⟩
    refine Int32.lt_iff_toInt_lt.mpr ?_
    have e1 := pk_sub_toInt (a := L) (b := 7) (by omega) (by omega)
    have e2 := nI_toInt (n := 7 * k) (by omega)
    rw [show (Int32.ofNat L - (7 : Int32)).toInt = (nI L - nI 7).toInt from rfl, e1, e2]
    omega
  | succ r ih =>
    intro k s hR h hk
    refine ⟨fun _ => trivial, fun hn => ?_⟩
    have hk7 : 7 * k + 7 ≤ L := by
      refine Classical.byContradiction fun hc => hn ?_
      refine Int32.lt_iff_toInt_lt.mpr ?_
      have e1 := pk_sub_toInt (a := L) (b := 7) (by omega) (by omega)
      have e2 := nI_toInt (n := 7 * k) (by omega)
      rw [show (Int32.ofNat L - (7 : Int32)).toInt = (nI L - nI 7).toInt from rfl, e1, e2]
      omega
    have W : ∀ s, RX s → wL_loop L xs (r + 1) (nI (7 * k) + 7) s := fun s h => by
      rw [show nI (7 * k) + (7 : Int32) = nI (7 * (k + 1)) from nI_add (7 * k) 7]
      exact ih (k + 1) s h (by omega) (by omega)
    have V : ∀ j : Nat, j ≤ 6 → vp_in (nI (7 * k) + nI j) L := fun j hj => by
      rw [nI_add]
      exact vp_in_nI (by omega) (by omega)
    have V1 := V 1 (by omega)
    have V2 := V 2 (by omega)
    have V3 := V 3 (by omega)
    have V4 := V 4 (by omega)
    have V5 := V 5 (by omega)
    have V6 := V 6 (by omega)
    refine ⟨vp_in_nI (by omega) (by omega), fun _ => ?_, fun _ => ?_, fun _ => ?_, fun _ => ?_, fun _ => ?_, fun _ => ?_, fun _ => ?_, fun _ => ?_, fun _ => ?_, fun _ => ?_, fun _ => ?_, fun _ => ?_, fun _ => W s hR⟩
    · exact (q_contract hR).r.go W (fun _ _ h => h)
    · exact ⟨V1, V2, V3, V4, V5, (q_step _ _ _ _ _ hR).r.go W (fun _ _ h => ⟨V1, V2, V3, V4, V5, h⟩)⟩
    · exact ⟨V1, V2, (q_empty _ _ hR).r.go W (fun _ _ h => ⟨V1, V2, h⟩)⟩
    · refine ⟨V1, V2, V3, fun h0 => ?_, fun h0 => ?_⟩
      · exact (q_guard _ _ 0 (Or.inl rfl) hR).r.go W (fun _ _ h => ⟨V1, V2, V3, fun _ => h, fun h1 => absurd h0 h1⟩)
      · exact (q_guard _ _ 1 (Or.inr rfl) hR).r.go W (fun _ _ h => ⟨V1, V2, V3, fun h1 => absurd h1 h0, fun _ => h⟩)
    · exact ⟨V1, V2, V3, V4, V5, V6, (q_call _ _ _ _ _ _ hR).go W (fun _ _ h => ⟨V1, V2, V3, V4, V5, V6, h⟩)⟩
    · exact ⟨V1, (q_told _ hR).r.go W (fun _ _ h => ⟨V1, h⟩)⟩
    · exact ⟨V1, V2, (q_frame _ _ hR).r.go W (fun _ _ h => ⟨V1, V2, h⟩)⟩
    · exact ⟨V1, V2, (q_event _ _ hR).r.go W (fun _ _ h => ⟨V1, V2, h⟩)⟩
    · exact ⟨V1, V2, (q_store _ _ hR).r.go W (fun _ _ h => ⟨V1, V2, h⟩)⟩
    · exact ⟨V1, V2, (q_coins _ _ hR).r.go W (fun _ _ h => ⟨V1, V2, h⟩)⟩
    · exact ⟨V1, (q_count _ hR).r.go W (fun _ _ h => ⟨V1, h⟩)⟩
    · exact (q_clear hR).r.go W (fun _ _ h => h)
