/-! a user's call as a whole -/
theorem frame_top {WL : Nat → qx_St → Prop} (hWL : ∀ k s, ¬ s 30 0 12 ≤ 0 → wX10_oneStep s (fun s' => WL k s') → WL (k + 1) s) (n c m L pay : Nat) (arg v cal how rd : Int32) (x y : qx_St) (hP : rP n x y) (hW : rW n 0 x y) (hE : rE 0 0 x y) (g12 : y 30 0 12 = nI 0) (hb : bG 0 c m L arg v cal rd x) (cn : c < n) (m4 : m < 4) (hpay : pC n pay cal) (hrd : qx_vz rd) (hL : L ≤ 1000) :
  ∃ (t g : Int32) (u e' dp' ev' : Nat) (x' y' : qx_St), (∀ post : qx_St → Prop, post x' → wRF 8 (nI pay) (nI 1) x post) ∧ (∀ j, (∃ q, wX10_ends_j94 t g (WL j) (wX10_ends_l8 t g (WL j) q) t g t g 1 (nI 0) (nI 0) y') → ∀ P : qx_St → Prop, (∀ j' s, WL j' s → P s) → wX10_enter (nI (4 * c + m)) arg v cal (nI L) how rd y P) ∧ rZ n 0 0 L u e' dp' ev' t g x y x' y' ∧ e' ≤ 1 + u ∧ 0 < e' := by
  have hM : rM n 0 x y := fun k hk => absurd hk (by omega)
  have n8 := hP.1
  have pay12 : pay < 12 := by rcases hpay with ⟨h1, -⟩ | ⟨u, hu, rfl, -⟩ <;> omega
  obtain ⟨H, N, -⟩ := ent_rel (how := how) hP hW hE hM g12 hb cn m4 hpay hrd (by omega) (by omega) (by omega)
  obtain ⟨t, g, h', p', l', e', dp', ev', x', y', w1, w2, w3, w4⟩ := loop_sim (k := 7) (P1 := nI pay) (A1 := nI pay) hWL (fun _ => frames hWL 7 (by omega)) (by omega) (L + 1) L 0 0 (0 + 1) (mx 0 (0 + 1)) 0 0 _ _ (by omega) H N (by omega)
  obtain ⟨ev2, v1, Z⟩ := end_rel w3 w4 hW.2.2.2.2.2.2.2.1 (by omega)
  obtain ⟨a1, a2, a3, a4, a5, a6, a7, a8, a9, a10, a11, a12, a13⟩ := w3.1.2.2.2.2.2.2.1
  have l8 : l' ≤ L := w3.2.1.2.2.2.2.2.2.2.1
  refine ⟨t, g, L - l', e', dp', ev2, _, _, fun post hp => ?_, fun j hj P hPP => ?_, Z, by have := w3.2.2.1; omega, w3.2.2.2.2.2.1⟩
  · exact x_run (by omega) (by omega) m4 pay12 (by omega) (by omega) hb.2.1 hb.2.2.1 hb.2.2.2.2.1 hE.1 hE.2.2.1 (w1 post (fun a7 => x_end (by omega) a10 w4 hp))
  · obtain ⟨j', hj'⟩ := w2 j (m_end (by omega) (by omega) a12 a11.1 hj)
    exact m_enter (by omega) n8 cn m4 hpay hrd (by omega) (by omega) g12 hE.2.1 hE.2.2.2 (hPP _ _ hj')
theorem start_rel {n ev c m L : Nat} {arg v cal rd : Int32} {s s1 : qx_St} (hP : rP n s s) (hV : rV n ev s s) (h1 : ∀ f, 30 ≤ f → s1 f = s f) : rP n (xS 0 c m L arg v cal rd (xStart s)) (yStart s1) ∧ rW n 0 (xS 0 c m L arg v cal rd (xStart s)) (yStart s1) ∧ rE 0 0 (xS 0 c m L arg v cal rd (xStart s)) (yStart s1) ∧ (yStart s1) 30 0 12 = nI 0 ∧ bG 0 c m L arg v cal rd (xS 0 c m L arg v cal rd (xStart s)) := by
  have X : ∀ f, f ≠ 3 ∧ f ≠ 7 ∧ f ≠ 12 → (xS 0 c m L arg v cal rd (xStart s)) f = s f := fun f h => by
    unfold xS xStart
    simp (disch := omega) only [qp_st_f]
  have Y : ∀ f, 31 ≤ f → (yStart s1) f = s f := fun f h => by
    unfold yStart
    simp (disch := omega) only [qp_st_f]
    exact h1 f (by omega)
  have Y30 : ∀ j, j ≠ 12 ∧ j ≠ 36 ∧ j ≠ 37 ∧ j ≠ 30 ∧ j ≠ 35 ∧ j ≠ 44 → (yStart s1) 30 0 j = s 30 0 j := fun j h => by
    unfold yStart
    simp (disch := omega) only [qp_st_j]
    rw [h1 30 (by omega)]
  obtain ⟨v1, v2, v3, v4, v5, v6, v7, v8, v9, v10⟩ := hV
  refine ⟨hP.cg (X 1 (by decide)) (X 17 (by decide)) (X 18 (by decide)) (X 19 (by decide)) (X 20 (by decide)) (Y30 0 (by decide)) (Y 34 (by decide)) (Y 35 (by decide)) (Y 36 (by decide)) (Y 37 (by decide)) (Y 38 (by decide)), ⟨?_, ?_, ?_, ?_, ?_, ?_, by omega, ?_, ?_, fun j hj => absurd hj (by omega), ?_⟩, ⟨?_, ?_, ?_, ?_⟩, ?_, ?_⟩
  · rw [X 4 (by decide), Y 33 (by decide)]; exact v1
  · rw [X 4 (by decide)]; exact v2
  · rw [X 5 (by decide), Y 32 (by decide)]; exact v3
  · rw [X 5 (by decide)]; exact v4
  · rw [X 5 (by decide), Y 31 (by decide)]; exact v5
  · rw [X 5 (by decide), Y30 3 (by decide)]; exact v6
  · unfold xS xStart; simp (disch := decide) only [qp_st_f, qp_st_j, qp_st_ff]
  · unfold yStart; simp (disch := decide) only [qp_st_f, qp_st_j, qp_st_ff]
  · unfold xS xStart yStart; simp (disch := decide) only [qp_st_f, qp_st_j, qp_st_ff]
  · unfold xS xStart; simp (disch := decide) only [qp_st_f, qp_st_j, qp_st_ff]
  · unfold yStart; simp (disch := decide) only [qp_st_f, qp_st_j, qp_st_ff]
  · unfold xS xStart; simp (disch := decide) only [qp_st_f, qp_st_j, qp_st_ff]
  · unfold yStart; simp (disch := decide) only [qp_st_f, qp_st_j, qp_st_ff]
  · unfold yStart; simp (disch := decide) only [qp_st_f, qp_st_j, qp_st_ff]
  · unfold bG xS xStart
    simp (disch := decide) only [qp_st_f, qp_st_j, qp_st_ff]
    exact ⟨trivial, trivial, trivial, trivial, trivial, trivial, trivial, trivial, trivial, trivial, rfl, rfl, rfl⟩
/-- the relation behind a user's call -/
theorem call_end {n c m L uu e dp ev u j : Nat} {arg v cal rd t g a back r2 r3 c10 c11 : Int32} {s x y : qx_St} (hu : u < 4) (hP : rP n s s) (hQ : ∃ e0, rQ e0 s s) (hj : j = 8 ∧ c10 = nI 1 ∧ c11 = nI 0 ∨ j = 9 ∧ c10 = nI 0 ∧ c11 = nI 1)
    (Z : rZ n 0 0 L uu e dp ev t g (xS 0 c m L arg v cal rd (xStart s)) (yStart (xEnd u a back r2 r3 (nI uu) j x)) x y) (he : e ≤ 2000) : RX (yEnd u a back r3 t (nI uu) c10 c11 y) := by
  obtain ⟨zP, zW, zE, zO, -, zx, zy, -, -, -, -, -, -⟩ := Z
  obtain ⟨v1, v2, v3, v4, v5, v6, v7, v8, v9, v10, -⟩ := zW
  obtain ⟨e1, e2, e3, e4⟩ := zE
  obtain ⟨-, x1, x17, x18, x19, x20, xf, x7, -⟩ := zx
  obtain ⟨-, -, -, -, -, -, -, -, -, yf, y30, -⟩ := zy
  obtain ⟨e0, q1, q2, q3, q4, q5, q6, q7, q8, q9⟩ := hQ
  have n8 := zP.1
  have YL : ∀ f, f < 30 → y f = (xEnd u a back r2 r3 (nI uu) j x) f := fun f hf => by
    rw [yf f hf]
    unfold yStart
    simp (disch := omega) only [qp_st_f]
  have XL : ∀ f, f ≠ 5 ∧ f ≠ 7 → (xEnd u a back r2 r3 (nI uu) j x) f = x f := fun f h => by
    unfold xEnd
    simp (disch := omega) only [qp_st_f]
  have X5 : ∀ q, (xEnd u a back r2 r3 (nI uu) j x) 5 0 q = if q = 12 then x 5 0 12 + a else if q = 8 + u then x 5 0 (8 + u) - a else x 5 0 q := fun q => by
    unfold xEnd
    simp (disch := decide) only [qp_st_f]
    rw [qp_st_r, qp_st_r]
    by_cases h : q = 12
    · rw [if_pos ⟨rfl, h⟩, if_pos h]
    · rw [if_neg (fun w => h w.2), if_neg h]
      by_cases h2 : q = 8 + u
      · rw [if_pos ⟨rfl, h2⟩, if_pos h2]
      · rw [if_neg (fun w => h2 w.2), if_neg h2]
  have Zf : ∀ f, f ≠ 30 ∧ f ≠ 31 → (yEnd u a back r3 t (nI uu) c10 c11 y) f = y f := fun f h => by
    unfold yEnd
    simp (disch := omega) only [qp_st_f]
  have ZL : ∀ f, f < 30 ∧ f ≠ 5 ∧ f ≠ 7 → (yEnd u a back r3 t (nI uu) c10 c11 y) f = x f := fun f h => by
    rw [Zf f (by omega), YL f h.1, XL f h.2]
  have Z31 : ∀ q, (yEnd u a back r3 t (nI uu) c10 c11 y) 31 0 q = if q = u then y 31 0 u - a else y 31 0 q := fun q => by
    unfold yEnd
    simp (disch := decide) only [qp_st_f]
    rw [qp_st_r]
    simp (disch := decide) only [qp_st_f]
    by_cases h : q = u
    · rw [if_pos ⟨trivial, h⟩, if_pos h]
    · rw [if_neg (fun w => h w.2), if_neg h]
  have Z30 : ∀ j, j ≠ 46 ∧ j ≠ 48 ∧ j ≠ 45 ∧ j ≠ 47 ∧ j ≠ 3 ∧ j ≠ 10 ∧ j ≠ 11 → (yEnd u a back r3 t (nI uu) c10 c11 y) 30 0 j = y 30 0 j := fun j h => by
    unfold yEnd
    simp (disch := omega) only [qp_st_f, qp_st_j]
  have Z3 : (yEnd u a back r3 t (nI uu) c10 c11 y) 30 0 3 = y 30 0 3 + a ∧ (yEnd u a back r3 t (nI uu) c10 c11 y) 30 0 10 = y 30 0 10 + c10 ∧ (yEnd u a back r3 t (nI uu) c10 c11 y) 30 0 11 = y 30 0 11 + c11 ∧ (yEnd u a back r3 t (nI uu) c10 c11 y) 30 0 45 = r3 ∧ (yEnd u a back r3 t (nI uu) c10 c11 y) 30 0 46 = nI uu ∧ (yEnd u a back r3 t (nI uu) c10 c11 y) 30 0 47 = back := by
    unfold yEnd
    refine ⟨?_, ?_, ?_, ?_, ?_, ?_⟩ <;> simp (disch := omega) only [qp_st_f, qp_st_j, qp_st_ff]
  have ZX : ∀ f, f < 30 → (yEnd u a back r3 t (nI uu) c10 c11 y) f = (xEnd u a back r2 r3 (nI uu) j x) f := fun f h => by rw [Zf f (by omega), YL f h]
  have X7 : ∀ i, i ≠ 1 ∧ i ≠ 2 ∧ i ≠ 3 ∧ i ≠ 4 ∧ i ≠ 5 ∧ i ≠ j → (xEnd u a back r2 r3 (nI uu) j x) 7 0 i = x 7 0 i := fun i h => by
    unfold xEnd
    simp (disch := omega) only [qp_st_f, qp_st_j]
  have j8 : j = 8 ∨ j = 9 := by omega
  have X71 : (xEnd u a back r2 r3 (nI uu) j x) 7 0 1 = nI 1 ∧ (xEnd u a back r2 r3 (nI uu) j x) 7 0 3 = r3 ∧ (xEnd u a back r2 r3 (nI uu) j x) 7 0 4 = nI uu ∧ (xEnd u a back r2 r3 (nI uu) j x) 7 0 5 = back ∧ (xEnd u a back r2 r3 (nI uu) j x) 7 0 j = x 7 0 j + nI 1 := by
    unfold xEnd
    refine ⟨?_, ?_, ?_, ?_, ?_⟩ <;> simp (disch := omega) only [qp_st_f, qp_st_j, qp_st_ff]
  have x7' : ∀ i, i = 8 ∨ i = 9 → x 7 0 i = s 7 0 i := fun i hi => by
    rw [x7 i (by omega) (by omega)]
    unfold xS xStart
    simp (disch := omega) only [qp_st_f, qp_st_j]
  have xf' : ∀ f, 30 ≤ f → (xEnd u a back r2 r3 (nI uu) j x) f = s f := fun f hf => by
    rw [XL f (by omega), xf f hf]
    unfold xS xStart
    simp (disch := omega) only [qp_st_f]
  have y30' : ∀ i, i = 10 ∨ i = 11 → y 30 0 i = s 30 0 i := fun i hi => by
    rw [y30 i (by omega) (by omega) (by omega) (by omega) (by omega)]
    unfold yStart
    simp (disch := omega) only [qp_st_j]
    rw [xf' 30 (by omega)]
  have y44 : y 30 0 44 = nI 1 := by
    rw [y30 44 (by omega) (by omega) (by omega) (by omega) (by omega)]
    unfold yStart
    simp (disch := omega) only [qp_st_ff]
  refine ⟨n, ev, e, ?_, ⟨?_, ?_, ?_, ?_, ?_, ?_, v7, ?_, ?_, ?_⟩, ⟨?_, ?_, he, ?_, ?_, ?_, ?_, ?_, ?_⟩⟩
  · exact zP.cg (ZL 1 (by decide)) (ZL 17 (by decide)) (ZL 18 (by decide)) (ZL 19 (by decide)) (ZL 20 (by decide)) (Z30 0 (by decide)) (Zf 34 (by decide)) (Zf 35 (by decide)) (Zf 36 (by decide)) (Zf 37 (by decide)) (Zf 38 (by decide))
  · rw [ZL 4 (by decide), Zf 33 (by decide)]; exact v1
  · rw [ZL 4 (by decide)]; exact v2
  · intro c hc
    rw [ZX 5 (by decide), X5, if_neg (by omega), if_neg (by omega), Zf 32 (by decide)]
    exact v3 c hc
  · intro c h1 h2
    rw [ZX 5 (by decide), X5, if_neg (by omega), if_neg (by omega)]
    exact v4 c h1 h2
  · intro w hw
    rw [ZX 5 (by decide), X5, Z31, if_neg (by omega)]
    by_cases h : w = u
    · subst h
      rw [if_pos rfl, if_pos rfl, v5 w hw]
    · rw [if_neg (by omega), if_neg h]
      exact v5 w hw
  · rw [ZX 5 (by decide), X5, if_pos rfl, Z3.1, v6]
  · rw [ZL 3 (by decide)]; exact v8
  · rw [Z30 30 (by decide)]; exact v9
  · rw [ZL 6 (by decide), Zf 56 (by decide), Zf 57 (by decide), Zf 58 (by decide), Zf 59 (by decide)]; exact v10
  · rw [ZX 7 (by decide), X7 6 (by omega)]; exact e1
  · rw [Z30 36 (by decide)]; exact e2
  · exact zO.cg (fun q _ => by rw [ZL 8 (by decide)]) (fun k _ => by rw [Zf 60 (by decide), Zf 61 (by decide), Zf 62 (by decide), Zf 63 (by decide), Zf 64 (by decide), Zf 65 (by decide)]; exact ⟨rfl, rfl, rfl, rfl, rfl, rfl⟩)
  · rw [ZX 7 (by decide), Z3.2.1, y30' 10 (by omega)]
    rcases hj with ⟨rfl, rfl, rfl⟩ | ⟨rfl, rfl, rfl⟩
    · rw [X71.2.2.2.2, x7' 8 (by omega), q5]
    · rw [X7 8 (by omega), x7' 8 (by omega), q5, show nI 0 = 0 from rfl, Int32.add_zero]
  · rw [ZX 7 (by decide), Z3.2.2.1, y30' 11 (by omega)]
    rcases hj with ⟨rfl, rfl, rfl⟩ | ⟨rfl, rfl, rfl⟩
    · rw [X7 9 (by omega), x7' 9 (by omega), q6, show nI 0 = 0 from rfl, Int32.add_zero]
    · rw [X71.2.2.2.2, x7' 9 (by omega), q6]
  · rw [ZX 7 (by decide), X71.1, Z30 44 (by decide), y44]
  · intro h
    rw [ZX 7 (by decide), X71.1] at h
    exact absurd h (by decide)
  · intro _
    rw [ZX 7 (by decide), X71.2.1, X71.2.2.1, X71.2.2.2.1, X7 7 (by omega), Z3.2.2.2.1, Z3.2.2.2.2.1, Z3.2.2.2.2.2, Z30 37 (by decide), e3, e4]
    exact ⟨rfl, rfl, rfl, rfl⟩
