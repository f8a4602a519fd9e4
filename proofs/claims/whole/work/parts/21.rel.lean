/-! the relation between the class's state x and the reference's state y -/
def rOk (c : Nat) (a b : Int32) : Prop :=
  (c = 6 ∨ c = 7 → ∃ q, q < 8 ∧ a = nI q) ∧ (c = 14 ∨ c = 15 → ∃ q, 1 ≤ q ∧ q ≤ 20 ∧ a = nI q) ∧ (c = 19 ∨ c = 20 ∨ c = 21 → (∃ q, q < 8 ∧ a = nI q) ∧ ∃ q, q < 4 ∧ b = nI q) ∧ (c = 23 → ∃ q, q < 4 ∧ a = nI q) ∧ (c = 25 → ∃ q, 10 ≤ q ∧ q ≤ 99 ∧ a = nI q)
/-- the contracts and their members -/
def rP (n : Nat) (x y : qx_St) : Prop :=
  n ≤ 8 ∧ x 1 0 1 = nI n ∧ y 30 0 0 = nI n ∧
  (∀ i, i < 4 * n → ∃ k, k ≤ 20 ∧ x 17 i 3 = nI k ∧ y 34 0 i = nI k ∧ ∀ j, j < k → ∃ c, c ≤ 25 ∧ x 18 i j = nI c ∧ y 36 0 (20 * i + j) = nI c ∧ x 19 i j = y 37 0 (20 * i + j) ∧ x 20 i j = y 38 0 (20 * i + j) ∧ rOk c (x 19 i j) (x 20 i j)) ∧
  (∀ i, i < 4 * n → x 17 i 4 = y 35 0 i ∧ qx_vz (x 17 i 4)) ∧
  (∀ i, 4 * n ≤ i → i < 32 → x 17 i 3 = 0 ∧ x 17 i 4 = 0)
/-- stores, coins, events -/
def rW (n ev : Nat) (x y : qx_St) : Prop :=
  (∀ q, q < 8 * n → x 4 0 q = y 33 0 q) ∧ (∀ q, 8 * n ≤ q → q < 64 → x 4 0 q = 0) ∧
  (∀ c, c < n → x 5 0 c = y 32 0 c) ∧ (∀ c, n ≤ c → c < 8 → x 5 0 c = 0) ∧ (∀ u, u < 4 → x 5 0 (8 + u) = y 31 0 u) ∧ x 5 0 12 = y 30 0 3 ∧
  ev ≤ 60 ∧ x 3 0 3 = nI ev ∧ y 30 0 30 = nI ev ∧ (∀ j, j < ev → x 6 0 (4 * j) = y 56 0 j ∧ x 6 0 (4 * j + 1) = y 57 0 j ∧ x 6 0 (4 * j + 2) = y 58 0 j ∧ x 6 0 (4 * j + 3) = y 59 0 j) ∧ x 3 0 4 = y 30 0 35
/-- what is kept for frame d -/
def rS (n ev d : Nat) (x y : qx_St) : Prop :=
  (∀ q, q < 8 * n → x 15 d q = y 51 0 (64 * d + q)) ∧ (∀ q, 8 * n ≤ q → q < 64 → x 15 d q = 0) ∧ (∀ c, c < n → x 16 d c = y 53 0 (8 * d + c)) ∧ (∀ c, n ≤ c → c < 8 → x 16 d c = 0) ∧ (∀ u, u < 4 → x 16 d (8 + u) = y 52 0 (4 * d + u)) ∧ x 16 d 12 = y 30 0 3 ∧ (∃ k, k ≤ ev ∧ x 14 d 2 = nI k ∧ y 54 0 d = nI k) ∧ x 14 d 3 = y 55 0 d
/-- how many frames, how deep -/
def rE (e dp : Nat) (x y : qx_St) : Prop := x 7 0 6 = nI e ∧ y 30 0 36 = nI e ∧ x 7 0 7 = nI dp ∧ y 30 0 37 = nI dp
/-- the row of the k-th frame -/
def rRow (k : Nat) (x y : qx_St) : Prop := (∃ c m, c < 8 ∧ m < 4 ∧ y 60 0 k = nI (4 * c + m) ∧ x 8 0 (7 * k) = nI c ∧ x 8 0 (7 * k + 1) = nI m) ∧ x 8 0 (7 * k + 2) = y 61 0 k ∧ x 8 0 (7 * k + 3) = y 62 0 k ∧ x 8 0 (7 * k + 4) = y 63 0 k ∧ x 8 0 (7 * k + 5) = y 64 0 k ∧ x 8 0 (7 * k + 6) = y 65 0 k ∧ qx_vz (y 65 0 k)
def rO (lo e : Nat) (x y : qx_St) : Prop := ∀ k, lo ≤ k → k < e → k < 40 → rRow k x y
/-- the members of the frames below -/
def rM (n d : Nat) (x y : qx_St) : Prop := ∀ k, k < d → ∃ c m, c < n ∧ m < 4 ∧ x 12 k 2 = nI c ∧ x 12 k 3 = nI m ∧ y 39 0 k = nI (4 * c + m)
/-- the frame at the top: what doesn't change -/
def rA (n d pl c m : Nat) (hw : Int32) (x y : qx_St) : Prop :=
  c < n ∧ m < 4 ∧ x 12 d 2 = nI c ∧ x 12 d 3 = nI m ∧ y 39 0 d = nI (4 * c + m) ∧ x 12 d 4 = y 40 0 d ∧ x 12 d 5 = y 41 0 d ∧ x 12 d 6 = y 42 0 d ∧ x 12 d 7 = y 49 0 d ∧ qx_vz (x 12 d 7) ∧ (y 48 0 d = nI pl ∧ y 47 0 d = hw) ∧ y 30 0 12 = nI (d + 1) ∧ (pl < 40 → y 60 0 pl = nI (4 * c + m) ∧ y 61 0 pl = nI (d + 1) ∧ y 65 0 pl = y 49 0 d)
/-- what does: height, place, limit -/
def rT (d L h p l : Nat) (x y : qx_St) : Prop :=
  h ≤ 8 ∧ x 12 d 1 = nI h ∧ y 46 0 d = nI h ∧ (∀ j, j < h → x 13 d j = y 50 0 (8 * d + j)) ∧ p ≤ 60 ∧ x 12 d 10 = nI p ∧ y 45 0 d = nI p ∧ l ≤ L ∧ L ≤ 1000 ∧ x 12 d 9 = nI l ∧ y 43 0 d = nI l ∧ x 12 d 8 = nI L ∧ y 44 0 d = nI (L - l)
/-- it has not ended -/
def rN (d : Nat) (x : qx_St) : Prop := x 12 d 11 = 0 ∧ x 12 d 12 = 0 ∧ x 12 d 13 = 0
/-- what a run of frame d and above leaves of the class's state -/
def xF (d pl : Nat) (x0 x : qx_St) : Prop :=
  (∀ k, k < d → x 12 k = x0 12 k ∧ x 13 k = x0 13 k ∧ x 14 k = x0 14 k ∧ x 15 k = x0 15 k ∧ x 16 k = x0 16 k) ∧ x 1 = x0 1 ∧ x 17 = x0 17 ∧ x 18 = x0 18 ∧ x 19 = x0 19 ∧ x 20 = x0 20 ∧ (∀ f, 30 ≤ f → x f = x0 f) ∧ (∀ j, j ≠ 6 → j ≠ 7 → x 7 0 j = x0 7 0 j) ∧ (∀ q, q < 7 * pl → x 8 0 q = x0 8 0 q)
/-- and of the reference's -/
def yF (d pl : Nat) (y0 y : qx_St) : Prop :=
  (∀ k, k < d → y 39 0 k = y0 39 0 k ∧ y 40 0 k = y0 40 0 k ∧ y 41 0 k = y0 41 0 k ∧ y 42 0 k = y0 42 0 k ∧ y 43 0 k = y0 43 0 k ∧ y 44 0 k = y0 44 0 k ∧ y 45 0 k = y0 45 0 k ∧ y 46 0 k = y0 46 0 k ∧ y 47 0 k = y0 47 0 k ∧ y 48 0 k = y0 48 0 k ∧ y 49 0 k = y0 49 0 k ∧ y 54 0 k = y0 54 0 k ∧ y 55 0 k = y0 55 0 k) ∧ (∀ q, q < 8 * d → y 50 0 q = y0 50 0 q ∧ y 53 0 q = y0 53 0 q) ∧ (∀ q, q < 64 * d → y 51 0 q = y0 51 0 q) ∧ (∀ q, q < 4 * d → y 52 0 q = y0 52 0 q) ∧
  y 34 = y0 34 ∧ y 35 = y0 35 ∧ y 36 = y0 36 ∧ y 37 = y0 37 ∧ y 38 = y0 38 ∧ (∀ f, f < 30 → y f = y0 f) ∧ (∀ j, j ≠ 12 → j ≠ 30 → j ≠ 35 → j ≠ 36 → j ≠ 37 → y 30 0 j = y0 30 0 j) ∧ (∀ q, q < pl → y 60 0 q = y0 60 0 q ∧ y 61 0 q = y0 61 0 q ∧ y 62 0 q = y0 62 0 q ∧ y 63 0 q = y0 63 0 q ∧ y 64 0 q = y0 64 0 q ∧ y 65 0 q = y0 65 0 q)
theorem xF.rf {d pl : Nat} {x : qx_St} : xF d pl x x := ⟨fun _ _ => ⟨rfl, rfl, rfl, rfl, rfl⟩, rfl, rfl, rfl, rfl, rfl, fun _ _ => rfl, fun _ _ _ => rfl, fun _ _ => rfl⟩
theorem yF.rf {d pl : Nat} {y : qx_St} : yF d pl y y := ⟨fun _ _ => ⟨rfl, rfl, rfl, rfl, rfl, rfl, rfl, rfl, rfl, rfl, rfl, rfl, rfl⟩, fun _ _ => ⟨rfl, rfl⟩, fun _ _ => rfl, fun _ _ => rfl, rfl, rfl, rfl, rfl, rfl, fun _ _ => rfl, fun _ _ _ _ _ _ => rfl, fun _ _ => ⟨rfl, rfl, rfl, rfl, rfl, rfl⟩⟩
theorem xF.trans {d d' pl pl' : Nat} {x0 x1 x : qx_St} (h1 : xF d pl x0 x1) (h2 : xF d' pl' x1 x) (hd : d ≤ d') (hp : pl ≤ pl') : xF d pl x0 x := by
  obtain ⟨a1, a2, a3, a4, a5, a6, a7, a8, a9⟩ := h1
  obtain ⟨b1, b2, b3, b4, b5, b6, b7, b8, b9⟩ := h2
  refine ⟨fun k hk => ?_, b2.trans a2, b3.trans a3, b4.trans a4, b5.trans a5, b6.trans a6, fun f hf => (b7 f hf).trans (a7 f hf), fun j h6 h7 => (b8 j h6 h7).trans (a8 j h6 h7), fun q hq => (b9 q (by omega)).trans (a9 q hq)⟩
  obtain ⟨c1, c2, c3, c4, c5⟩ := a1 k hk
  obtain ⟨e1, e2, e3, e4, e5⟩ := b1 k (by omega)
  exact ⟨e1.trans c1, e2.trans c2, e3.trans c3, e4.trans c4, e5.trans c5⟩
theorem yF.trans {d d' pl pl' : Nat} {y0 y1 y : qx_St} (h1 : yF d pl y0 y1) (h2 : yF d' pl' y1 y) (hd : d ≤ d') (hp : pl ≤ pl') : yF d pl y0 y := by
  obtain ⟨a1, a2, a3, a4, a5, a6, a7, a8, a9, a10, a11, a12⟩ := h1
  obtain ⟨b1, b2, b3, b4, b5, b6, b7, b8, b9, b10, b11, b12⟩ := h2
  refine ⟨fun k hk => ?_, fun q hq => ⟨(b2 q (by omega)).1.trans (a2 q hq).1, (b2 q (by omega)).2.trans (a2 q hq).2⟩, fun q hq => (b3 q (by omega)).trans (a3 q hq), fun q hq => (b4 q (by omega)).trans (a4 q hq), b5.trans a5, b6.trans a6, b7.trans a7, b8.trans a8, b9.trans a9, fun f hf => (b10 f hf).trans (a10 f hf), fun j h1 h2 h3 h4 h5 => (b11 j h1 h2 h3 h4 h5).trans (a11 j h1 h2 h3 h4 h5), fun q hq => ?_⟩
  · obtain ⟨c1, c2, c3, c4, c5, c6, c7, c8, c9, c10, c11, c12, c13⟩ := a1 k hk
    obtain ⟨e1, e2, e3, e4, e5, e6, e7, e8, e9, e10, e11, e12, e13⟩ := b1 k (by omega)
    exact ⟨e1.trans c1, e2.trans c2, e3.trans c3, e4.trans c4, e5.trans c5, e6.trans c6, e7.trans c7, e8.trans c8, e9.trans c9, e10.trans c10, e11.trans c11, e12.trans c12, e13.trans c13⟩
  · obtain ⟨c1, c2, c3, c4, c5, c6⟩ := a12 q hq
    obtain ⟨e1, e2, e3, e4, e5, e6⟩ := b12 q (by omega)
    exact ⟨e1.trans c1, e2.trans c2, e3.trans c3, e4.trans c4, e5.trans c5, e6.trans c6⟩
/-- the parts of a state that a relation looks at -/
theorem rP.cg {n : Nat} {x y x' y' : qx_St} (h : rP n x y) (h1 : x' 1 = x 1) (h17 : x' 17 = x 17) (h18 : x' 18 = x 18) (h19 : x' 19 = x 19) (h20 : x' 20 = x 20) (g0 : y' 30 0 0 = y 30 0 0) (g34 : y' 34 = y 34) (g35 : y' 35 = y 35) (g36 : y' 36 = y 36) (g37 : y' 37 = y 37) (g38 : y' 38 = y 38) : rP n x' y' := by
  unfold rP at h ⊢
  rw [h1, h17, h18, h19, h20, g0, g34, g35, g36, g37, g38]
  exact h
theorem rW.cg {n ev : Nat} {x y x' y' : qx_St} (h : rW n ev x y) (h3 : x' 3 = x 3) (h4 : x' 4 = x 4) (h5 : x' 5 = x 5) (h6 : x' 6 = x 6) (g3 : y' 30 0 3 = y 30 0 3) (g30 : y' 30 0 30 = y 30 0 30) (g35 : y' 30 0 35 = y 30 0 35) (g31 : y' 31 = y 31) (g32 : y' 32 = y 32) (g33 : y' 33 = y 33) (g56 : y' 56 = y 56) (g57 : y' 57 = y 57) (g58 : y' 58 = y 58) (g59 : y' 59 = y 59) : rW n ev x' y' := by
  unfold rW at h ⊢
  rw [h3, h4, h5, h6, g3, g30, g35, g31, g32, g33, g56, g57, g58, g59]
  exact h
theorem rS.cg {n ev d : Nat} {x y x' y' : qx_St} (h : rS n ev d x y) (h14 : x' 14 d = x 14 d) (h15 : x' 15 d = x 15 d) (h16 : x' 16 d = x 16 d) (g3 : y' 30 0 3 = y 30 0 3) (g51 : ∀ q, q < 64 → y' 51 0 (64 * d + q) = y 51 0 (64 * d + q)) (g52 : ∀ q, q < 4 → y' 52 0 (4 * d + q) = y 52 0 (4 * d + q)) (g53 : ∀ q, q < 8 → y' 53 0 (8 * d + q) = y 53 0 (8 * d + q)) (g54 : y' 54 0 d = y 54 0 d) (g55 : y' 55 0 d = y 55 0 d) (hn : n ≤ 8) : rS n ev d x' y' := by
  unfold rS at h ⊢
  rw [h14, h15, h16, g3, g54, g55]
  obtain ⟨a1, a2, a3, a4, a5, a6⟩ := h
  exact ⟨fun q hq => (a1 q hq).trans (g51 q (by omega)).symm, a2, fun c hc => (a3 c hc).trans (g53 c (by omega)).symm, a4, fun u hu => (a5 u hu).trans (g52 u hu).symm, a6⟩
theorem rE.cg {e dp : Nat} {x y x' y' : qx_St} (h : rE e dp x y) (h6 : x' 7 0 6 = x 7 0 6) (h7 : x' 7 0 7 = x 7 0 7) (g6 : y' 30 0 36 = y 30 0 36) (g7 : y' 30 0 37 = y 30 0 37) : rE e dp x' y' := by
  unfold rE at h ⊢
  rw [h6, h7, g6, g7]
  exact h
theorem rO.cg {lo e : Nat} {x y x' y' : qx_St} (h : rO lo e x y) (hx : ∀ q, 7 * lo ≤ q → x' 8 0 q = x 8 0 q) (hy : ∀ k, lo ≤ k → y' 60 0 k = y 60 0 k ∧ y' 61 0 k = y 61 0 k ∧ y' 62 0 k = y 62 0 k ∧ y' 63 0 k = y 63 0 k ∧ y' 64 0 k = y 64 0 k ∧ y' 65 0 k = y 65 0 k) : rO lo e x' y' := by
  intro k h1 h2 h3
  have := h k h1 h2 h3
  unfold rRow at this ⊢
  obtain ⟨g0, g1, g2, g3, g4, g5⟩ := hy k h1
  rw [g0, g1, g2, g3, g4, g5, hx (7 * k) (by omega), hx (7 * k + 1) (by omega), hx (7 * k + 2) (by omega), hx (7 * k + 3) (by omega), hx (7 * k + 4) (by omega), hx (7 * k + 5) (by omega), hx (7 * k + 6) (by omega)]
  exact this
theorem rM.cg {n d : Nat} {x y x' y' : qx_St} (h : rM n d x y) (hx : ∀ k, k < d → x' 12 k = x 12 k) (hy : ∀ k, k < d → y' 39 0 k = y 39 0 k) : rM n d x' y' := by
  intro k hk
  rw [hx k hk, hy k hk]
  exact h k hk
/-- changes of the top frame alone -/
def xL (d : Nat) (x x' : qx_St) : Prop := (∀ f, f ≠ 12 → f ≠ 13 → x' f = x f) ∧ (∀ k, k ≠ d → x' 12 k = x 12 k ∧ x' 13 k = x 13 k) ∧ ∀ j, j ≠ 1 → j ≠ 9 → j ≠ 10 → j ≠ 11 → j ≠ 12 → j ≠ 13 → x' 12 d j = x 12 d j
def yL (d : Nat) (y y' : qx_St) : Prop := (∀ f, f ≠ 43 → f ≠ 44 → f ≠ 45 → f ≠ 46 → f ≠ 50 → y' f = y f) ∧ (∀ k, k ≠ d → y' 43 0 k = y 43 0 k ∧ y' 44 0 k = y 44 0 k ∧ y' 45 0 k = y 45 0 k ∧ y' 46 0 k = y 46 0 k) ∧ ∀ q, q < 8 * d → y' 50 0 q = y 50 0 q
theorem xL.rf {d : Nat} {x : qx_St} : xL d x x := ⟨fun _ _ _ => rfl, fun _ _ => ⟨rfl, rfl⟩, fun _ _ _ _ _ _ _ => rfl⟩
theorem yL.rf {d : Nat} {y : qx_St} : yL d y y := ⟨fun _ _ _ _ _ _ => rfl, fun _ _ => ⟨rfl, rfl, rfl, rfl⟩, fun _ _ => rfl⟩
theorem xL.trans {d : Nat} {x x1 x2 : qx_St} (a : xL d x x1) (b : xL d x1 x2) : xL d x x2 := ⟨fun f h1 h2 => (b.1 f h1 h2).trans (a.1 f h1 h2), fun k hk => ⟨(b.2.1 k hk).1.trans (a.2.1 k hk).1, (b.2.1 k hk).2.trans (a.2.1 k hk).2⟩, fun j h1 h2 h3 h4 h5 h6 => (b.2.2 j h1 h2 h3 h4 h5 h6).trans (a.2.2 j h1 h2 h3 h4 h5 h6)⟩
theorem yL.trans {d : Nat} {y y1 y2 : qx_St} (a : yL d y y1) (b : yL d y1 y2) : yL d y y2 := ⟨fun f h1 h2 h3 h4 h5 => (b.1 f h1 h2 h3 h4 h5).trans (a.1 f h1 h2 h3 h4 h5), fun k hk => ⟨(b.2.1 k hk).1.trans (a.2.1 k hk).1, (b.2.1 k hk).2.1.trans (a.2.1 k hk).2.1, (b.2.1 k hk).2.2.1.trans (a.2.1 k hk).2.2.1, (b.2.1 k hk).2.2.2.trans (a.2.1 k hk).2.2.2⟩, fun q hq => (b.2.2 q hq).trans (a.2.2 q hq)⟩
theorem xL.st {d j : Nat} {x : qx_St} {v : Int32} (hj : j = 1 ∨ j = 9 ∨ j = 10 ∨ j = 11 ∨ j = 12 ∨ j = 13) : xL d x (qx_st x 12 d j v) := ⟨fun f h1 _ => qp_st_f h1, fun k hk => ⟨qp_st_i hk, by rw [qp_st_f (by decide)]⟩, fun j' h1 h2 h3 h4 h5 h6 => qp_st_j (by omega)⟩
theorem xL.stk {d j : Nat} {x : qx_St} {v : Int32} : xL d x (qx_st x 13 d j v) := ⟨fun f _ h1 => qp_st_f h1, fun k hk => ⟨by rw [qp_st_f (by decide)], qp_st_i hk⟩, fun j' _ _ _ _ _ _ => by rw [qp_st_f (by decide)]⟩
theorem yL.st {d f : Nat} {y : qx_St} {v : Int32} (hf : f = 43 ∨ f = 44 ∨ f = 45 ∨ f = 46) : yL d y (qx_st y f 0 d v) := by
  refine ⟨fun g h1 h2 h3 h4 h5 => qp_st_f (by omega), fun k hk => ?_, fun q hq => by rw [qp_st_f (by omega)]⟩
  rcases hf with rfl | rfl | rfl | rfl
  · exact ⟨qp_st_j hk, by rw [qp_st_f (by decide)], by rw [qp_st_f (by decide)], by rw [qp_st_f (by decide)]⟩
  · exact ⟨by rw [qp_st_f (by decide)], qp_st_j hk, by rw [qp_st_f (by decide)], by rw [qp_st_f (by decide)]⟩
  · exact ⟨by rw [qp_st_f (by decide)], by rw [qp_st_f (by decide)], qp_st_j hk, by rw [qp_st_f (by decide)]⟩
  · exact ⟨by rw [qp_st_f (by decide)], by rw [qp_st_f (by decide)], by rw [qp_st_f (by decide)], qp_st_j hk⟩
theorem yL.stk {d j : Nat} {y : qx_St} {v : Int32} (hj : 8 * d ≤ j) : yL d y (qx_st y 50 0 j v) := ⟨fun g _ _ _ _ h5 => qp_st_f h5, fun k _ => ⟨by rw [qp_st_f (by decide)], by rw [qp_st_f (by decide)], by rw [qp_st_f (by decide)], by rw [qp_st_f (by decide)]⟩, fun q hq => qp_st_j (by omega)⟩
/-- all of it, but for the frame's own numbers -/
def rB (n d pl c m : Nat) (hw : Int32) (e dp ev : Nat) (x0 y0 x y : qx_St) : Prop := rP n x y ∧ rW n ev x y ∧ rS n ev d x y ∧ rE e dp x y ∧ rO (pl + 1) e x y ∧ rM n d x y ∧ rA n d pl c m hw x y ∧ (xF d pl x0 x ∧ x 14 d 2 = x0 3 0 3) ∧ yF d pl y0 y
theorem rB.loc {n d pl c m e dp ev : Nat} {hw : Int32} {x0 y0 x y x' y' : qx_St} (h : rB n d pl c m hw e dp ev x0 y0 x y) (hx : xL d x x') (hy : yL d y y') : rB n d pl c m hw e dp ev x0 y0 x' y' := by
  obtain ⟨hP, hW, hS, hE, hO, hM, hA, hfx, hfy⟩ := h
  obtain ⟨a1, a2, a3⟩ := hx
  obtain ⟨b1, b2, b3⟩ := hy
  have bf : ∀ f, f ≠ 43 → f ≠ 44 → f ≠ 45 → f ≠ 46 → f ≠ 50 → y' f = y f := b1
  have n8 : n ≤ 8 := hP.1
  refine ⟨hP.cg (a1 1 (by decide) (by decide)) (a1 17 (by decide) (by decide)) (a1 18 (by decide) (by decide)) (a1 19 (by decide) (by decide)) (a1 20 (by decide) (by decide)) (by rw [bf 30 (by decide) (by decide) (by decide) (by decide) (by decide)]) (bf 34 (by decide) (by decide) (by decide) (by decide) (by decide)) (bf 35 (by decide) (by decide) (by decide) (by decide) (by decide)) (bf 36 (by decide) (by decide) (by decide) (by decide) (by decide)) (bf 37 (by decide) (by decide) (by decide) (by decide) (by decide)) (bf 38 (by decide) (by decide) (by decide) (by decide) (by decide)), hW.cg (a1 3 (by decide) (by decide)) (a1 4 (by decide) (by decide)) (a1 5 (by decide) (by decide)) (a1 6 (by decide) (by decide)) (by rw [bf 30 (by decide) (by decide) (by decide) (by decide) (by decide)]) (by rw [bf 30 (by decide) (by decide) (by decide) (by decide) (by decide)]) (by rw [bf 30 (by decide) (by decide) (by decide) (by decide) (by decide)]) (bf 31 (by decide) (by decide) (by decide) (by decide) (by decide)) (bf 32 (by decide) (by decide) (by decide) (by decide) (by decide)) (bf 33 (by decide) (by decide) (by decide) (by decide) (by decide)) (bf 56 (by decide) (by decide) (by decide) (by decide) (by decide)) (bf 57 (by decide) (by decide) (by decide) (by decide) (by decide)) (bf 58 (by decide) (by decide) (by decide) (by decide) (by decide)) (bf 59 (by decide) (by decide) (by decide) (by decide) (by decide)), hS.cg (by rw [a1 14 (by decide) (by decide)]) (by rw [a1 15 (by decide) (by decide)]) (by rw [a1 16 (by decide) (by decide)]) (by rw [bf 30 (by decide) (by decide) (by decide) (by decide) (by decide)]) (fun q _ => by rw [bf 51 (by decide) (by decide) (by decide) (by decide) (by decide)]) (fun q _ => by rw [bf 52 (by decide) (by decide) (by decide) (by decide) (by decide)]) (fun q _ => by rw [bf 53 (by decide) (by decide) (by decide) (by decide) (by decide)]) (by rw [bf 54 (by decide) (by decide) (by decide) (by decide) (by decide)]) (by rw [bf 55 (by decide) (by decide) (by decide) (by decide) (by decide)]) n8, hE.cg (by rw [a1 7 (by decide) (by decide)]) (by rw [a1 7 (by decide) (by decide)]) (by rw [bf 30 (by decide) (by decide) (by decide) (by decide) (by decide)]) (by rw [bf 30 (by decide) (by decide) (by decide) (by decide) (by decide)]), hO.cg (fun q _ => by rw [a1 8 (by decide) (by decide)]) (fun k _ => by rw [bf 60 (by decide) (by decide) (by decide) (by decide) (by decide), bf 61 (by decide) (by decide) (by decide) (by decide) (by decide), bf 62 (by decide) (by decide) (by decide) (by decide) (by decide), bf 63 (by decide) (by decide) (by decide) (by decide) (by decide), bf 64 (by decide) (by decide) (by decide) (by decide) (by decide), bf 65 (by decide) (by decide) (by decide) (by decide) (by decide)]; exact ⟨rfl, rfl, rfl, rfl, rfl, rfl⟩), hM.cg (fun k hk => (a2 k (by omega)).1) (fun k _ => by rw [bf 39 (by decide) (by decide) (by decide) (by decide) (by decide)]), ?_, ?_, ?_⟩
  · unfold rA at hA ⊢
    rw [a3 2 (by decide) (by decide) (by decide) (by decide) (by decide) (by decide), a3 3 (by decide) (by decide) (by decide) (by decide) (by decide) (by decide), a3 4 (by decide) (by decide) (by decide) (by decide) (by decide) (by decide), a3 5 (by decide) (by decide) (by decide) (by decide) (by decide) (by decide), a3 6 (by decide) (by decide) (by decide) (by decide) (by decide) (by decide), a3 7 (by decide) (by decide) (by decide) (by decide) (by decide) (by decide), bf 39 (by decide) (by decide) (by decide) (by decide) (by decide), bf 40 (by decide) (by decide) (by decide) (by decide) (by decide), bf 41 (by decide) (by decide) (by decide) (by decide) (by decide), bf 42 (by decide) (by decide) (by decide) (by decide) (by decide), bf 49 (by decide) (by decide) (by decide) (by decide) (by decide), bf 48 (by decide) (by decide) (by decide) (by decide) (by decide), bf 47 (by decide) (by decide) (by decide) (by decide) (by decide), bf 30 (by decide) (by decide) (by decide) (by decide) (by decide), bf 60 (by decide) (by decide) (by decide) (by decide) (by decide), bf 61 (by decide) (by decide) (by decide) (by decide) (by decide), bf 65 (by decide) (by decide) (by decide) (by decide) (by decide)]
    exact hA
  · refine ⟨?_, by rw [a1 14 (by decide) (by decide)]; exact hfx.2⟩
    refine hfx.1.trans (d' := d) (pl' := pl) ⟨fun k hk => ⟨(a2 k (by omega)).1, (a2 k (by omega)).2, by rw [a1 14 (by decide) (by decide)], by rw [a1 15 (by decide) (by decide)], by rw [a1 16 (by decide) (by decide)]⟩, a1 1 (by decide) (by decide), a1 17 (by decide) (by decide), a1 18 (by decide) (by decide), a1 19 (by decide) (by decide), a1 20 (by decide) (by decide), fun f hf => a1 f (by omega) (by omega), fun j _ _ => by rw [a1 7 (by decide) (by decide)], fun q _ => by rw [a1 8 (by decide) (by decide)]⟩ (Nat.le_refl _) (Nat.le_refl _)
  · refine hfy.trans (d' := d) (pl' := pl) ⟨fun k hk => ?_, fun q hq => ⟨b3 q hq, by rw [bf 53 (by decide) (by decide) (by decide) (by decide) (by decide)]⟩, fun q _ => by rw [bf 51 (by decide) (by decide) (by decide) (by decide) (by decide)], fun q _ => by rw [bf 52 (by decide) (by decide) (by decide) (by decide) (by decide)], bf 34 (by decide) (by decide) (by decide) (by decide) (by decide), bf 35 (by decide) (by decide) (by decide) (by decide) (by decide), bf 36 (by decide) (by decide) (by decide) (by decide) (by decide), bf 37 (by decide) (by decide) (by decide) (by decide) (by decide), bf 38 (by decide) (by decide) (by decide) (by decide) (by decide), fun f hf => bf f (by omega) (by omega) (by omega) (by omega) (by omega), fun j _ _ _ _ _ => by rw [bf 30 (by decide) (by decide) (by decide) (by decide) (by decide)], fun q _ => by rw [bf 60 (by decide) (by decide) (by decide) (by decide) (by decide), bf 61 (by decide) (by decide) (by decide) (by decide) (by decide), bf 62 (by decide) (by decide) (by decide) (by decide) (by decide), bf 63 (by decide) (by decide) (by decide) (by decide) (by decide), bf 64 (by decide) (by decide) (by decide) (by decide) (by decide), bf 65 (by decide) (by decide) (by decide) (by decide) (by decide)]; exact ⟨rfl, rfl, rfl, rfl, rfl, rfl⟩⟩ (Nat.le_refl _) (Nat.le_refl _)
    obtain ⟨c1, c2, c3, c4⟩ := b2 k (by omega)
    rw [bf 39 (by decide) (by decide) (by decide) (by decide) (by decide), bf 40 (by decide) (by decide) (by decide) (by decide) (by decide), bf 41 (by decide) (by decide) (by decide) (by decide) (by decide), bf 42 (by decide) (by decide) (by decide) (by decide) (by decide), bf 47 (by decide) (by decide) (by decide) (by decide) (by decide), bf 48 (by decide) (by decide) (by decide) (by decide) (by decide), bf 49 (by decide) (by decide) (by decide) (by decide) (by decide), bf 54 (by decide) (by decide) (by decide) (by decide) (by decide), bf 55 (by decide) (by decide) (by decide) (by decide) (by decide)]
    exact ⟨rfl, rfl, rfl, rfl, c1, c2, c3, c4, rfl, rfl, rfl, rfl, rfl⟩
