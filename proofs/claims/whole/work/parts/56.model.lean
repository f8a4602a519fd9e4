/-! the world once all is made, and the reference's constructor -/
def PX (w : qx_Wx) : Prop := PS (S4 32) w ∧ PS (S9 8) w ∧ (PT w 3 0 0 4 0 ∧ PT w 3 0 1 5 0 ∧ PT w 3 0 2 6 0 ∧ PT w 7 0 0 8 0) ∧ PT w 0 0 0 1 0 ∧ PT w 0 0 1 3 0 ∧ PT w 0 0 2 7 0 ∧ PT w 0 0 3 9 0
theorem PX.mono {T : Nat → Nat → Nat → Prop} {N : Nat → Nat → Prop} {w w' : qx_Wx} (h : PX w) (hG : Gw T N w w') (hT : ∀ f i j, f < 30 → ¬ T f i j) : PX w' := by
  obtain ⟨a, b, ⟨c1, c2, c3, c4⟩, d1, d2, d3, d4⟩ := h
  exact ⟨a.mono hG (fun f i j g k h => hT f i j (by unfold S4 at h; omega)), b.mono hG (fun f i j g k h => hT f i j (by unfold S9 at h; omega)), ⟨c1.mono hG (hT _ _ _ (by omega)), c2.mono hG (hT _ _ _ (by omega)), c3.mono hG (hT _ _ _ (by omega)), c4.mono hG (hT _ _ _ (by omega))⟩, d1.mono hG (hT _ _ _ (by omega)), d2.mono hG (hT _ _ _ (by omega)), d3.mono hG (hT _ _ _ (by omega)), d4.mono hG (hT _ _ _ (by omega))⟩
def sl10 (g : Nat) : Nat := ([1, 2, 4, 5, 6, 7, 8, 9, 13, 14, 15, 16, 17, 18, 19, 20, 21, 22, 23, 24, 25, 26, 27, 28, 29, 31, 32, 33, 34, 38, 39, 40, 41, 42, 43] : List Nat).getD (g - 31) 0
theorem sl10_lt : ∀ g', g' < 66 → ∀ g, g < g' → 31 ≤ g → sl10 g < sl10 g' := by decide +kernel
def PM (t : Nat) (w : qx_Wx) : Prop := ∀ g, 31 ≤ g → g < 31 + t → PT w 30 0 (sl10 g) g 0
theorem m_step {w0 w w' : qx_Wx} {t slot : Nat} (H : Gw (fun f' i' _ => f' = 30 ∧ i' = 0) (fun f' i' => 31 ≤ f' ∧ f' < 31 + t ∧ i' = 0) w0 w) (F : PM t w) (ht : t < 35) (hs : sl10 (31 + t) = slot) (G : Gw (fun f' i' j' => f' = 30 ∧ i' = 0 ∧ j' = slot) (fun f' i' => f' = 31 + t ∧ i' = 0) w w') (P : PT w' 30 0 slot (31 + t) 0) : Gw (fun f' i' _ => f' = 30 ∧ i' = 0) (fun f' i' => 31 ≤ f' ∧ f' < 31 + (t + 1) ∧ i' = 0) w0 w' ∧ PM (t + 1) w' := by
  refine ⟨H.trans G (fun f' i' j h _ => h.elim id (fun q => ⟨q.1, q.2.1⟩)) (fun f' i' => by omega), fun g h1 h2 => ?_⟩
  rcases Nat.lt_or_ge g (31 + t) with h | h
  · refine (F g h1 h).mono G (fun q => ?_)
    have := sl10_lt (31 + t) (by omega) g h h1
    omega
  · obtain rfl : g = 31 + t := by omega
    rw [hs]
    exact P
theorem qx_E_objcg {ca : Nat → ClassId} {ρ ρ' : Nat → Nat → Nat → Option Nat} {σ : qx_St} {f i ci : Nat} {sl : List (Option Nat)} (hsh : qx_sh f = .inl (ci, sl)) (h : ∀ j g, sl[j]? = some (some g) → ρ f i j = ρ' f i j) : qx_E ca ρ σ f i = qx_E ca ρ' σ f i := by
  rw [qx_E_obj hsh, qx_E_obj hsh]
  congr 2
  refine List.map_congr_left (fun j _ => ?_)
  unfold qx_slot
  cases hx : sl[j]? with
  | none => rfl
  | some o =>
    cases o with
    | none => rfl
    | some g => simp only [h j g hx]
theorem qx_r0o {ad : Nat → Nat → Nat} {f i j ci g : Nat} {sl : List (Option Nat)} (hsh : qx_sh f = .inl (ci, sl)) (h : sl[j]? = some (some g)) : qx_r0 ad f i j = some (ad g i) := by simp only [qx_r0, hsh, h]
theorem conv_obj {D : va_G} {ca : Nat → ClassId} {w : qx_Wx} {σ : qx_St} {f i ci a : Nat} {sl : List (Option Nat)} {H : Heap} (hsh : qx_sh f = .inl (ci, sl)) (h : ∀ j g, sl[j]? = some (some g) → PT w f i j g i) (hx : va_at D vwCl (a, qx_E ca w.2.2 σ f i) H) : va_at D vwCl (a, qx_E ca (qx_r0 w.2.1) σ f i) H := by
  rw [← qx_E_objcg (ρ := w.2.2) hsh (fun j g hj => by rw [qx_r0o hsh hj]; exact (h j g hj).2.2)]
  exact hx
theorem conv_arr {D : va_G} {ca : Nat → ClassId} {w : qx_Wx} {σ : qx_St} {f i tk n tg a : Nat} {H : Heap} (hsh : qx_sh f = .inr (.inr (tk, n, tg))) (h : ∀ j, j < n → PT w f i j tg j) (hx : va_at D vwCl (a, qx_E ca w.2.2 σ f i) H) : va_at D vwCl (a, qx_E ca (qx_r0 w.2.1) σ f i) H := by
  rw [qx_E_qarr hsh] at hx ⊢
  have hx : H[a]? = some (vp_cell (ca tk) (n, .inr (.inr (.inr (.inr (w.2.2 f i)))))) := hx
  show H[a]? = some (vp_cell (ca tk) (n, .inr (.inr (.inr (.inr (qx_r0 w.2.1 f i))))))
  rw [hx, vp_cell_q, vp_cell_q]
  congr 1
  unfold arrV
  congr 2
  funext j
  show va_rf (w.2.2 f i j.val) = va_rf (qx_r0 w.2.1 f i j.val)
  rw [qx_r0q hsh j.isLt, (h j.val j.isLt).2.2]
set_option maxRecDepth 100000 in
theorem conv_all {D : va_G} {ca : Nat → ClassId} {w : qx_Wx} {σ : qx_St} {H : Heap} (hX : PX w) (hM : PM 35 w) : ∀ f i a, f < 66 → i < qx_cnt f → va_at D vwCl (a, qx_E ca w.2.2 σ f i) H → va_at D vwCl (a, qx_E ca (qx_r0 w.2.1) σ f i) H := by
  obtain ⟨x4, x9, ⟨c1, c2, c3, c4⟩, d1, d2, d3, d4⟩ := hX
  intro f i a hf hi hx
  rcases (show f = 0 ∨ f = 1 ∨ f = 2 ∨ f = 3 ∨ f = 4 ∨ f = 5 ∨ f = 6 ∨ f = 7 ∨ f = 8 ∨ f = 9 ∨ f = 10 ∨ f = 11 ∨ f = 12 ∨ f = 13 ∨ f = 14 ∨ f = 15 ∨ f = 16 ∨ f = 17 ∨ f = 18 ∨ f = 19 ∨ f = 20 ∨ f = 21 ∨ f = 22 ∨ f = 23 ∨ f = 24 ∨ f = 25 ∨ f = 26 ∨ f = 27 ∨ f = 28 ∨ f = 29 ∨ f = 30 ∨ f = 31 ∨ f = 32 ∨ f = 33 ∨ f = 34 ∨ f = 35 ∨ f = 36 ∨ f = 37 ∨ f = 38 ∨ f = 39 ∨ f = 40 ∨ f = 41 ∨ f = 42 ∨ f = 43 ∨ f = 44 ∨ f = 45 ∨ f = 46 ∨ f = 47 ∨ f = 48 ∨ f = 49 ∨ f = 50 ∨ f = 51 ∨ f = 52 ∨ f = 53 ∨ f = 54 ∨ f = 55 ∨ f = 56 ∨ f = 57 ∨ f = 58 ∨ f = 59 ∨ f = 60 ∨ f = 61 ∨ f = 62 ∨ f = 63 ∨ f = 64 ∨ f = 65 by omega) with rfl | rfl | rfl | rfl | rfl | rfl | rfl | rfl | rfl | rfl | rfl | rfl | rfl | rfl | rfl | rfl | rfl | rfl | rfl | rfl | rfl | rfl | rfl | rfl | rfl | rfl | rfl | rfl | rfl | rfl | rfl | rfl | rfl | rfl | rfl | rfl | rfl | rfl | rfl | rfl | rfl | rfl | rfl | rfl | rfl | rfl | rfl | rfl | rfl | rfl | rfl | rfl | rfl | rfl | rfl | rfl | rfl | rfl | rfl | rfl | rfl | rfl | rfl | rfl | rfl | rfl
  · obtain rfl : i = 0 := Nat.lt_one_iff.mp hi
    refine conv_obj rfl (fun j g hj => ?_) hx
    have hj2 := (List.getElem?_eq_some_iff.mp hj).1
    rcases (show j = 0 ∨ j = 1 ∨ j = 2 ∨ j = 3 by exact (by simpa using hj2 : j < 4) |> fun h => by omega) with rfl | rfl | rfl | rfl
    · cases hj; exact d1
    · cases hj; exact d2
    · cases hj; exact d3
    · cases hj; exact d4
  · obtain rfl : i = 0 := Nat.lt_one_iff.mp hi
    refine conv_obj rfl (fun j g hj => ?_) hx
    have hj2 := (List.getElem?_eq_some_iff.mp hj).1
    rcases (show j = 0 ∨ j = 1 by exact (by simpa using hj2 : j < 2) |> fun h => by omega) with rfl | rfl
    · cases hj; exact x4 1 0 0 2 0 (Or.inl ⟨rfl, rfl, rfl, rfl, rfl⟩)
    · cases hj
  · obtain rfl : i = 0 := Nat.lt_one_iff.mp hi
    exact conv_arr rfl (fun j hj => x4 2 0 j 17 j (Or.inr (Or.inl ⟨rfl, rfl, hj, rfl, rfl⟩))) hx
  · obtain rfl : i = 0 := Nat.lt_one_iff.mp hi
    refine conv_obj rfl (fun j g hj => ?_) hx
    have hj2 := (List.getElem?_eq_some_iff.mp hj).1
    rcases (show j = 0 ∨ j = 1 ∨ j = 2 ∨ j = 3 ∨ j = 4 by exact (by simpa using hj2 : j < 5) |> fun h => by omega) with rfl | rfl | rfl | rfl | rfl
    · cases hj; exact c1
    · cases hj; exact c2
    · cases hj; exact c3
    · cases hj
    · cases hj
  · exact hx
  · exact hx
  · exact hx
  · obtain rfl : i = 0 := Nat.lt_one_iff.mp hi
    refine conv_obj rfl (fun j g hj => ?_) hx
    have hj2 := (List.getElem?_eq_some_iff.mp hj).1
    rcases (show j = 0 ∨ j = 1 ∨ j = 2 ∨ j = 3 ∨ j = 4 ∨ j = 5 ∨ j = 6 ∨ j = 7 ∨ j = 8 ∨ j = 9 by exact (by simpa using hj2 : j < 10) |> fun h => by omega) with rfl | rfl | rfl | rfl | rfl | rfl | rfl | rfl | rfl | rfl
    · cases hj; exact c4
    · cases hj
    · cases hj
    · cases hj
    · cases hj
    · cases hj
    · cases hj
    · cases hj
    · cases hj
    · cases hj
  · exact hx
  · obtain rfl : i = 0 := Nat.lt_one_iff.mp hi
    refine conv_obj rfl (fun j g hj => ?_) hx
    have hj2 := (List.getElem?_eq_some_iff.mp hj).1
    rcases (show j = 0 ∨ j = 1 ∨ j = 2 ∨ j = 3 ∨ j = 4 by exact (by simpa using hj2 : j < 5) |> fun h => by omega) with rfl | rfl | rfl | rfl | rfl
    · cases hj; exact x9 9 0 0 1 0 (by unfold S9; omega)
    · cases hj; exact x9 9 0 1 3 0 (by unfold S9; omega)
    · cases hj; exact x9 9 0 2 7 0 (by unfold S9; omega)
    · cases hj; exact x9 9 0 3 10 0 (by unfold S9; omega)
    · cases hj; exact x9 9 0 4 11 0 (by unfold S9; omega)
  · obtain rfl : i = 0 := Nat.lt_one_iff.mp hi
    exact conv_arr rfl (fun j hj => x9 10 0 j 12 j (Or.inr (Or.inl ⟨rfl, rfl, hj, rfl, rfl⟩))) hx
  · obtain rfl : i = 0 := Nat.lt_one_iff.mp hi
    exact conv_arr rfl (fun j hj => x9 11 0 j 14 j (Or.inr (Or.inr (Or.inl ⟨rfl, rfl, hj, rfl, rfl⟩)))) hx
  · have hi : i < 8 := hi
    refine conv_obj rfl (fun j g hj => ?_) hx
    have hj2 := (List.getElem?_eq_some_iff.mp hj).1
    rcases (show j = 0 ∨ j = 1 ∨ j = 2 ∨ j = 3 ∨ j = 4 ∨ j = 5 ∨ j = 6 ∨ j = 7 ∨ j = 8 ∨ j = 9 ∨ j = 10 ∨ j = 11 ∨ j = 12 ∨ j = 13 by exact (by simpa using hj2 : j < 14) |> fun h => by omega) with rfl | rfl | rfl | rfl | rfl | rfl | rfl | rfl | rfl | rfl | rfl | rfl | rfl | rfl
    · cases hj; exact x9 12 i 0 13 i (Or.inr (Or.inr (Or.inr (Or.inl ⟨rfl, hi, rfl, rfl, rfl⟩))))
    · cases hj
    · cases hj
    · cases hj
    · cases hj
    · cases hj
    · cases hj
    · cases hj
    · cases hj
    · cases hj
    · cases hj
    · cases hj
    · cases hj
    · cases hj
  · exact hx
  · have hi : i < 8 := hi
    refine conv_obj rfl (fun j g hj => ?_) hx
    have hj2 := (List.getElem?_eq_some_iff.mp hj).1
    rcases (show j = 0 ∨ j = 1 ∨ j = 2 ∨ j = 3 by exact (by simpa using hj2 : j < 4) |> fun h => by omega) with rfl | rfl | rfl | rfl
    · cases hj; exact x9 14 i 0 15 i (Or.inr (Or.inr (Or.inr (Or.inr ⟨rfl, hi, by omega, rfl, rfl⟩))))
    · cases hj; exact x9 14 i 1 16 i (Or.inr (Or.inr (Or.inr (Or.inr ⟨rfl, hi, by omega, rfl, rfl⟩))))
    · cases hj
    · cases hj
  · exact hx
  · exact hx
  · have hi : i < 32 := hi
    refine conv_obj rfl (fun j g hj => ?_) hx
    have hj2 := (List.getElem?_eq_some_iff.mp hj).1
    rcases (show j = 0 ∨ j = 1 ∨ j = 2 ∨ j = 3 ∨ j = 4 by exact (by simpa using hj2 : j < 5) |> fun h => by omega) with rfl | rfl | rfl | rfl | rfl
    · cases hj; exact x4 17 i 0 18 i (Or.inr (Or.inr ⟨rfl, hi, by omega, rfl, rfl⟩))
    · cases hj; exact x4 17 i 1 19 i (Or.inr (Or.inr ⟨rfl, hi, by omega, rfl, rfl⟩))
    · cases hj; exact x4 17 i 2 20 i (Or.inr (Or.inr ⟨rfl, hi, by omega, rfl, rfl⟩))
    · cases hj
    · cases hj
  · exact hx
  · exact hx
  · exact hx
  · exact absurd hi (Nat.not_lt_zero _)
  · exact absurd hi (Nat.not_lt_zero _)
  · exact absurd hi (Nat.not_lt_zero _)
  · exact absurd hi (Nat.not_lt_zero _)
  · exact absurd hi (Nat.not_lt_zero _)
  · exact absurd hi (Nat.not_lt_zero _)
  · exact absurd hi (Nat.not_lt_zero _)
  · exact absurd hi (Nat.not_lt_zero _)
  · exact absurd hi (Nat.not_lt_zero _)
  · obtain rfl : i = 0 := Nat.lt_one_iff.mp hi
    refine conv_obj rfl (fun j g hj => ?_) hx
    have hj2 := (List.getElem?_eq_some_iff.mp hj).1
    rcases (show j = 0 ∨ j = 1 ∨ j = 2 ∨ j = 3 ∨ j = 4 ∨ j = 5 ∨ j = 6 ∨ j = 7 ∨ j = 8 ∨ j = 9 ∨ j = 10 ∨ j = 11 ∨ j = 12 ∨ j = 13 ∨ j = 14 ∨ j = 15 ∨ j = 16 ∨ j = 17 ∨ j = 18 ∨ j = 19 ∨ j = 20 ∨ j = 21 ∨ j = 22 ∨ j = 23 ∨ j = 24 ∨ j = 25 ∨ j = 26 ∨ j = 27 ∨ j = 28 ∨ j = 29 ∨ j = 30 ∨ j = 31 ∨ j = 32 ∨ j = 33 ∨ j = 34 ∨ j = 35 ∨ j = 36 ∨ j = 37 ∨ j = 38 ∨ j = 39 ∨ j = 40 ∨ j = 41 ∨ j = 42 ∨ j = 43 ∨ j = 44 ∨ j = 45 ∨ j = 46 ∨ j = 47 ∨ j = 48 by exact (by simpa using hj2 : j < 49) |> fun h => by omega) with rfl | rfl | rfl | rfl | rfl | rfl | rfl | rfl | rfl | rfl | rfl | rfl | rfl | rfl | rfl | rfl | rfl | rfl | rfl | rfl | rfl | rfl | rfl | rfl | rfl | rfl | rfl | rfl | rfl | rfl | rfl | rfl | rfl | rfl | rfl | rfl | rfl | rfl | rfl | rfl | rfl | rfl | rfl | rfl | rfl | rfl | rfl | rfl | rfl
    · cases hj
    · cases hj; exact hM 31 (by omega) (by omega)
    · cases hj; exact hM 32 (by omega) (by omega)
    · cases hj
    · cases hj; exact hM 33 (by omega) (by omega)
    · cases hj; exact hM 34 (by omega) (by omega)
    · cases hj; exact hM 35 (by omega) (by omega)
    · cases hj; exact hM 36 (by omega) (by omega)
    · cases hj; exact hM 37 (by omega) (by omega)
    · cases hj; exact hM 38 (by omega) (by omega)
    · cases hj
    · cases hj
    · cases hj
    · cases hj; exact hM 39 (by omega) (by omega)
    · cases hj; exact hM 40 (by omega) (by omega)
    · cases hj; exact hM 41 (by omega) (by omega)
    · cases hj; exact hM 42 (by omega) (by omega)
    · cases hj; exact hM 43 (by omega) (by omega)
    · cases hj; exact hM 44 (by omega) (by omega)
    · cases hj; exact hM 45 (by omega) (by omega)
    · cases hj; exact hM 46 (by omega) (by omega)
    · cases hj; exact hM 47 (by omega) (by omega)
    · cases hj; exact hM 48 (by omega) (by omega)
    · cases hj; exact hM 49 (by omega) (by omega)
    · cases hj; exact hM 50 (by omega) (by omega)
    · cases hj; exact hM 51 (by omega) (by omega)
    · cases hj; exact hM 52 (by omega) (by omega)
    · cases hj; exact hM 53 (by omega) (by omega)
    · cases hj; exact hM 54 (by omega) (by omega)
    · cases hj; exact hM 55 (by omega) (by omega)
    · cases hj
    · cases hj; exact hM 56 (by omega) (by omega)
    · cases hj; exact hM 57 (by omega) (by omega)
    · cases hj; exact hM 58 (by omega) (by omega)
    · cases hj; exact hM 59 (by omega) (by omega)
    · cases hj
    · cases hj
    · cases hj
    · cases hj; exact hM 60 (by omega) (by omega)
    · cases hj; exact hM 61 (by omega) (by omega)
    · cases hj; exact hM 62 (by omega) (by omega)
    · cases hj; exact hM 63 (by omega) (by omega)
    · cases hj; exact hM 64 (by omega) (by omega)
    · cases hj; exact hM 65 (by omega) (by omega)
    · cases hj
    · cases hj
    · cases hj
    · cases hj
    · cases hj
  · exact hx
  · exact hx
  · exact hx
  · exact hx
  · exact hx
  · exact hx
  · exact hx
  · exact hx
  · exact hx
  · exact hx
  · exact hx
  · exact hx
  · exact hx
  · exact hx
  · exact hx
  · exact hx
  · exact hx
  · exact hx
  · exact hx
  · exact hx
  · exact hx
  · exact hx
  · exact hx
  · exact hx
  · exact hx
  · exact hx
  · exact hx
  · exact hx
  · exact hx
  · exact hx
  · exact hx
  · exact hx
  · exact hx
  · exact hx
  · exact hx
theorem qx_cells_lt {f i : Nat} (h : (f, i) ∈ qx_cells) : f < 66 ∧ i < qx_cnt f := by
  obtain ⟨f', h1, h2⟩ := List.mem_flatMap.mp h
  obtain ⟨i', h3, h4⟩ := List.mem_map.mp h2
  cases h4
  exact ⟨List.mem_range.mp h1, List.mem_range.mp h3⟩
set_option maxRecDepth 100000 in
theorem qx_cells_nd : qx_cells.Nodup := by decide +kernel
theorem cx_conv {K : qx_Cx} {G : qx_Gx} {nL cells slots : Nat} {Q : State → Prop} {w : qx_Wx} {σ : qx_St} {pc : Nat} {lv : List (Nat × Value)} {st : List Value} (hX : PX w) (hM : PM 35 w) (hmem : ∀ f i, f < 66 → i < qx_cnt f → (f, i) ∈ w.1) (k : qx_V K G nL cells slots Q (qx_w0 w.2.1) σ pc lv st) : qx_V K G nL cells slots Q w σ pc lv st := by
  intro H locs ls hP hD hS hl
  have at' : ∀ (q0 : Nat) (x : Nat × va_E), (qx_wd G.2.1 (qx_w0 w.2.1) σ)[q0]? = some x → ∃ f i, qx_cells[q0]? = some (f, i) ∧ x = (w.2.1 f i, qx_E G.2.1 (qx_r0 w.2.1) σ f i) ∧ f < 66 ∧ i < qx_cnt f ∧ (f, i) ∈ w.1 := by
    intro q0 x hx
    have h1 : (qx_wd G.2.1 (qx_w0 w.2.1) σ)[q0]? = (qx_cells[q0]?).map (fun q => (w.2.1 q.1 q.2, qx_E G.2.1 (qx_r0 w.2.1) σ q.1 q.2)) := List.getElem?_map
    rw [h1] at hx
    cases hc : qx_cells[q0]? with
    | none => rw [hc] at hx; cases hx
    | some q =>
      rw [hc] at hx
      obtain ⟨f, i⟩ := q
      have h2 := qx_cells_lt (List.mem_of_getElem? hc)
      exact ⟨f, i, rfl, (Option.some.inj hx).symm, h2.1, h2.2, hmem f i h2.1 h2.2⟩
  refine k H locs ls ?_ ⟨?_, ?_⟩ hS hl
  · intro q0 x hx
    obtain ⟨f, i, -, rfl, h1, h2, h3⟩ := at' q0 x hx
    obtain ⟨p0, -, hp⟩ := qx_wd_at (ca := G.2.1) (σ := σ) h3
    exact conv_all hX hM f i _ h1 h2 (hP p0 _ hp)
  · intro q1 q2 x y hx hy hxy
    obtain ⟨f, i, e1, rfl, -, -, h3⟩ := at' q1 x hx
    obtain ⟨f', i', e2, rfl, -, -, h4⟩ := at' q2 y hy
    obtain ⟨p0, a1, hp⟩ := qx_wd_at (ca := G.2.1) (σ := σ) h3
    obtain ⟨p1, a2, hp'⟩ := qx_wd_at (ca := G.2.1) (σ := σ) h4
    have hpp := hD.1 p0 p1 _ _ hp hp' hxy
    subst hpp
    rw [a1] at a2
    rw [← a2, ← e1] at e2
    exact (List.getElem?_inj (List.getElem?_eq_some_iff.mp e1).1 qx_cells_nd).mp e2.symm
  · intro q0 x hx
    obtain ⟨f, i, -, rfl, h1, h2, h3⟩ := at' q0 x hx
    obtain ⟨p0, -, hp⟩ := qx_wd_at (ca := G.2.1) (σ := σ) h3
    exact hD.2 p0 (w.2.1 f i, qx_E G.2.1 w.2.2 σ f i) hp
def bgY (σ : qx_St) : qx_St := iF 31 0 10000 4 0 (qx_st (qx_st (qx_st (qx_st (qx_st (qx_st (qx_st σ 30 0 0 0) 30 0 3 0) 30 0 10 0) 30 0 11 0) 30 0 44 0) 30 0 30 0) 30 0 36 0)
theorem begin_at {σ : qx_St} {post : qx_St → Prop} (hp : post (bgY σ)) : wX10_begin σ post := by
  unfold wX10_begin
  simp only [qp_fe]
  exact ⟨_, l_begin 4 0 _ (by omega) hp⟩
set_option maxHeartbeats 8000000 in
set_option maxRecDepth 100000 in
theorem nX10 (l : Launch) (G : qx_Gx) (t1 t2 : Nat) (w : qx_Wx) (σ : qx_St) (hm : (30, 0) ∈ w.1) (hx : ∀ f i, (f = 0 ∧ i = 0) ∨ N0 f i → (f, i) ∈ w.1) (hX : PX w) (hn : ∀ f, 31 ≤ f → f ≤ 65 → (f, 0) ∉ w.1) (hz : ∀ f i j, 30 ≤ f → σ f i j = 0) : qx_Mc l G t1 t2 w yX10_init cX10_init 1 { frames := 1, cells := 35, slots := 3316, locals := 24 } [.ref (w.2.1 30 0)] σ (fun w1 σ1 => ∃ ad, w1 = qx_w0 ad ∧ σ1 = bgY σ ∧ ad 0 0 = w.2.1 0 0 ∧ ad 30 0 = w.2.1 30 0) 35 3316 := by
  refine cx_start qx_mcX10_init (Nat.le_of_ble_eq_true rfl) (fun K hKl hR X hr hlk hin hA => ?_)
  subst hKl
  refine (show qx_V K G 1 0 0 (MQ K.2.2.2.2.2.2.2.1 (qx_Qc G _) K.2.2.2.2.2.2.1 K.2.2.2.2.1 35 3316 G.2.2) w σ 0 [(0, .ref (w.2.1 30 0))] [] from ?_)
  refine qx_aload_n (pc := 0) X 0 dX10_init_0 rfl rfl ?_
  refine cx_oinit (pc := 1) X qx_lRX10_1 (by rw [hR]; decide) (by rw [hR]; decide) dX10_init_1 ?_
  have H0 : Gw (fun f' i' _ => f' = 30 ∧ i' = 0) (fun f' i' => 31 ≤ f' ∧ f' < 31 + 0 ∧ i' = 0) w w := ⟨fun f' i' => ⟨Or.inl, fun h => h.elim id (fun q => absurd q (by omega))⟩, fun _ _ _ => rfl, fun _ _ _ _ _ => rfl⟩
  have F0 : PM 0 w := fun g h1 h2 => absurd h2 (by omega)
  refine qx_aload_n (pc := 4) X 0 dX10_init_4 rfl rfl ?_
  refine qx_iconst (v := 4) (pc := 5) X dX10_init_5 (by decide) ?_
  refine cx_mki (pc := 6) X hA hin qx_fRX10_7 rfl ((H0.1 30 0).mpr (Or.inl hm)) (H0.2.1 30 0 hm) (fun h => ((H0.1 31 0).mp h).elim (hn 31 (by omega) (by omega)) (by omega)) (fun j => hz 31 0 j (by decide)) (by decide) (by decide) (by decide) (by rw [hR]; decide) (by rw [hR]; decide) dX10_init_6 dX10_init_8 (fun w1 G1 P1 => ?_)
  obtain ⟨H1, F1⟩ := m_step (t := 0) H0 F0 (by omega) rfl G1 P1
  clear H0 F0 G1 P1
  refine qx_aload_n (pc := 11) X 0 dX10_init_11 rfl rfl ?_
  refine qx_bipush (v := 8) (pc := 12) X dX10_init_12 (by decide) ?_
  refine cx_mki (pc := 14) X hA hin qx_fRX10_13 rfl ((H1.1 30 0).mpr (Or.inl hm)) (H1.2.1 30 0 hm) (fun h => ((H1.1 32 0).mp h).elim (hn 32 (by omega) (by omega)) (by omega)) (fun j => hz 32 0 j (by decide)) (by decide) (by decide) (by decide) (by rw [hR]; decide) (by rw [hR]; decide) dX10_init_14 dX10_init_16 (fun w2 G2 P2 => ?_)
  obtain ⟨H2, F2⟩ := m_step (t := 1) H1 F1 (by omega) rfl G2 P2
  clear H1 F1 G2 P2
  refine qx_aload_n (pc := 19) X 0 dX10_init_19 rfl rfl ?_
  refine qx_bipush (v := 64) (pc := 20) X dX10_init_20 (by decide) ?_
  refine cx_mki (pc := 22) X hA hin qx_fRX10_16 rfl ((H2.1 30 0).mpr (Or.inl hm)) (H2.2.1 30 0 hm) (fun h => ((H2.1 33 0).mp h).elim (hn 33 (by omega) (by omega)) (by omega)) (fun j => hz 33 0 j (by decide)) (by decide) (by decide) (by decide) (by rw [hR]; decide) (by rw [hR]; decide) dX10_init_22 dX10_init_24 (fun w3 G3 P3 => ?_)
  obtain ⟨H3, F3⟩ := m_step (t := 2) H2 F2 (by omega) rfl G3 P3
  clear H2 F2 G3 P3
  refine qx_aload_n (pc := 27) X 0 dX10_init_27 rfl rfl ?_
  refine qx_bipush (v := 32) (pc := 28) X dX10_init_28 (by decide) ?_
  refine cx_mki (pc := 30) X hA hin qx_fRX10_19 rfl ((H3.1 30 0).mpr (Or.inl hm)) (H3.2.1 30 0 hm) (fun h => ((H3.1 34 0).mp h).elim (hn 34 (by omega) (by omega)) (by omega)) (fun j => hz 34 0 j (by decide)) (by decide) (by decide) (by decide) (by rw [hR]; decide) (by rw [hR]; decide) dX10_init_30 dX10_init_32 (fun w4 G4 P4 => ?_)
  obtain ⟨H4, F4⟩ := m_step (t := 3) H3 F3 (by omega) rfl G4 P4
  clear H3 F3 G4 P4
  refine qx_aload_n (pc := 35) X 0 dX10_init_35 rfl rfl ?_
  refine qx_bipush (v := 32) (pc := 36) X dX10_init_36 (by decide) ?_
  refine cx_mkz (pc := 38) X hA hin qx_fRX10_22 rfl ((H4.1 30 0).mpr (Or.inl hm)) (H4.2.1 30 0 hm) (fun h => ((H4.1 35 0).mp h).elim (hn 35 (by omega) (by omega)) (by omega)) (fun j => hz 35 0 j (by decide)) (by decide) (by decide) (by decide) (by rw [hR]; decide) (by rw [hR]; decide) dX10_init_38 dX10_init_40 (fun w5 G5 P5 => ?_)
  obtain ⟨H5, F5⟩ := m_step (t := 4) H4 F4 (by omega) rfl G5 P5
  clear H4 F4 G5 P5
  refine qx_aload_n (pc := 43) X 0 dX10_init_43 rfl rfl ?_
  refine qx_sipush (v := 640) (pc := 44) X dX10_init_44 (by decide) ?_
  refine cx_mki (pc := 47) X hA hin qx_fRX10_26 rfl ((H5.1 30 0).mpr (Or.inl hm)) (H5.2.1 30 0 hm) (fun h => ((H5.1 36 0).mp h).elim (hn 36 (by omega) (by omega)) (by omega)) (fun j => hz 36 0 j (by decide)) (by decide) (by decide) (by decide) (by rw [hR]; decide) (by rw [hR]; decide) dX10_init_47 dX10_init_49 (fun w6 G6 P6 => ?_)
  obtain ⟨H6, F6⟩ := m_step (t := 5) H5 F5 (by omega) rfl G6 P6
  clear H5 F5 G6 P6
  refine qx_aload_n (pc := 52) X 0 dX10_init_52 rfl rfl ?_
  refine qx_sipush (v := 640) (pc := 53) X dX10_init_53 (by decide) ?_
  refine cx_mki (pc := 56) X hA hin qx_fRX10_29 rfl ((H6.1 30 0).mpr (Or.inl hm)) (H6.2.1 30 0 hm) (fun h => ((H6.1 37 0).mp h).elim (hn 37 (by omega) (by omega)) (by omega)) (fun j => hz 37 0 j (by decide)) (by decide) (by decide) (by decide) (by rw [hR]; decide) (by rw [hR]; decide) dX10_init_56 dX10_init_58 (fun w7 G7 P7 => ?_)
  obtain ⟨H7, F7⟩ := m_step (t := 6) H6 F6 (by omega) rfl G7 P7
  clear H6 F6 G7 P7
  refine qx_aload_n (pc := 61) X 0 dX10_init_61 rfl rfl ?_
  refine qx_sipush (v := 640) (pc := 62) X dX10_init_62 (by decide) ?_
  refine cx_mki (pc := 65) X hA hin qx_fRX10_32 rfl ((H7.1 30 0).mpr (Or.inl hm)) (H7.2.1 30 0 hm) (fun h => ((H7.1 38 0).mp h).elim (hn 38 (by omega) (by omega)) (by omega)) (fun j => hz 38 0 j (by decide)) (by decide) (by decide) (by decide) (by rw [hR]; decide) (by rw [hR]; decide) dX10_init_65 dX10_init_67 (fun w8 G8 P8 => ?_)
  obtain ⟨H8, F8⟩ := m_step (t := 7) H7 F7 (by omega) rfl G8 P8
  clear H7 F7 G8 P8
  refine qx_aload_n (pc := 70) X 0 dX10_init_70 rfl rfl ?_
  refine qx_bipush (v := 8) (pc := 71) X dX10_init_71 (by decide) ?_
  refine cx_mki (pc := 73) X hA hin qx_fRX10_35 rfl ((H8.1 30 0).mpr (Or.inl hm)) (H8.2.1 30 0 hm) (fun h => ((H8.1 39 0).mp h).elim (hn 39 (by omega) (by omega)) (by omega)) (fun j => hz 39 0 j (by decide)) (by decide) (by decide) (by decide) (by rw [hR]; decide) (by rw [hR]; decide) dX10_init_73 dX10_init_75 (fun w9 G9 P9 => ?_)
  obtain ⟨H9, F9⟩ := m_step (t := 8) H8 F8 (by omega) rfl G9 P9
  clear H8 F8 G9 P9
  refine qx_aload_n (pc := 78) X 0 dX10_init_78 rfl rfl ?_
  refine qx_bipush (v := 8) (pc := 79) X dX10_init_79 (by decide) ?_
  refine cx_mki (pc := 81) X hA hin qx_fRX10_38 rfl ((H9.1 30 0).mpr (Or.inl hm)) (H9.2.1 30 0 hm) (fun h => ((H9.1 40 0).mp h).elim (hn 40 (by omega) (by omega)) (by omega)) (fun j => hz 40 0 j (by decide)) (by decide) (by decide) (by decide) (by rw [hR]; decide) (by rw [hR]; decide) dX10_init_81 dX10_init_83 (fun w10 G10 P10 => ?_)
  obtain ⟨H10, F10⟩ := m_step (t := 9) H9 F9 (by omega) rfl G10 P10
  clear H9 F9 G10 P10
  refine qx_aload_n (pc := 86) X 0 dX10_init_86 rfl rfl ?_
  refine qx_bipush (v := 8) (pc := 87) X dX10_init_87 (by decide) ?_
  refine cx_mki (pc := 89) X hA hin qx_fRX10_41 rfl ((H10.1 30 0).mpr (Or.inl hm)) (H10.2.1 30 0 hm) (fun h => ((H10.1 41 0).mp h).elim (hn 41 (by omega) (by omega)) (by omega)) (fun j => hz 41 0 j (by decide)) (by decide) (by decide) (by decide) (by rw [hR]; decide) (by rw [hR]; decide) dX10_init_89 dX10_init_91 (fun w11 G11 P11 => ?_)
  obtain ⟨H11, F11⟩ := m_step (t := 10) H10 F10 (by omega) rfl G11 P11
  clear H10 F10 G11 P11
  refine qx_aload_n (pc := 94) X 0 dX10_init_94 rfl rfl ?_
  refine qx_bipush (v := 8) (pc := 95) X dX10_init_95 (by decide) ?_
  refine cx_mki (pc := 97) X hA hin qx_fRX10_44 rfl ((H11.1 30 0).mpr (Or.inl hm)) (H11.2.1 30 0 hm) (fun h => ((H11.1 42 0).mp h).elim (hn 42 (by omega) (by omega)) (by omega)) (fun j => hz 42 0 j (by decide)) (by decide) (by decide) (by decide) (by rw [hR]; decide) (by rw [hR]; decide) dX10_init_97 dX10_init_99 (fun w12 G12 P12 => ?_)
  obtain ⟨H12, F12⟩ := m_step (t := 11) H11 F11 (by omega) rfl G12 P12
  clear H11 F11 G12 P12
  refine qx_aload_n (pc := 102) X 0 dX10_init_102 rfl rfl ?_
  refine qx_bipush (v := 8) (pc := 103) X dX10_init_103 (by decide) ?_
  refine cx_mki (pc := 105) X hA hin qx_fRX10_47 rfl ((H12.1 30 0).mpr (Or.inl hm)) (H12.2.1 30 0 hm) (fun h => ((H12.1 43 0).mp h).elim (hn 43 (by omega) (by omega)) (by omega)) (fun j => hz 43 0 j (by decide)) (by decide) (by decide) (by decide) (by rw [hR]; decide) (by rw [hR]; decide) dX10_init_105 dX10_init_107 (fun w13 G13 P13 => ?_)
  obtain ⟨H13, F13⟩ := m_step (t := 12) H12 F12 (by omega) rfl G13 P13
  clear H12 F12 G13 P13
  refine qx_aload_n (pc := 110) X 0 dX10_init_110 rfl rfl ?_
  refine qx_bipush (v := 8) (pc := 111) X dX10_init_111 (by decide) ?_
  refine cx_mki (pc := 113) X hA hin qx_fRX10_50 rfl ((H13.1 30 0).mpr (Or.inl hm)) (H13.2.1 30 0 hm) (fun h => ((H13.1 44 0).mp h).elim (hn 44 (by omega) (by omega)) (by omega)) (fun j => hz 44 0 j (by decide)) (by decide) (by decide) (by decide) (by rw [hR]; decide) (by rw [hR]; decide) dX10_init_113 dX10_init_115 (fun w14 G14 P14 => ?_)
  obtain ⟨H14, F14⟩ := m_step (t := 13) H13 F13 (by omega) rfl G14 P14
  clear H13 F13 G14 P14
  refine qx_aload_n (pc := 118) X 0 dX10_init_118 rfl rfl ?_
  refine qx_bipush (v := 8) (pc := 119) X dX10_init_119 (by decide) ?_
  refine cx_mki (pc := 121) X hA hin qx_fRX10_53 rfl ((H14.1 30 0).mpr (Or.inl hm)) (H14.2.1 30 0 hm) (fun h => ((H14.1 45 0).mp h).elim (hn 45 (by omega) (by omega)) (by omega)) (fun j => hz 45 0 j (by decide)) (by decide) (by decide) (by decide) (by rw [hR]; decide) (by rw [hR]; decide) dX10_init_121 dX10_init_123 (fun w15 G15 P15 => ?_)
  obtain ⟨H15, F15⟩ := m_step (t := 14) H14 F14 (by omega) rfl G15 P15
  clear H14 F14 G15 P15
  refine qx_aload_n (pc := 126) X 0 dX10_init_126 rfl rfl ?_
  refine qx_bipush (v := 8) (pc := 127) X dX10_init_127 (by decide) ?_
  refine cx_mki (pc := 129) X hA hin qx_fRX10_56 rfl ((H15.1 30 0).mpr (Or.inl hm)) (H15.2.1 30 0 hm) (fun h => ((H15.1 46 0).mp h).elim (hn 46 (by omega) (by omega)) (by omega)) (fun j => hz 46 0 j (by decide)) (by decide) (by decide) (by decide) (by rw [hR]; decide) (by rw [hR]; decide) dX10_init_129 dX10_init_131 (fun w16 G16 P16 => ?_)
  obtain ⟨H16, F16⟩ := m_step (t := 15) H15 F15 (by omega) rfl G16 P16
  clear H15 F15 G16 P16
  refine qx_aload_n (pc := 134) X 0 dX10_init_134 rfl rfl ?_
  refine qx_bipush (v := 8) (pc := 135) X dX10_init_135 (by decide) ?_
  refine cx_mki (pc := 137) X hA hin qx_fRX10_59 rfl ((H16.1 30 0).mpr (Or.inl hm)) (H16.2.1 30 0 hm) (fun h => ((H16.1 47 0).mp h).elim (hn 47 (by omega) (by omega)) (by omega)) (fun j => hz 47 0 j (by decide)) (by decide) (by decide) (by decide) (by rw [hR]; decide) (by rw [hR]; decide) dX10_init_137 dX10_init_139 (fun w17 G17 P17 => ?_)
  obtain ⟨H17, F17⟩ := m_step (t := 16) H16 F16 (by omega) rfl G17 P17
  clear H16 F16 G17 P17
  refine qx_aload_n (pc := 142) X 0 dX10_init_142 rfl rfl ?_
  refine qx_bipush (v := 8) (pc := 143) X dX10_init_143 (by decide) ?_
  refine cx_mki (pc := 145) X hA hin qx_fRX10_62 rfl ((H17.1 30 0).mpr (Or.inl hm)) (H17.2.1 30 0 hm) (fun h => ((H17.1 48 0).mp h).elim (hn 48 (by omega) (by omega)) (by omega)) (fun j => hz 48 0 j (by decide)) (by decide) (by decide) (by decide) (by rw [hR]; decide) (by rw [hR]; decide) dX10_init_145 dX10_init_147 (fun w18 G18 P18 => ?_)
  obtain ⟨H18, F18⟩ := m_step (t := 17) H17 F17 (by omega) rfl G18 P18
  clear H17 F17 G18 P18
  refine qx_aload_n (pc := 150) X 0 dX10_init_150 rfl rfl ?_
  refine qx_bipush (v := 8) (pc := 151) X dX10_init_151 (by decide) ?_
  refine cx_mkz (pc := 153) X hA hin qx_fRX10_65 rfl ((H18.1 30 0).mpr (Or.inl hm)) (H18.2.1 30 0 hm) (fun h => ((H18.1 49 0).mp h).elim (hn 49 (by omega) (by omega)) (by omega)) (fun j => hz 49 0 j (by decide)) (by decide) (by decide) (by decide) (by rw [hR]; decide) (by rw [hR]; decide) dX10_init_153 dX10_init_155 (fun w19 G19 P19 => ?_)
  obtain ⟨H19, F19⟩ := m_step (t := 18) H18 F18 (by omega) rfl G19 P19
  clear H18 F18 G19 P19
  refine qx_aload_n (pc := 158) X 0 dX10_init_158 rfl rfl ?_
  refine qx_bipush (v := 64) (pc := 159) X dX10_init_159 (by decide) ?_
  refine cx_mki (pc := 161) X hA hin qx_fRX10_68 rfl ((H19.1 30 0).mpr (Or.inl hm)) (H19.2.1 30 0 hm) (fun h => ((H19.1 50 0).mp h).elim (hn 50 (by omega) (by omega)) (by omega)) (fun j => hz 50 0 j (by decide)) (by decide) (by decide) (by decide) (by rw [hR]; decide) (by rw [hR]; decide) dX10_init_161 dX10_init_163 (fun w20 G20 P20 => ?_)
  obtain ⟨H20, F20⟩ := m_step (t := 19) H19 F19 (by omega) rfl G20 P20
  clear H19 F19 G20 P20
  refine qx_aload_n (pc := 166) X 0 dX10_init_166 rfl rfl ?_
  refine qx_sipush (v := 512) (pc := 167) X dX10_init_167 (by decide) ?_
  refine cx_mki (pc := 170) X hA hin qx_fRX10_71 rfl ((H20.1 30 0).mpr (Or.inl hm)) (H20.2.1 30 0 hm) (fun h => ((H20.1 51 0).mp h).elim (hn 51 (by omega) (by omega)) (by omega)) (fun j => hz 51 0 j (by decide)) (by decide) (by decide) (by decide) (by rw [hR]; decide) (by rw [hR]; decide) dX10_init_170 dX10_init_172 (fun w21 G21 P21 => ?_)
  obtain ⟨H21, F21⟩ := m_step (t := 20) H20 F20 (by omega) rfl G21 P21
  clear H20 F20 G21 P21
  refine qx_aload_n (pc := 175) X 0 dX10_init_175 rfl rfl ?_
  refine qx_bipush (v := 32) (pc := 176) X dX10_init_176 (by decide) ?_
  refine cx_mki (pc := 178) X hA hin qx_fRX10_74 rfl ((H21.1 30 0).mpr (Or.inl hm)) (H21.2.1 30 0 hm) (fun h => ((H21.1 52 0).mp h).elim (hn 52 (by omega) (by omega)) (by omega)) (fun j => hz 52 0 j (by decide)) (by decide) (by decide) (by decide) (by rw [hR]; decide) (by rw [hR]; decide) dX10_init_178 dX10_init_180 (fun w22 G22 P22 => ?_)
  obtain ⟨H22, F22⟩ := m_step (t := 21) H21 F21 (by omega) rfl G22 P22
  clear H21 F21 G22 P22
  refine qx_aload_n (pc := 183) X 0 dX10_init_183 rfl rfl ?_
  refine qx_bipush (v := 64) (pc := 184) X dX10_init_184 (by decide) ?_
  refine cx_mki (pc := 186) X hA hin qx_fRX10_77 rfl ((H22.1 30 0).mpr (Or.inl hm)) (H22.2.1 30 0 hm) (fun h => ((H22.1 53 0).mp h).elim (hn 53 (by omega) (by omega)) (by omega)) (fun j => hz 53 0 j (by decide)) (by decide) (by decide) (by decide) (by rw [hR]; decide) (by rw [hR]; decide) dX10_init_186 dX10_init_188 (fun w23 G23 P23 => ?_)
  obtain ⟨H23, F23⟩ := m_step (t := 22) H22 F22 (by omega) rfl G23 P23
  clear H22 F22 G23 P23
  refine qx_aload_n (pc := 191) X 0 dX10_init_191 rfl rfl ?_
  refine qx_bipush (v := 8) (pc := 192) X dX10_init_192 (by decide) ?_
  refine cx_mki (pc := 194) X hA hin qx_fRX10_80 rfl ((H23.1 30 0).mpr (Or.inl hm)) (H23.2.1 30 0 hm) (fun h => ((H23.1 54 0).mp h).elim (hn 54 (by omega) (by omega)) (by omega)) (fun j => hz 54 0 j (by decide)) (by decide) (by decide) (by decide) (by rw [hR]; decide) (by rw [hR]; decide) dX10_init_194 dX10_init_196 (fun w24 G24 P24 => ?_)
  obtain ⟨H24, F24⟩ := m_step (t := 23) H23 F23 (by omega) rfl G24 P24
  clear H23 F23 G24 P24
  refine qx_aload_n (pc := 199) X 0 dX10_init_199 rfl rfl ?_
  refine qx_bipush (v := 8) (pc := 200) X dX10_init_200 (by decide) ?_
  refine cx_mki (pc := 202) X hA hin qx_fRX10_83 rfl ((H24.1 30 0).mpr (Or.inl hm)) (H24.2.1 30 0 hm) (fun h => ((H24.1 55 0).mp h).elim (hn 55 (by omega) (by omega)) (by omega)) (fun j => hz 55 0 j (by decide)) (by decide) (by decide) (by decide) (by rw [hR]; decide) (by rw [hR]; decide) dX10_init_202 dX10_init_204 (fun w25 G25 P25 => ?_)
  obtain ⟨H25, F25⟩ := m_step (t := 24) H24 F24 (by omega) rfl G25 P25
  clear H24 F24 G25 P25
  refine qx_aload_n (pc := 207) X 0 dX10_init_207 rfl rfl ?_
  refine qx_bipush (v := 60) (pc := 208) X dX10_init_208 (by decide) ?_
  refine cx_mki (pc := 210) X hA hin qx_fRX10_86 rfl ((H25.1 30 0).mpr (Or.inl hm)) (H25.2.1 30 0 hm) (fun h => ((H25.1 56 0).mp h).elim (hn 56 (by omega) (by omega)) (by omega)) (fun j => hz 56 0 j (by decide)) (by decide) (by decide) (by decide) (by rw [hR]; decide) (by rw [hR]; decide) dX10_init_210 dX10_init_212 (fun w26 G26 P26 => ?_)
  obtain ⟨H26, F26⟩ := m_step (t := 25) H25 F25 (by omega) rfl G26 P26
  clear H25 F25 G26 P26
  refine qx_aload_n (pc := 215) X 0 dX10_init_215 rfl rfl ?_
  refine qx_bipush (v := 60) (pc := 216) X dX10_init_216 (by decide) ?_
  refine cx_mki (pc := 218) X hA hin qx_fRX10_89 rfl ((H26.1 30 0).mpr (Or.inl hm)) (H26.2.1 30 0 hm) (fun h => ((H26.1 57 0).mp h).elim (hn 57 (by omega) (by omega)) (by omega)) (fun j => hz 57 0 j (by decide)) (by decide) (by decide) (by decide) (by rw [hR]; decide) (by rw [hR]; decide) dX10_init_218 dX10_init_220 (fun w27 G27 P27 => ?_)
  obtain ⟨H27, F27⟩ := m_step (t := 26) H26 F26 (by omega) rfl G27 P27
  clear H26 F26 G27 P27
  refine qx_aload_n (pc := 223) X 0 dX10_init_223 rfl rfl ?_
  refine qx_bipush (v := 60) (pc := 224) X dX10_init_224 (by decide) ?_
  refine cx_mki (pc := 226) X hA hin qx_fRX10_92 rfl ((H27.1 30 0).mpr (Or.inl hm)) (H27.2.1 30 0 hm) (fun h => ((H27.1 58 0).mp h).elim (hn 58 (by omega) (by omega)) (by omega)) (fun j => hz 58 0 j (by decide)) (by decide) (by decide) (by decide) (by rw [hR]; decide) (by rw [hR]; decide) dX10_init_226 dX10_init_228 (fun w28 G28 P28 => ?_)
  obtain ⟨H28, F28⟩ := m_step (t := 27) H27 F27 (by omega) rfl G28 P28
  clear H27 F27 G28 P28
  refine qx_aload_n (pc := 231) X 0 dX10_init_231 rfl rfl ?_
  refine qx_bipush (v := 60) (pc := 232) X dX10_init_232 (by decide) ?_
  refine cx_mki (pc := 234) X hA hin qx_fRX10_95 rfl ((H28.1 30 0).mpr (Or.inl hm)) (H28.2.1 30 0 hm) (fun h => ((H28.1 59 0).mp h).elim (hn 59 (by omega) (by omega)) (by omega)) (fun j => hz 59 0 j (by decide)) (by decide) (by decide) (by decide) (by rw [hR]; decide) (by rw [hR]; decide) dX10_init_234 dX10_init_236 (fun w29 G29 P29 => ?_)
  obtain ⟨H29, F29⟩ := m_step (t := 28) H28 F28 (by omega) rfl G29 P29
  clear H28 F28 G29 P29
  refine qx_aload_n (pc := 239) X 0 dX10_init_239 rfl rfl ?_
  refine qx_bipush (v := 40) (pc := 240) X dX10_init_240 (by decide) ?_
  refine cx_mki (pc := 242) X hA hin qx_fRX10_98 rfl ((H29.1 30 0).mpr (Or.inl hm)) (H29.2.1 30 0 hm) (fun h => ((H29.1 60 0).mp h).elim (hn 60 (by omega) (by omega)) (by omega)) (fun j => hz 60 0 j (by decide)) (by decide) (by decide) (by decide) (by rw [hR]; decide) (by rw [hR]; decide) dX10_init_242 dX10_init_244 (fun w30 G30 P30 => ?_)
  obtain ⟨H30, F30⟩ := m_step (t := 29) H29 F29 (by omega) rfl G30 P30
  clear H29 F29 G30 P30
  refine qx_aload_n (pc := 247) X 0 dX10_init_247 rfl rfl ?_
  refine qx_bipush (v := 40) (pc := 248) X dX10_init_248 (by decide) ?_
  refine cx_mki (pc := 250) X hA hin qx_fRX10_101 rfl ((H30.1 30 0).mpr (Or.inl hm)) (H30.2.1 30 0 hm) (fun h => ((H30.1 61 0).mp h).elim (hn 61 (by omega) (by omega)) (by omega)) (fun j => hz 61 0 j (by decide)) (by decide) (by decide) (by decide) (by rw [hR]; decide) (by rw [hR]; decide) dX10_init_250 dX10_init_252 (fun w31 G31 P31 => ?_)
  obtain ⟨H31, F31⟩ := m_step (t := 30) H30 F30 (by omega) rfl G31 P31
  clear H30 F30 G31 P31
  refine qx_aload_n (pc := 255) X 0 dX10_init_255 rfl rfl ?_
  refine qx_bipush (v := 40) (pc := 256) X dX10_init_256 (by decide) ?_
  refine cx_mki (pc := 258) X hA hin qx_fRX10_104 rfl ((H31.1 30 0).mpr (Or.inl hm)) (H31.2.1 30 0 hm) (fun h => ((H31.1 62 0).mp h).elim (hn 62 (by omega) (by omega)) (by omega)) (fun j => hz 62 0 j (by decide)) (by decide) (by decide) (by decide) (by rw [hR]; decide) (by rw [hR]; decide) dX10_init_258 dX10_init_260 (fun w32 G32 P32 => ?_)
  obtain ⟨H32, F32⟩ := m_step (t := 31) H31 F31 (by omega) rfl G32 P32
  clear H31 F31 G32 P32
  refine qx_aload_n (pc := 263) X 0 dX10_init_263 rfl rfl ?_
  refine qx_bipush (v := 40) (pc := 264) X dX10_init_264 (by decide) ?_
  refine cx_mki (pc := 266) X hA hin qx_fRX10_107 rfl ((H32.1 30 0).mpr (Or.inl hm)) (H32.2.1 30 0 hm) (fun h => ((H32.1 63 0).mp h).elim (hn 63 (by omega) (by omega)) (by omega)) (fun j => hz 63 0 j (by decide)) (by decide) (by decide) (by decide) (by rw [hR]; decide) (by rw [hR]; decide) dX10_init_266 dX10_init_268 (fun w33 G33 P33 => ?_)
  obtain ⟨H33, F33⟩ := m_step (t := 32) H32 F32 (by omega) rfl G33 P33
  clear H32 F32 G33 P33
  refine qx_aload_n (pc := 271) X 0 dX10_init_271 rfl rfl ?_
  refine qx_bipush (v := 40) (pc := 272) X dX10_init_272 (by decide) ?_
  refine cx_mki (pc := 274) X hA hin qx_fRX10_110 rfl ((H33.1 30 0).mpr (Or.inl hm)) (H33.2.1 30 0 hm) (fun h => ((H33.1 64 0).mp h).elim (hn 64 (by omega) (by omega)) (by omega)) (fun j => hz 64 0 j (by decide)) (by decide) (by decide) (by decide) (by rw [hR]; decide) (by rw [hR]; decide) dX10_init_274 dX10_init_276 (fun w34 G34 P34 => ?_)
  obtain ⟨H34, F34⟩ := m_step (t := 33) H33 F33 (by omega) rfl G34 P34
  clear H33 F33 G34 P34
  refine qx_aload_n (pc := 279) X 0 dX10_init_279 rfl rfl ?_
  refine qx_bipush (v := 40) (pc := 280) X dX10_init_280 (by decide) ?_
  refine cx_mkz (pc := 282) X hA hin qx_fRX10_113 rfl ((H34.1 30 0).mpr (Or.inl hm)) (H34.2.1 30 0 hm) (fun h => ((H34.1 65 0).mp h).elim (hn 65 (by omega) (by omega)) (by omega)) (fun j => hz 65 0 j (by decide)) (by decide) (by decide) (by decide) (by rw [hR]; decide) (by rw [hR]; decide) dX10_init_282 dX10_init_284 (fun w35 G35 P35 => ?_)
  obtain ⟨H35, F35⟩ := m_step (t := 34) H34 F34 (by omega) rfl G35 P35
  clear H34 F34 G35 P35
  refine qx_aload_n (pc := 287) X 0 dX10_init_287 rfl rfl ?_
  have hmem : ∀ f i, f < 66 → i < qx_cnt f → (f, i) ∈ w35.1 := by
    intro f i hf hi
    refine (H35.1 f i).mpr ?_
    rcases Nat.lt_or_ge f 30 with h | h
    · refine Or.inl (hx f i ?_)
      have hc : ∀ f, f < 30 → (f = 0 ∧ qx_cnt f = 1) ∨ (1 ≤ f ∧ f ≤ 11 ∧ qx_cnt f = 1) ∨ (12 ≤ f ∧ f ≤ 16 ∧ qx_cnt f = 8) ∨ (17 ≤ f ∧ f ≤ 20 ∧ qx_cnt f = 32) ∨ qx_cnt f = 0 := by decide +kernel
      unfold N0
      rcases hc f h with ⟨h1, h2⟩ | ⟨h1, h3, h2⟩ | ⟨h1, h3, h2⟩ | ⟨h1, h3, h2⟩ | h2 <;> rw [h2] at hi <;> omega
    · have hc : ∀ f, f < 66 → 30 ≤ f → qx_cnt f = 1 := by decide +kernel
      rw [hc f hf h] at hi
      obtain rfl : i = 0 := by omega
      rcases Nat.lt_or_ge 30 f with h2 | h2
      · exact Or.inr (by omega)
      · obtain rfl : f = 30 := by omega
        exact Or.inl hm
  refine cx_conv (hX.mono H35 (fun f i j h q => by omega)) F35 hmem ?_
  refine qx_callVv (f := 30) (i := 0) (pc := 288) X [] [] (kX10_begin K.2.1 G t1 t2 w35.2.1 σ (fun s => s = bgY σ) (begin_at rfl)) qx_mcX10_begin qx_lRX10_116 qx_iX10_begin qx_selX10_begin qx_me30 qx_rc30 rfl ⟨rfl, rfl⟩ (by rw [hR]; decide) (by show [Value.ref (w.2.1 30 0)] = [Value.ref (w35.2.1 30 0)]; rw [H35.2.1 30 0 hm]) (Nat.le_of_ble_eq_true rfl) dX10_init_288 (by rw [hR]; decide) (fun s1 e1 => ?_)
  exact cx_vret (pc := 291) X hr hlk ⟨w35.2.1, rfl, e1, H35.2.1 0 0 (hx 0 0 (Or.inl ⟨rfl, rfl⟩)), H35.2.1 30 0 hm⟩ dX10_init_291
theorem dvX9 : ∀ j, j < 4 → defaultValue (tyX9 j) = qx_dv [some 1, some 3, some 7, some 9] j := fun j hj => by
  rcases (show j = 0 ∨ j = 1 ∨ j = 2 ∨ j = 3 by omega) with rfl | rfl | rfl | rfl <;> rfl
theorem dvX10 : ∀ j, j < 49 → defaultValue (tyX10 j) = qx_dv [none, some 31, some 32, none, some 33, some 34, some 35, some 36, some 37, some 38, none, none, none, some 39, some 40, some 41, some 42, some 43, some 44, some 45, some 46, some 47, some 48, some 49, some 50, some 51, some 52, some 53, some 54, some 55, none, some 56, some 57, some 58, some 59, none, none, none, some 60, some 61, some 62, some 63, some 64, some 65, none, none, none, none, none] j := fun j hj => by
  rcases (show j = 0 ∨ j = 1 ∨ j = 2 ∨ j = 3 ∨ j = 4 ∨ j = 5 ∨ j = 6 ∨ j = 7 ∨ j = 8 ∨ j = 9 ∨ j = 10 ∨ j = 11 ∨ j = 12 ∨ j = 13 ∨ j = 14 ∨ j = 15 ∨ j = 16 ∨ j = 17 ∨ j = 18 ∨ j = 19 ∨ j = 20 ∨ j = 21 ∨ j = 22 ∨ j = 23 ∨ j = 24 ∨ j = 25 ∨ j = 26 ∨ j = 27 ∨ j = 28 ∨ j = 29 ∨ j = 30 ∨ j = 31 ∨ j = 32 ∨ j = 33 ∨ j = 34 ∨ j = 35 ∨ j = 36 ∨ j = 37 ∨ j = 38 ∨ j = 39 ∨ j = 40 ∨ j = 41 ∨ j = 42 ∨ j = 43 ∨ j = 44 ∨ j = 45 ∨ j = 46 ∨ j = 47 ∨ j = 48 by omega) with rfl | rfl | rfl | rfl | rfl | rfl | rfl | rfl | rfl | rfl | rfl | rfl | rfl | rfl | rfl | rfl | rfl | rfl | rfl | rfl | rfl | rfl | rfl | rfl | rfl | rfl | rfl | rfl | rfl | rfl | rfl | rfl | rfl | rfl | rfl | rfl | rfl | rfl | rfl | rfl | rfl | rfl | rfl | rfl | rfl | rfl | rfl | rfl | rfl <;> rfl
