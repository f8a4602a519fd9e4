/-! all codes that call nobody -/
section QA
variable {rf : Int32 → Int32 → qx_St → (qx_St → Prop) → Prop} {i p k : Nat} {a b : Int32} {n d pl c m L h l e dp ev : Nat} {x0 y0 x y : qx_St} {hw : Int32}
theorem act_sim (H : rH n d pl c m hw L h (p + 1) l e dp ev x0 y0 x y) (N : rN d x) (hp : p < 20) (hk : k ≤ 25) (hc : k < 19 ∨ 21 < k) (nf : ¬ noFit k h) (ho : rOk k a b) : aC rf i p k (nI (d + 1)) a b n d pl c m hw L l e dp x0 y0 x y ∨ aE rf i p k (nI (d + 1)) a b n d pl c m hw L l e dp x0 y0 x y := by
  have h8 : h ≤ 8 := H.2.1.1
  rcases (show k ≤ 6 ∨ k = 7 ∨ (8 ≤ k ∧ k ≤ 13) ∨ k = 14 ∨ k = 15 ∨ k = 16 ∨ k = 17 ∨ k = 18 ∨ k = 22 ∨ k = 23 ∨ k = 24 ∨ k = 25 by omega) with h6 | rfl | ⟨k1, k2⟩ | rfl | rfl | rfl | rfl | rfl | rfl | rfl | rfl | rfl
  · left
    have t : tkN k = 0 ∧ ptN k = 1 := by rcases (show k = 0 ∨ k = 1 ∨ k = 2 ∨ k = 3 ∨ k = 4 ∨ k = 5 ∨ k = 6 by omega) with rfl | rfl | rfl | rfl | rfl | rfl | rfl <;> exact ⟨rfl, rfl⟩
    refine s_num H N h6 ho ?_
    unfold noFit at nf
    omega
  · left
    have t : tkN 7 = 1 := rfl
    unfold noFit at nf
    obtain ⟨g, rfl⟩ : ∃ g, h = g + 1 := ⟨h - 1, by omega⟩
    exact s_save H N ho
  · have t : tkN k = 2 := by rcases (show k = 8 ∨ k = 9 ∨ k = 10 ∨ k = 11 ∨ k = 12 ∨ k = 13 by omega) with rfl | rfl | rfl | rfl | rfl | rfl <;> rfl
    unfold noFit at nf
    obtain ⟨g, rfl⟩ : ∃ g, h = g + 2 := ⟨h - 2, by omega⟩
    exact s_comb H N k1 k2
  · left
    have t : tkN 14 = 1 := rfl
    unfold noFit at nf
    obtain ⟨g, rfl⟩ : ∃ g, h = g + 1 := ⟨h - 1, by omega⟩
    exact s_skip H N (by omega) ho
  · left
    have t : tkN 15 = 1 := rfl
    unfold noFit at nf
    obtain ⟨g, rfl⟩ : ∃ g, h = g + 1 := ⟨h - 1, by omega⟩
    exact s_back H N (by omega) ho
  · left
    have t : tkN 16 = 1 ∧ ptN 16 = 2 := ⟨rfl, rfl⟩
    unfold noFit at nf
    obtain ⟨g, rfl⟩ : ∃ g, h = g + 1 := ⟨h - 1, by omega⟩
    exact s_double H N (by omega)
  · left
    have t : tkN 17 = 1 := rfl
    unfold noFit at nf
    obtain ⟨g, rfl⟩ : ∃ g, h = g + 1 := ⟨h - 1, by omega⟩
    exact s_drop H N
  · left
    have t : tkN 18 = 2 := rfl
    unfold noFit at nf
    obtain ⟨g, rfl⟩ : ∃ g, h = g + 2 := ⟨h - 2, by omega⟩
    exact s_turn H N
  · have t : tkN 22 = 1 := rfl
    unfold noFit at nf
    obtain ⟨g, rfl⟩ : ∃ g, h = g + 1 := ⟨h - 1, by omega⟩
    exact s_tell H N
  · have t : tkN 23 = 1 := rfl
    unfold noFit at nf
    obtain ⟨g, rfl⟩ : ∃ g, h = g + 1 := ⟨h - 1, by omega⟩
    exact s_send H N ho
  · right
    have t : tkN 24 = 1 := rfl
    unfold noFit at nf
    obtain ⟨g, rfl⟩ : ∃ g, h = g + 1 := ⟨h - 1, by omega⟩
    exact s_give H N
  · right
    exact s_throw H N ho
end QA
