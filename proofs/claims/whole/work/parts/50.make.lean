/-! what is made: worlds that grow -/
def wN (w : qx_Wx) (f i a : Nat) : qx_Wx := (w.1 ++ [(f, i)], (fun f' i' => if f' = f ∧ i' = i then a else w.2.1 f' i'), fun f' i' => if f' = f ∧ i' = i then fun _ => none else w.2.2 f' i')
def wR (w : qx_Wx) (f i j a : Nat) : qx_Wx := (w.1, w.2.1, qx_rt w.2.2 f i j (some a))
def Gw (T : Nat → Nat → Nat → Prop) (N : Nat → Nat → Prop) (w w' : qx_Wx) : Prop := (∀ f i, (f, i) ∈ w'.1 ↔ (f, i) ∈ w.1 ∨ N f i) ∧ (∀ f i, (f, i) ∈ w.1 → w'.2.1 f i = w.2.1 f i) ∧ ∀ f i, (f, i) ∈ w.1 → ∀ j, ¬ T f i j → w'.2.2 f i j = w.2.2 f i j
def PT (w : qx_Wx) (f i j g k : Nat) : Prop := (f, i) ∈ w.1 ∧ (g, k) ∈ w.1 ∧ w.2.2 f i j = some (w.2.1 g k)
theorem Gw.trans {T1 T2 T : Nat → Nat → Nat → Prop} {N1 N2 N : Nat → Nat → Prop} {w w1 w2 : qx_Wx} (h1 : Gw T1 N1 w w1) (h2 : Gw T2 N2 w1 w2) (hT : ∀ f i j, T1 f i j ∨ T2 f i j → (f, i) ∈ w.1 → T f i j) (hN : ∀ f i, N1 f i ∨ N2 f i ↔ N f i) : Gw T N w w2 := by
  obtain ⟨a1, a2, a3⟩ := h1
  obtain ⟨b1, b2, b3⟩ := h2
  have m1 : ∀ f i, (f, i) ∈ w.1 → (f, i) ∈ w1.1 := fun f i h => (a1 f i).mpr (Or.inl h)
  refine ⟨fun f i => ?_, fun f i h => (b2 f i (m1 f i h)).trans (a2 f i h), fun f i h j hj => (b3 f i (m1 f i h) j (fun q => hj (hT f i j (Or.inr q) h))).trans (a3 f i h j (fun q => hj (hT f i j (Or.inl q) h)))⟩
  rw [b1, a1, ← hN, or_assoc]
theorem PT.mono {T : Nat → Nat → Nat → Prop} {N : Nat → Nat → Prop} {w w' : qx_Wx} {f i j g k : Nat} (h : PT w f i j g k) (hG : Gw T N w w') (hT : ¬ T f i j) : PT w' f i j g k := by
  obtain ⟨h1, h2, h3⟩ := h
  exact ⟨(hG.1 f i).mpr (Or.inl h1), (hG.1 g k).mpr (Or.inl h2), by rw [hG.2.2 f i h1 j hT, hG.2.1 g k h2]; exact h3⟩
theorem wN_G {w : qx_Wx} {f i a : Nat} (hn : (f, i) ∉ w.1) : Gw (fun _ _ _ => False) (fun f' i' => f' = f ∧ i' = i) w (wN w f i a) := by
  refine ⟨fun f' i' => ?_, fun f' i' h => ?_, fun f' i' h j _ => ?_⟩
  · simp [wN]
  · have : ¬ (f' = f ∧ i' = i) := fun q => hn (q.1 ▸ q.2 ▸ h)
    simp [wN, this]
  · have : ¬ (f' = f ∧ i' = i) := fun q => hn (q.1 ▸ q.2 ▸ h)
    simp [wN, this]
theorem wN_a {w : qx_Wx} {f i a : Nat} : (wN w f i a).2.1 f i = a := by simp [wN]
theorem wN_m {w : qx_Wx} {f i a : Nat} : (f, i) ∈ (wN w f i a).1 := by simp [wN]
theorem qx_rt_ne {ρ : Nat → Nat → Nat → Option Nat} {f i j : Nat} {v : Option Nat} {f' i' j' : Nat} (h : ¬ (f' = f ∧ i' = i ∧ j' = j)) : qx_rt ρ f i j v f' i' j' = ρ f' i' j' := by
  unfold qx_rt va_up
  by_cases h1 : f' = f
  · subst h1
    by_cases h2 : i' = i
    · subst h2
      have h3 : j' ≠ j := fun e => h ⟨rfl, rfl, e⟩
      simp [h3]
    · simp [h2]
  · simp [h1]
theorem qx_rt_eq {ρ : Nat → Nat → Nat → Option Nat} {f i j : Nat} {v : Option Nat} : qx_rt ρ f i j v f i j = v := by simp [qx_rt, va_up]
theorem wR_G {w : qx_Wx} {f i j a : Nat} : Gw (fun f' i' j' => f' = f ∧ i' = i ∧ j' = j) (fun _ _ => False) w (wR w f i j a) := ⟨fun f' i' => by simp [wR], fun f' i' _ => rfl, fun f' i' _ j' hj => qx_rt_ne hj⟩
theorem wR_P {w : qx_Wx} {f i j g k : Nat} (h1 : (f, i) ∈ w.1) (h2 : (g, k) ∈ w.1) : PT (wR w f i j (w.2.1 g k)) f i j g k := ⟨h1, h2, qx_rt_eq⟩
theorem qx_E_cg {ca : Nat → ClassId} {ρ ρ' : Nat → Nat → Nat → Option Nat} {σ : qx_St} {f i : Nat} (h : ρ' f i = ρ f i) : qx_E ca ρ' σ f i = qx_E ca ρ σ f i := by
  have e2 : ∀ sl : List (Option Nat), qx_slot σ ρ' f i sl = qx_slot σ ρ f i sl := by
    intro sl; funext j; simp only [qx_slot, h]
  simp only [qx_E, h, e2]
theorem wd_new {ca : Nat → ClassId} {w : qx_Wx} {σ : qx_St} {f i a : Nat} {e : va_E} (hn : (f, i) ∉ w.1) (he : qx_E ca (wN w f i a).2.2 σ f i = e) : qx_wd ca (wN w f i a) σ = qx_wd ca w σ ++ [(a, e)] := by
  have h1 : qx_wd ca (wN w f i a) σ = (w.1 ++ [(f, i)]).map (fun q => ((wN w f i a).2.1 q.1 q.2, qx_E ca (wN w f i a).2.2 σ q.1 q.2)) := rfl
  rw [h1, List.map_append]
  have h2 : w.1.map (fun q => ((wN w f i a).2.1 q.1 q.2, qx_E ca (wN w f i a).2.2 σ q.1 q.2)) = qx_wd ca w σ := by
    refine List.map_congr_left (fun q hq => ?_)
    obtain ⟨f', i'⟩ := q
    have hne : ¬ (f' = f ∧ i' = i) := fun x => hn (x.1 ▸ x.2 ▸ hq)
    have h3 : (wN w f i a).2.1 f' i' = w.2.1 f' i' := by simp [wN, hne]
    have h4 : (wN w f i a).2.2 f' i' = w.2.2 f' i' := by simp [wN, hne]
    rw [h3, qx_E_cg (ρ := w.2.2) h4]
  rw [h2]
  simp only [List.map_cons, List.map_nil, wN_a, he]
section QXM
variable {K : qx_Cx} {G : qx_Gx} {t1 t2 nL cells slots : Nat} {Q : State → Prop} {w : qx_Wx} {σ : qx_St} {pc : Nat} {lv : List (Nat × Value)} {st : List Value} {cc : ByteArray} {own : String}
theorem cx_widen {c' s' : Nat} (h1 : cells ≤ c') (h2 : slots ≤ s') (k : qx_V K G nL c' s' Q w σ pc lv st) : qx_V K G nL cells slots Q w σ pc lv st := fun H locs ls hP hD hS hl => W.widen h1 h2 (k H locs ls hP hD hS hl)
theorem cx_newi (X : qx_Ok K G t1 t2 cc own nL) (hA : ∀ q, K.2.2.2.2.1.heap.size ≤ q → G.2.2 q) {f i n : Nat} {v : Int32} (hsh : qx_sh f = .inr (.inl (0, n))) (hn : (f, i) ∉ w.1) (hσ : ∀ j, σ f i j = 0) (h0 : ¬ v < 0) (hv : v.toNatClampNeg = n) (hby : n * componentBytes .int ≤ 536870912) (hc : cells + 1 ≤ K.2.2.2.1.cells) (hs : slots + n ≤ K.2.2.2.1.slots) (hdg : decode cc pc = .ok (.newarray .int, 2)) (k : ∀ a, qx_V K G nL (cells + 1) (slots + n) Q (wN w f i a) σ (pc + 2) lv (.ref a :: st)) : qx_V K G nL cells slots Q w σ pc lv (.int v :: st) := by
  intro H locs ls hP hD hS hl
  refine va_newa (atype := .int) X.1 X.2.1 (X.2.2.2.2.1 _ qx_aI) rfl X.2.2.2.2.2.1 hP hD hS hA (a0 := (n, .inl (σ f i))) (fun cA => ?_) h0 hv hby hc hs hdg (fun q cA H1 hK1 hP1 hD1 hS1 => ?_)
  · rw [vp_cell_i]
    congr 1
    funext j
    rw [hσ j]
    rfl
  · have e1 : K.2.2.2.2.1.vm.findClass ("[" ++ FieldType.int.toString) = some cA := (hK1.2 5 (cA, .int) rfl).2
    have e2 : K.2.2.2.2.1.vm.findClass ("[" ++ FieldType.int.toString) = some (G.2.1 0) := (hK1.2 0 (G.2.1 0, .int) rfl).2
    obtain rfl : G.2.1 0 = cA := Option.some.inj (e2.symm.trans e1)
    rw [← wd_new hn (qx_E_iarr hsh)] at hP1 hD1
    exact k q H1 locs ls hP1 hD1 hS1 hl
theorem cx_newz (X : qx_Ok K G t1 t2 cc own nL) (hA : ∀ q, K.2.2.2.2.1.heap.size ≤ q → G.2.2 q) {f i n : Nat} {v : Int32} (hsh : qx_sh f = .inr (.inl (1, n))) (hn : (f, i) ∉ w.1) (hσ : ∀ j, σ f i j = 0) (h0 : ¬ v < 0) (hv : v.toNatClampNeg = n) (hby : n * componentBytes .boolean ≤ 536870912) (hc : cells + 1 ≤ K.2.2.2.1.cells) (hs : slots + n ≤ K.2.2.2.1.slots) (hdg : decode cc pc = .ok (.newarray .boolean, 2)) (k : ∀ a, qx_V K G nL (cells + 1) (slots + n) Q (wN w f i a) σ (pc + 2) lv (.ref a :: st)) : qx_V K G nL cells slots Q w σ pc lv (.int v :: st) := by
  intro H locs ls hP hD hS hl
  refine va_newa (atype := .boolean) X.1 X.2.1 (X.2.2.2.2.1 _ qx_aZ) rfl X.2.2.2.2.2.1 hP hD hS hA (a0 := (n, .inl (σ f i))) (fun cA => ?_) h0 hv hby hc hs hdg (fun q cA H1 hK1 hP1 hD1 hS1 => ?_)
  · rw [vp_cell_i]
    congr 1
    funext j
    rw [hσ j]
    rfl
  · have e1 : K.2.2.2.2.1.vm.findClass ("[" ++ FieldType.boolean.toString) = some cA := (hK1.2 5 (cA, .boolean) rfl).2
    have e2 : K.2.2.2.2.1.vm.findClass ("[" ++ FieldType.boolean.toString) = some (G.2.1 1) := (hK1.2 1 (G.2.1 1, .boolean) rfl).2
    obtain rfl : G.2.1 1 = cA := Option.some.inj (e2.symm.trans e1)
    rw [← wd_new hn (qx_E_iarr hsh)] at hP1 hD1
    exact k q H1 locs ls hP1 hD1 hS1 hl
theorem cx_newq (X : qx_Ok K G t1 t2 cc own nL) (hA : ∀ q, K.2.2.2.2.1.heap.size ≤ q → G.2.2 q) {idx f i n tk tg : Nat} {C : String} {v : Int32} (hsh : qx_sh f = .inr (.inr (tk, n, tg))) (ht : (qx_ty G.2.1)[tk]? = some (G.2.1 tk, .object C)) (hn : (f, i) ∉ w.1) (hlk : Cond.classLink own idx C ∈ qx_BW) (hao : va_AO C K.2.2.2.2.1) (h0 : ¬ v < 0) (hv : v.toNatClampNeg = n) (hby : n * 4 ≤ 536870912) (hc : cells + 1 ≤ K.2.2.2.1.cells) (hs : slots + n ≤ K.2.2.2.1.slots) (hdg : decode cc pc = .ok (.anewarray idx, 3)) (k : ∀ a, qx_V K G nL (cells + 1) (slots + n) Q (wN w f i a) σ (pc + 3) lv (.ref a :: st)) : qx_V K G nL cells slots Q w σ pc lv (.int v :: st) := by
  intro H locs ls hP hD hS hl
  refine va_newq X.1 X.2.1 X.2.2.2.1 (X.2.2.2.2.1 _ hlk) hao X.2.2.2.2.2.1 hP hD hS hA h0 hv hby hc hs hdg (fun q cA H1 hK1 hP1 hD1 hS1 => ?_)
  obtain ⟨-, -, -, -, -, e1⟩ := (hK1.2 5 (cA, .object C) rfl).2
  obtain ⟨-, -, -, -, -, e2⟩ := (X.2.2.2.2.2.1.2 tk (G.2.1 tk, .object C) ht).2
  obtain rfl : G.2.1 tk = cA := Option.some.inj (e2.symm.trans e1)
  have e3 : qx_E G.2.1 (wN w f i q).2.2 σ f i = .inl (G.2.1 tk, n, .inr (.inr (.inr (.inr (fun _ => none))))) := by
    rw [qx_E_qarr hsh]
    simp [wN]
  rw [← wd_new hn e3] at hP1 hD1
  exact k q H1 locs ls hP1 hD1 hS1 hl
def qx_dv (sl : List (Option Nat)) (j : Nat) : Value := match sl[j]? with
  | some (some _) => .null
  | _ => .int 0
theorem cx_newo (X : qx_Ok K G t1 t2 cc own nL) (hA : ∀ q, K.2.2.2.2.1.heap.size ≤ q → G.2.2 q) {idx f i ci N : Nat} {sl : List (Option Nat)} {C : String} {T : u_T} {ty : Nat → FieldType} (hsh : qx_sh f = .inl (ci, sl)) (hcp : qx_CP ci C T N ty) (hN : sl.length = N) (hdv : ∀ j, j < N → defaultValue (ty j) = qx_dv sl j) (hn : (f, i) ∉ w.1) (hσ : ∀ j, σ f i j = 0) (hlk : Cond.classLink own idx C ∈ qx_BW) (hin : Cond.instantiable C N ∈ qx_BW) (hini : Cond.initialized C ∈ qx_BW) (hc : cells + 1 ≤ K.2.2.2.1.cells) (hs : slots + N ≤ K.2.2.2.1.slots) (hdg : decode cc pc = .ok (.new idx, 3)) (k : ∀ a, qx_V K G nL (cells + 1) (slots + N) Q (wN w f i a) σ (pc + 3) lv (.ref a :: st)) : qx_V K G nL cells slots Q w σ pc lv st := by
  intro H locs ls hP hD hS hl
  obtain ⟨h1, h2, h3, h4⟩ := hcp
  refine va_new (D := G.1) (ci := ci) (C := C) (T := T) (N := N) (fs := (List.range sl.length).map (qx_dv sl)) X.1 X.2.1 X.2.2.2.2.1 h2 ty h3 X.2.2.2.1 (X.2.2.2.2.1 _ hlk) (X.2.2.2.2.1 _ hin) (X.2.2.2.2.1 _ hini) X.2.2.2.2.2.1 hP hD hS hA h1 (fun j hj => ?_) hc hs hdg (fun q H1 hP1 hD1 hS1 => ?_)
  · rw [hdv j hj, vp_V, List.getD_eq_getElem?_getD, List.getElem?_map, List.getElem?_range (by omega)]
    rfl
  · have e3 : qx_E G.2.1 (wN w f i q).2.2 σ f i = .inr (ci, (List.range sl.length).map (qx_dv sl)) := by
      rw [qx_E_obj hsh]
      congr 2
      refine List.map_congr_left (fun j _ => ?_)
      have e4 : (wN w f i q).2.2 f i = fun _ => none := by simp [wN]
      simp only [qx_slot, qx_dv, e4, hσ j]
      generalize sl[j]? = o
      rcases o with _ | _ | _ <;> rfl
    rw [← wd_new hn e3] at hP1 hD1
    exact k q H1 locs ls hP1 hD1 hS1 hl
theorem qx_slots_setr {ρ : Nat → Nat → Nat → Option Nat} {f i j tg a : Nat} {sl : List (Option Nat)} (h : sl[j]? = some (some tg)) : ((List.range sl.length).map (qx_slot σ ρ f i sl)).set j (.ref a) = (List.range sl.length).map (qx_slot σ (qx_rt ρ f i j (some a)) f i sl) := by
  have hj := (List.getElem?_eq_some_iff.mp h).1
  apply List.ext_getElem?
  intro k
  by_cases hk : k = j
  · subst hk
    rw [List.getElem?_set_self (by simpa using hj)]
    simp only [List.getElem?_map, List.getElem?_range hj, Option.map_some, qx_slot, h, qx_rt_eq, va_rf]
  · rw [List.getElem?_set_ne (Ne.symm hk)]
    by_cases hl : k < sl.length
    · simp only [List.getElem?_map, List.getElem?_range hl, Option.map_some, qx_slot, qx_rt_ne (show ¬ (f = f ∧ i = i ∧ k = j) from fun q => hk q.2.2)]
    · simp [Nat.not_lt.mp hl]
theorem qx_E_nrt {ca : Nat → ClassId} {ρ : Nat → Nat → Nat → Option Nat} {f i j : Nat} {v : Option Nat} : ∀ f' i', ¬ (f' = f ∧ i' = i) → qx_E ca (qx_rt ρ f i j v) σ f' i' = qx_E ca ρ σ f' i' := fun f' i' h => qx_E_cg (by funext j'; exact qx_rt_ne (fun q => h ⟨q.1, q.2.1⟩))
theorem cx_putr (X : qx_Ok K G t1 t2 cc own nL) (hin : K.2.2.2.2.2.2.2.2.1.name = "<init>") {idx f i j tg a a0 : Nat} (hF : qx_FF own idx f j tg) (hm : (f, i) ∈ w.1) (ha : w.2.1 f i = a0) (hdg : decode cc pc = .ok (.putfield idx, 3)) (k : qx_V K G nL cells slots Q (wR w f i j a) σ (pc + 3) lv st) : qx_V K G nL cells slots Q w σ pc lv (.ref a :: .ref a0 :: st) := by
  intro H locs ls hP hD hS hl
  subst ha
  obtain ⟨ci, sl, C, T, N, ty, t, hsh, ⟨h1, h2, h3, h4⟩, hN, hj, hlk, hfin, hdc, hty, hnr, hft⟩ := hF
  obtain ⟨q0, hq, hq2⟩ := qx_wd_at (ca := G.2.1) (σ := σ) hm
  rw [qx_E_obj hsh] at hq2
  have hjl := (List.getElem?_eq_some_iff.mp hj).1
  refine va_putF (D := G.1) (v := .ref a) (ty := t) X.1 X.2.1 X.2.2.2.2.1 h2 ty h3 h4 X.2.2.2.1 X.2.2.2.2.2.1 hP hD hS q0 hq2 h1 j (by rw [← hN]; exact hjl) (X.2.2.2.2.1 _ hlk) (fun _ h9 => h9) hfin hin hdc hty (hnr a) (hft a) (by simpa using hjl) hdg (fun H1 locs1 hP1 hD1 hS1 => ?_)
  rw [qx_slots_setr hj, ← qx_E_obj (ca := G.2.1) hsh, qx_wd_set (w := w) (ρ' := qx_rt w.2.2 f i j (some a)) hD hq qx_E_nrt] at hP1 hD1
  exact k H1 locs1 ls hP1 hD1 hS1 hl
theorem cx_astr (X : qx_Ok K G t1 t2 cc own nL) {f i n tk tg g k a a0 : Nat} {C : String} {ci N : Nat} {sl : List (Option Nat)} {T : u_T} {x : Int32} (hsh : qx_sh f = .inr (.inr (tk, n, tg))) (ht : (qx_ty G.2.1)[tk]? = some (G.2.1 tk, .object C)) (hm : (f, i) ∈ w.1) (ha0 : w.2.1 f i = a0) (hsg : qx_sh g = .inl (ci, sl)) (hc : vwCl[ci]? = some (C, T, N)) (hg : (g, k) ∈ w.1) (ha : w.2.1 g k = a) (hx : vp_in x n) (hdg : decode cc pc = .ok (.aastore, 1)) (kk : qx_V K G nL cells slots Q (wR w f i x.toNatClampNeg a) σ (pc + 1) lv st) : qx_V K G nL cells slots Q w σ pc lv (.ref a :: .int x :: .ref a0 :: st) := by
  intro H locs ls hP hD hS hl
  subst ha0
  subst ha
  obtain ⟨q0, hq, hq2⟩ := qx_wd_at (ca := G.2.1) (σ := σ) hm
  obtain ⟨q1, hr, hr2⟩ := qx_wd_at (ca := G.2.1) (σ := σ) hg
  rw [qx_E_qarr hsh] at hq2
  rw [qx_E_obj hsg] at hr2
  refine va_astq X.1 X.2.1 X.2.2.2.2.2.1 hP hD hS q0 tk q1 ci (r := (C, T, N)) hq2 ht hr2 hc hx hdg (fun H1 locs1 hP1 hD1 hS1 => ?_)
  have e : (.inl (G.2.1 tk, n, .inr (.inr (.inr (.inr (va_up (w.2.2 f i) x.toNatClampNeg (some (w.2.1 g k))))))) : va_E) = qx_E G.2.1 (qx_rt w.2.2 f i x.toNatClampNeg (some (w.2.1 g k))) σ f i := by
    rw [qx_E_qarr hsh]
    congr 6
    simp [qx_rt, va_up]
  rw [e, qx_wd_set (w := w) (ρ' := qx_rt w.2.2 f i x.toNatClampNeg (some (w.2.1 g k))) hD hq qx_E_nrt] at hP1 hD1
  exact kk H1 locs1 ls hP1 hD1 hS1 hl
theorem cx_oinit (X : qx_Ok K G t1 t2 cc own nL) {idx a : Nat} (hlk : Cond.methodLink own idx objectInit ∈ qx_BW) (hfr : 1 ≤ K.2.2.2.1.frames) (hlo : 20 ≤ K.2.2.2.1.locals) (hdg : decode cc pc = .ok (.invokespecial idx, 3)) (k : qx_V K G nL cells slots Q w σ (pc + 3) lv []) : qx_V K G nL cells slots Q w σ pc lv [.ref a] := by
  intro H locs ls hP hD hS hl
  refine W.objInit X.1 X.2.1 X.2.2.2.1 (X.2.2.2.2.1 _ hlk) (X.2.2.2.2.1 _ qx_oIns) (X.2.2.2.2.1 _ qx_oCode) rfl (by rw [X.2.2.1]; exact hl.1) rfl hdg hfr ?_ ?_
  · exact Nat.le_trans (Nat.add_le_add_right (lv_room (Nat.le_of_ble_eq_true rfl)) 12) hlo
  · exact k H locs ls hP hD hS hl
end QXM
