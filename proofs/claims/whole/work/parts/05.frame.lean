/-! the world of all cells: families (f, i) at addresses, ints by σ, references by ρ -/
abbrev qx_St : Type := Nat → Nat → Nat → Int32
abbrev qx_Wx : Type := List (Nat × Nat) × (Nat → Nat → Nat) × (Nat → Nat → Nat → Option Nat)
abbrev qx_Gx : Type := va_G × (Nat → ClassId) × (Nat → Prop)
abbrev qx_Cx := Program × Launch × Env × Room × State × MethodId × Array Value × List Frame × Method × Code
/-- one array or object's numbers anew -/
def qx_sa (σ : qx_St) (f i : Nat) (g : Nat → Int32) : qx_St := va_up σ f (va_up (σ f) i g)
/-- one number anew -/
def qx_st (σ : qx_St) (f i j : Nat) (v : Int32) : qx_St := qx_sa σ f i (upd (σ f i) j v)
/-- one reference anew -/
def qx_rt (ρ : Nat → Nat → Nat → Option Nat) (f i j : Nat) (v : Option Nat) : Nat → Nat → Nat → Option Nat := va_up ρ f (va_up (ρ f) i (va_up (ρ f i) j v))
def qx_slot (σ : qx_St) (ρ : Nat → Nat → Nat → Option Nat) (f i : Nat) (sl : List (Option Nat)) (j : Nat) : Value := match sl[j]? with
  | some (some _) => va_rf (ρ f i j)
  | _ => .int (σ f i j)
def qx_E (ca : Nat → ClassId) (ρ : Nat → Nat → Nat → Option Nat) (σ : qx_St) (f i : Nat) : va_E := match qx_sh f with
  | .inl o => .inr (o.1, (List.range o.2.length).map (qx_slot σ ρ f i o.2))
  | .inr (.inl a) => .inl (ca a.1, a.2, .inl (σ f i))
  | .inr (.inr a) => .inl (ca a.1, a.2.1, .inr (.inr (.inr (.inr (ρ f i)))))
def qx_wd (ca : Nat → ClassId) (w : qx_Wx) (σ : qx_St) : va_W := w.1.map (fun q => (w.2.1 q.1 q.2, qx_E ca w.2.2 σ q.1 q.2))
theorem qx_wd_at {ca : Nat → ClassId} {w : qx_Wx} {σ : qx_St} {f i : Nat} (h : (f, i) ∈ w.1) : ∃ q0 : Nat, w.1[q0]? = some (f, i) ∧ (qx_wd ca w σ)[q0]? = some (w.2.1 f i, qx_E ca w.2.2 σ f i) := by
  obtain ⟨q0, hq⟩ := List.getElem?_of_mem h
  exact ⟨q0, hq, by simp [qx_wd, hq]⟩
theorem qx_wd_set {ca : Nat → ClassId} {w : qx_Wx} {ρ' : Nat → Nat → Nat → Option Nat} {σ σ' : qx_St} {A : Nat → Prop} {f i q0 : Nat} (hD : va_D A (qx_wd ca w σ)) (hq : w.1[q0]? = some (f, i)) (hk : ∀ f' i', ¬ (f' = f ∧ i' = i) → qx_E ca ρ' σ' f' i' = qx_E ca w.2.2 σ f' i') : (qx_wd ca w σ).set q0 (w.2.1 f i, qx_E ca ρ' σ' f i) = qx_wd ca (w.1, w.2.1, ρ') σ' := by
  apply List.ext_getElem?
  intro k
  by_cases hkq : k = q0
  · subst hkq
    have hl : k < (qx_wd ca w σ).length := by
      have := (List.getElem?_eq_some_iff.mp hq).1
      simpa [qx_wd] using this
    rw [List.getElem?_set_self hl]
    simp [qx_wd, hq]
  · rw [List.getElem?_set_ne (Ne.symm hkq)]
    cases hx : w.1[k]? with
    | none => simp [qx_wd, hx]
    | some x =>
      obtain ⟨f', i'⟩ := x
      have hne : ¬ (f' = f ∧ i' = i) := by
        rintro ⟨rfl, rfl⟩
        exact hkq (hD.1 k q0 (w.2.1 f' i', qx_E ca w.2.2 σ f' i') (w.2.1 f' i', qx_E ca w.2.2 σ f' i') (by simp [qx_wd, hx]) (by simp [qx_wd, hq]) rfl)
      simp [qx_wd, hx, hk f' i' hne]
theorem qx_sa_ff (σ : qx_St) (f i : Nat) (g : Nat → Int32) : qx_sa σ f i g f i = g := by simp [qx_sa, va_up]
theorem qx_sa_ne {σ : qx_St} {f i f' i' : Nat} {g : Nat → Int32} (h : ¬ (f' = f ∧ i' = i)) : qx_sa σ f i g f' i' = σ f' i' := by
  by_cases hf : f' = f
  · subst hf
    have hi : i' ≠ i := fun e => h ⟨rfl, e⟩
    simp [qx_sa, va_up, hi]
  · simp [qx_sa, va_up, hf]
theorem qx_E_ne {ca : Nat → ClassId} {ρ : Nat → Nat → Nat → Option Nat} {σ : qx_St} {f i : Nat} {g : Nat → Int32} : ∀ f' i', ¬ (f' = f ∧ i' = i) → qx_E ca ρ (qx_sa σ f i g) f' i' = qx_E ca ρ σ f' i' := by
  intro f' i' h
  have e : qx_sa σ f i g f' i' = σ f' i' := qx_sa_ne h
  have e2 : ∀ sl : List (Option Nat), qx_slot (qx_sa σ f i g) ρ f' i' sl = qx_slot σ ρ f' i' sl := by
    intro sl; funext j; simp only [qx_slot, e]
  simp only [qx_E, e, e2]
theorem qx_E_nst {ca : Nat → ClassId} {ρ : Nat → Nat → Nat → Option Nat} {σ : qx_St} {f i j : Nat} {v : Int32} : ∀ f' i', ¬ (f' = f ∧ i' = i) → qx_E ca ρ (qx_st σ f i j v) f' i' = qx_E ca ρ σ f' i' := qx_E_ne
theorem qx_E_iarr {ca : Nat → ClassId} {ρ : Nat → Nat → Nat → Option Nat} {σ : qx_St} {f i : Nat} {k n : Nat} (h : qx_sh f = .inr (.inl (k, n))) : qx_E ca ρ σ f i = .inl (ca k, n, .inl (σ f i)) := by simp only [qx_E, h]
theorem qx_E_qarr {ca : Nat → ClassId} {ρ : Nat → Nat → Nat → Option Nat} {σ : qx_St} {f i : Nat} {k n tg : Nat} (h : qx_sh f = .inr (.inr (k, n, tg))) : qx_E ca ρ σ f i = .inl (ca k, n, .inr (.inr (.inr (.inr (ρ f i))))) := by simp only [qx_E, h]
theorem qx_E_obj {ca : Nat → ClassId} {ρ : Nat → Nat → Nat → Option Nat} {σ : qx_St} {f i ci : Nat} {sl : List (Option Nat)} (h : qx_sh f = .inl (ci, sl)) : qx_E ca ρ σ f i = .inr (ci, (List.range sl.length).map (qx_slot σ ρ f i sl)) := by simp only [qx_E, h]
/-- the types of the arrays -/
def qx_ty (ca : Nat → ClassId) : List (ClassId × FieldType) := [(ca 0, .int), (ca 1, .boolean), (ca 2, .object RX3), (ca 3, .object RX1), (ca 4, .object RX6)]
def qx_takes (j : Nat) : Value := .int (([0, 0, 0, 0, 0, 0, 0, 1, 2, 2, 2, 2, 2, 2, 1, 1, 1, 1, 2, 3, 3, 2, 1, 1, 1, 0] : List Int32).getD j 0)
def qx_puts (j : Nat) : Value := .int (([1, 1, 1, 1, 1, 1, 1, 0, 1, 1, 1, 1, 1, 1, 0, 0, 2, 0, 2, 1, 2, 1, 0, 0, 0, 0] : List Int32).getD j 0)
def qx_takesI (j : Nat) : Int32 := ([0, 0, 0, 0, 0, 0, 0, 1, 2, 2, 2, 2, 2, 2, 1, 1, 1, 1, 2, 3, 3, 2, 1, 1, 1, 0] : List Int32).getD j 0
def qx_putsI (j : Nat) : Int32 := ([1, 1, 1, 1, 1, 1, 1, 0, 1, 1, 1, 1, 1, 1, 0, 0, 2, 0, 2, 1, 2, 1, 0, 0, 0, 0] : List Int32).getD j 0
/-- what of the tables never changes: classes, nest mates, the two static tables at t1, t2, the arrays over classes -/
def qx_nest (U : State) : Prop := va_Nw (.methodLinkNest RX4 17 yX3_init RX9) U ∧ va_Nw (.methodLinkNest RX9 25 yX5_init RX9) U ∧ va_Nw (.methodLinkNest RX2 35 yX1_init RX9) U ∧ va_Nw (.methodLinkNest RX2 36 yX6_init RX9) U ∧ va_Nw (.methodLinkNest RX0 9 yX9_within RX9) U
def qx_stat (A : Nat → Prop) (t1 t2 : Nat) (U : State) (H : Heap) : Prop := va_Z RX0 "TAKES" "[I" (.ref t1) A U H ∧ va_Z RX0 "PUTS" "[I" (.ref t2) A U H ∧ va_T .int t1 26 qx_takes A U H ∧ va_T .int t2 26 qx_puts A U H
def qx_gS (G : qx_Gx) (t1 t2 : Nat) (U : State) (H : Heap) : Prop := va_K G.1 vwCl (qx_ty G.2.1) U ∧ qx_nest U ∧ qx_stat G.2.2 t1 t2 U H ∧ va_AO RX3 U ∧ va_AO RX1 U ∧ va_AO RX6 U
theorem qx_nest.warm {s U : State} (hW : s.WarmedH U.vm) (h : qx_nest s) : qx_nest U := ⟨va_Nw.warmM hW h.1, va_Nw.warmM hW h.2.1, va_Nw.warmM hW h.2.2.1, va_Nw.warmM hW h.2.2.2.1, va_Nw.warmM hW h.2.2.2.2⟩
theorem qx_nest.same {s U : State} (h0 : s.vm = U.vm) (h : qx_nest s) : qx_nest U := ⟨va_Nw.same rfl h0 h.1, va_Nw.same rfl h0 h.2.1, va_Nw.same rfl h0 h.2.2.1, va_Nw.same rfl h0 h.2.2.2.1, va_Nw.same rfl h0 h.2.2.2.2⟩
theorem qx_stat.moved {A : Nat → Prop} {t1 t2 : Nat} {u U : State} {H : Heap} (hvm : u.vm.Alike U.vm) (h : qx_stat A t1 t2 u H) : qx_stat A t1 t2 U H := ⟨va_Z.moved hvm h.1, va_Z.moved hvm h.2.1, va_T.moved hvm h.2.2.1, va_T.moved hvm h.2.2.2⟩
theorem qx_stat.kept {A : Nat → Prop} {t1 t2 : Nat} {U : State} {H H1 : Heap} (h : qx_stat A t1 t2 U H) (hq : ∀ a : Nat, a < H.size → ¬ A a → H1[a]? = H[a]?) : qx_stat A t1 t2 U H1 := ⟨h.1.kept hq, h.2.1.kept hq, h.2.2.1.kept hq, h.2.2.2.kept hq⟩
theorem qx_stat.narrow {A B : Nat → Prop} {t1 t2 : Nat} {U : State} {H : Heap} (h : qx_stat A t1 t2 U H) (hAB : ∀ q, B q → A q) : qx_stat B t1 t2 U H := ⟨h.1.narrow hAB, h.2.1.narrow hAB, h.2.2.1.narrow hAB, h.2.2.2.narrow hAB⟩
theorem qx_gS.warm {G : qx_Gx} {t1 t2 : Nat} {s U : State} {H : Heap} (hW : s.WarmedH U.vm) (h : qx_gS G t1 t2 s H) : qx_gS G t1 t2 U H := ⟨va_K.moved hW.alike h.1, h.2.1.warm hW, h.2.2.1.moved hW.alike, va_AO.moved hW.alike h.2.2.2.1, va_AO.moved hW.alike h.2.2.2.2.1, va_AO.moved hW.alike h.2.2.2.2.2⟩
theorem qx_gS.calling {G : qx_Gx} {t1 t2 : Nat} {U : State} {H : Heap} (g : JFrame) (mk : MethodId) (a : Array Value) (h : qx_gS G t1 t2 U H) : qx_gS G t1 t2 (U.calling g mk a) H := ⟨va_K.moved (u := U) (U := U.calling g mk a) (Vm.Alike.refl U.vm) h.1, h.2.1.same rfl, qx_stat.moved (u := U) (U := U.calling g mk a) (Vm.Alike.refl U.vm) h.2.2.1, va_AO.moved (u := U) (U := U.calling g mk a) (Vm.Alike.refl U.vm) h.2.2.2.1, va_AO.moved (u := U) (U := U.calling g mk a) (Vm.Alike.refl U.vm) h.2.2.2.2.1, va_AO.moved (u := U) (U := U.calling g mk a) (Vm.Alike.refl U.vm) h.2.2.2.2.2⟩
theorem qx_gS.kept {G : qx_Gx} {t1 t2 : Nat} {U : State} {H H1 : Heap} (h : qx_gS G t1 t2 U H) (hq : ∀ a : Nat, a < H.size → ¬ G.2.2 a → H1[a]? = H[a]?) : qx_gS G t1 t2 U H1 := ⟨h.1, h.2.1, h.2.2.1.kept hq, h.2.2.2⟩
theorem qx_gS.narrow {D : va_G} {ca : Nat → ClassId} {A B : Nat → Prop} {t1 t2 : Nat} {U : State} {H : Heap} (h : qx_gS (D, ca, A) t1 t2 U H) (hAB : ∀ q, B q → A q) : qx_gS (D, ca, B) t1 t2 U H := ⟨h.1, h.2.1, h.2.2.1.narrow hAB, h.2.2.2⟩
/-- what holds through a method's walk -/
def qx_Ok (K : qx_Cx) (G : qx_Gx) (t1 t2 : Nat) (cc : ByteArray) (own : String) (nL : Nat) : Prop :=
  K.1.tables.exec = Jvm.exec ∧ K.2.2.2.2.2.2.2.2.2.code = cc ∧ K.2.2.2.2.2.2.2.2.2.maxLocals = nL ∧ K.2.2.2.2.1.vm.findClass own = some K.2.2.2.2.2.1.cls ∧ (∀ w ∈ qx_BW, w.before K.2.2.2.2.2.2.1 K.2.2.2.2.1 = true) ∧ qx_gS G t1 t2 K.2.2.2.2.1 K.2.2.2.2.1.heap
/-- the machine at pc, with the world σ, locals lv, operands st: it comes to Q -/
def qx_V (K : qx_Cx) (G : qx_Gx) (nL cells slots : Nat) (Q : State → Prop) (w : qx_Wx) (σ : qx_St) (pc : Nat) (lv : List (Nat × Value)) (st : List Value) : Prop :=
  ∀ (H : Heap) (locs : List Loc) (ls : Array Slot), va_P G.1 vwCl (qx_wd G.2.1 w σ) H → va_D G.2.2 (qx_wd G.2.1 w σ) → va_S G.2.2 K.2.2.2.2.1.heap H locs → lv_has ls nL lv →
    W K.1 K.2.1 K.2.2.1 K.2.2.2.1 K.2.2.2.2.1 K.2.2.2.2.2.1 K.2.2.2.2.2.2.1 K.2.2.2.2.2.2.2.1 K.2.2.2.2.2.2.2.2.1 K.2.2.2.2.2.2.2.2.2 H locs cells slots Q (F0 K.2.2.2.2.2.1 pc ls st)
section QXV
variable {K : qx_Cx} {G : qx_Gx} {t1 t2 nL cells slots : Nat} {Q : State → Prop} {w : qx_Wx} {σ : qx_St} {pc : Nat} {lv : List (Nat × Value)} {st : List Value} {cc : ByteArray} {own : String}
theorem qx_iconst (X : qx_Ok K G t1 t2 cc own nL) {n : Int} {v : Int32} (hdg : decode cc pc = .ok (.iconst n, 1)) (hv : Int32.ofInt n = v) (k : qx_V K G nL cells slots Q w σ (pc + 1) lv (.int v :: st)) : qx_V K G nL cells slots Q w σ pc lv st := fun H locs ls hP hD hS hl => lv_iconst X.1 X.2.1 hdg hv (k H locs ls hP hD hS hl)
theorem qx_bipush (X : qx_Ok K G t1 t2 cc own nL) {n : Int} {v : Int32} (hdg : decode cc pc = .ok (.bipush n, 2)) (hv : (Int8.ofInt n).toInt32 = v) (k : qx_V K G nL cells slots Q w σ (pc + 2) lv (.int v :: st)) : qx_V K G nL cells slots Q w σ pc lv st := fun H locs ls hP hD hS hl => lv_bipush X.1 X.2.1 hdg hv (k H locs ls hP hD hS hl)
theorem qx_sipush (X : qx_Ok K G t1 t2 cc own nL) {n : Int} {v : Int32} (hdg : decode cc pc = .ok (.sipush n, 3)) (hv : (Int16.ofInt n).toInt32 = v) (k : qx_V K G nL cells slots Q w σ (pc + 3) lv (.int v :: st)) : qx_V K G nL cells slots Q w σ pc lv st := fun H locs ls hP hD hS hl => lv_sipush X.1 X.2.1 hdg hv (k H locs ls hP hD hS hl)
theorem qx_iload_n (X : qx_Ok K G t1 t2 cc own nL) (q : Nat) {n : Fin 4} {i : Nat} {x : Int32} (hdg : decode cc pc = .ok (.iload_n n, 1)) (hi : (n : Nat) = i) (hq : lv[q]? = some (i, .int x)) (k : qx_V K G nL cells slots Q w σ (pc + 1) lv (.int x :: st)) : qx_V K G nL cells slots Q w σ pc lv st := fun H locs ls hP hD hS hl => lv_iload_n X.1 X.2.1 hdg hi (lv_at hl q hq) (k H locs ls hP hD hS hl)
theorem qx_iload (X : qx_Ok K G t1 t2 cc own nL) (q : Nat) {i : Nat} {x : Int32} (hdg : decode cc pc = .ok (.iload i, 2)) (hq : lv[q]? = some (i, .int x)) (k : qx_V K G nL cells slots Q w σ (pc + 2) lv (.int x :: st)) : qx_V K G nL cells slots Q w σ pc lv st := fun H locs ls hP hD hS hl => lv_iload X.1 X.2.1 hdg (lv_at hl q hq) (k H locs ls hP hD hS hl)
theorem qx_aload_n (X : qx_Ok K G t1 t2 cc own nL) (q : Nat) {n : Fin 4} {i : Nat} {x : Nat} (hdg : decode cc pc = .ok (.aload_n n, 1)) (hi : (n : Nat) = i) (hq : lv[q]? = some (i, .ref x)) (k : qx_V K G nL cells slots Q w σ (pc + 1) lv (.ref x :: st)) : qx_V K G nL cells slots Q w σ pc lv st := fun H locs ls hP hD hS hl => lv_aload_n X.1 X.2.1 hdg hi (lv_at hl q hq) (k H locs ls hP hD hS hl)
theorem qx_aload (X : qx_Ok K G t1 t2 cc own nL) (q : Nat) {i : Nat} {x : Nat} (hdg : decode cc pc = .ok (.aload i, 2)) (hq : lv[q]? = some (i, .ref x)) (k : qx_V K G nL cells slots Q w σ (pc + 2) lv (.ref x :: st)) : qx_V K G nL cells slots Q w σ pc lv st := fun H locs ls hP hD hS hl => lv_aload X.1 X.2.1 hdg (lv_at hl q hq) (k H locs ls hP hD hS hl)
theorem qx_istore_n (X : qx_Ok K G t1 t2 cc own nL) {n : Fin 4} {i : Nat} {x : Int32} {lv' : List (Nat × Value)} (hdg : decode cc pc = .ok (.istore_n n, 1)) (hi : (n : Nat) = i) (hn : i < nL) (hl' : (i, Value.int x) :: lv.filter (fun q => !(q.1 == i) && !(q.1 + 1 == i && q.2.category == 2)) = lv') (k : qx_V K G nL cells slots Q w σ (pc + 1) lv' st) : qx_V K G nL cells slots Q w σ pc lv (.int x :: st) := fun H locs ls hP hD hS hl => lv_istore_n X.1 X.2.1 hdg hi hl hn hl' (fun ls' hl2 => k H locs ls' hP hD hS hl2)
theorem qx_istore (X : qx_Ok K G t1 t2 cc own nL) {i : Nat} {x : Int32} {lv' : List (Nat × Value)} (hdg : decode cc pc = .ok (.istore i, 2)) (hn : i < nL) (hl' : (i, Value.int x) :: lv.filter (fun q => !(q.1 == i) && !(q.1 + 1 == i && q.2.category == 2)) = lv') (k : qx_V K G nL cells slots Q w σ (pc + 2) lv' st) : qx_V K G nL cells slots Q w σ pc lv (.int x :: st) := fun H locs ls hP hD hS hl => lv_istore X.1 X.2.1 hdg hl hn hl' (fun ls' hl2 => k H locs ls' hP hD hS hl2)
theorem qx_astore_n (X : qx_Ok K G t1 t2 cc own nL) {n : Fin 4} {i x : Nat} {lv' : List (Nat × Value)} (hdg : decode cc pc = .ok (.astore_n n, 1)) (hi : (n : Nat) = i) (hn : i < nL) (hl' : (i, Value.ref x) :: lv.filter (fun q => !(q.1 == i) && !(q.1 + 1 == i && q.2.category == 2)) = lv') (k : qx_V K G nL cells slots Q w σ (pc + 1) lv' st) : qx_V K G nL cells slots Q w σ pc lv (.ref x :: st) := fun H locs ls hP hD hS hl => lv_astore_n X.1 X.2.1 hdg hi hl hn hl' (fun ls' hl2 => k H locs ls' hP hD hS hl2)
theorem qx_astore (X : qx_Ok K G t1 t2 cc own nL) {i x : Nat} {lv' : List (Nat × Value)} (hdg : decode cc pc = .ok (.astore i, 2)) (hn : i < nL) (hl' : (i, Value.ref x) :: lv.filter (fun q => !(q.1 == i) && !(q.1 + 1 == i && q.2.category == 2)) = lv') (k : qx_V K G nL cells slots Q w σ (pc + 2) lv' st) : qx_V K G nL cells slots Q w σ pc lv (.ref x :: st) := fun H locs ls hP hD hS hl => lv_astore X.1 X.2.1 hdg hl hn hl' (fun ls' hl2 => k H locs ls' hP hD hS hl2)
theorem qx_iinc (X : qx_Ok K G t1 t2 cc own nL) (q : Nat) {i : Nat} {n : Int} {x v : Int32} {lv' : List (Nat × Value)} (hdg : decode cc pc = .ok (.iinc i n, 3)) (hq : lv[q]? = some (i, .int x)) (hv : x + Int32.ofInt n = v) (hn : i < nL) (hl' : (i, Value.int v) :: lv.filter (fun q => !(q.1 == i) && !(q.1 + 1 == i && q.2.category == 2)) = lv') (k : qx_V K G nL cells slots Q w σ (pc + 3) lv' st) : qx_V K G nL cells slots Q w σ pc lv st := fun H locs ls hP hD hS hl => lv_iinc X.1 X.2.1 hdg hl hq hv hn hl' (fun ls' hl2 => k H locs ls' hP hD hS hl2)
theorem qx_iadd (X : qx_Ok K G t1 t2 cc own nL) {x y : Int32} (hdg : decode cc pc = .ok (.iadd, 1)) (k : qx_V K G nL cells slots Q w σ (pc + 1) lv (.int (x + y) :: st)) : qx_V K G nL cells slots Q w σ pc lv (.int y :: .int x :: st) := fun H locs ls hP hD hS hl => lv_iadd X.1 X.2.1 hdg (k H locs ls hP hD hS hl)
theorem qx_isub (X : qx_Ok K G t1 t2 cc own nL) {x y : Int32} (hdg : decode cc pc = .ok (.isub, 1)) (k : qx_V K G nL cells slots Q w σ (pc + 1) lv (.int (x - y) :: st)) : qx_V K G nL cells slots Q w σ pc lv (.int y :: .int x :: st) := fun H locs ls hP hD hS hl => lv_isub X.1 X.2.1 hdg (k H locs ls hP hD hS hl)
theorem qx_imul (X : qx_Ok K G t1 t2 cc own nL) {x y : Int32} (hdg : decode cc pc = .ok (.imul, 1)) (k : qx_V K G nL cells slots Q w σ (pc + 1) lv (.int (x * y) :: st)) : qx_V K G nL cells slots Q w σ pc lv (.int y :: .int x :: st) := fun H locs ls hP hD hS hl => lv_imul X.1 X.2.1 hdg (k H locs ls hP hD hS hl)
theorem qx_iand (X : qx_Ok K G t1 t2 cc own nL) {x y : Int32} (hdg : decode cc pc = .ok (.iand, 1)) (k : qx_V K G nL cells slots Q w σ (pc + 1) lv (.int (x &&& y) :: st)) : qx_V K G nL cells slots Q w σ pc lv (.int y :: .int x :: st) := fun H locs ls hP hD hS hl => lv_iand X.1 X.2.1 hdg (k H locs ls hP hD hS hl)
theorem qx_idiv (X : qx_Ok K G t1 t2 cc own nL) {x y : Int32} (hdg : decode cc pc = .ok (.idiv, 1)) (hne : ¬ y = 0) (k : qx_V K G nL cells slots Q w σ (pc + 1) lv (.int (x / y) :: st)) : qx_V K G nL cells slots Q w σ pc lv (.int y :: .int x :: st) := fun H locs ls hP hD hS hl => lv_idiv X.1 X.2.1 hdg hne (k H locs ls hP hD hS hl)
theorem qx_i2l (X : qx_Ok K G t1 t2 cc own nL) {x : Int32} (hdg : decode cc pc = .ok (.i2l, 1)) (k : qx_V K G nL cells slots Q w σ (pc + 1) lv (.long x.toInt64 :: st)) : qx_V K G nL cells slots Q w σ pc lv (.int x :: st) := fun H locs ls hP hD hS hl => lv_i2l X.1 X.2.1 hdg rfl (k H locs ls hP hD hS hl)
theorem qx_l2i (X : qx_Ok K G t1 t2 cc own nL) {x : Int64} (hdg : decode cc pc = .ok (.l2i, 1)) (k : qx_V K G nL cells slots Q w σ (pc + 1) lv (.int x.toInt32 :: st)) : qx_V K G nL cells slots Q w σ pc lv (.long x :: st) := fun H locs ls hP hD hS hl => lv_l2i X.1 X.2.1 hdg rfl (k H locs ls hP hD hS hl)
theorem qx_ldiv (X : qx_Ok K G t1 t2 cc own nL) {x y : Int64} (hdg : decode cc pc = .ok (.ldiv, 1)) (hne : ¬ y = 0) (k : qx_V K G nL cells slots Q w σ (pc + 1) lv (.long (x / y) :: st)) : qx_V K G nL cells slots Q w σ pc lv (.long y :: .long x :: st) := fun H locs ls hP hD hS hl => lv_ldiv X.1 X.2.1 hdg hne (k H locs ls hP hD hS hl)
theorem qx_dup (X : qx_Ok K G t1 t2 cc own nL) {v : Value} (hdg : decode cc pc = .ok (.dup, 1)) (hv : v.category = 1) (k : qx_V K G nL cells slots Q w σ (pc + 1) lv (v :: v :: st)) : qx_V K G nL cells slots Q w σ pc lv (v :: st) := fun H locs ls hP hD hS hl => lv_dup X.1 X.2.1 hdg hv (k H locs ls hP hD hS hl)
theorem qx_dup2 (X : qx_Ok K G t1 t2 cc own nL) {v u : Value} (hdg : decode cc pc = .ok (.dup2, 1)) (hv : v.category = 1) (hu : u.category = 1) (k : qx_V K G nL cells slots Q w σ (pc + 1) lv (v :: u :: v :: u :: st)) : qx_V K G nL cells slots Q w σ pc lv (v :: u :: st) := fun H locs ls hP hD hS hl => lv_dup2_11 X.1 X.2.1 hdg hv hu (k H locs ls hP hD hS hl)
theorem qx_goto (X : qx_Ok K G t1 t2 cc own nL) {off : Int} {tgt : Nat} (hdg : decode cc pc = .ok (.goto off, 3)) (ht : (pc : Int) + off = (tgt : Int)) (k : qx_V K G nL cells slots Q w σ tgt lv st) : qx_V K G nL cells slots Q w σ pc lv st := fun H locs ls hP hD hS hl => lv_goto X.1 X.2.1 hdg ht (k H locs ls hP hD hS hl)
theorem qx_if_eq (X : qx_Ok K G t1 t2 cc own nL) {x : Int32} {off : Int} {tgt : Nat} (hdg : decode cc pc = .ok (.ifCond .eq off, 3)) (ht : (pc : Int) + off = (tgt : Int)) (kt : x = 0 → qx_V K G nL cells slots Q w σ tgt lv st) (kf : ¬ (x = 0) → qx_V K G nL cells slots Q w σ (pc + 3) lv st) : qx_V K G nL cells slots Q w σ pc lv (.int x :: st) := fun H locs ls hP hD hS hl => lv_if_eq X.1 X.2.1 hdg ht (fun c => kt c H locs ls hP hD hS hl) (fun c => kf c H locs ls hP hD hS hl)
theorem qx_icmp_eq (X : qx_Ok K G t1 t2 cc own nL) {x y : Int32} {off : Int} {tgt : Nat} (hdg : decode cc pc = .ok (.if_icmp .eq off, 3)) (ht : (pc : Int) + off = (tgt : Int)) (kt : x = y → qx_V K G nL cells slots Q w σ tgt lv st) (kf : ¬ (x = y) → qx_V K G nL cells slots Q w σ (pc + 3) lv st) : qx_V K G nL cells slots Q w σ pc lv (.int y :: .int x :: st) := fun H locs ls hP hD hS hl => lv_icmp_eq X.1 X.2.1 hdg ht (fun c => kt c H locs ls hP hD hS hl) (fun c => kf c H locs ls hP hD hS hl)
theorem qx_if_ne (X : qx_Ok K G t1 t2 cc own nL) {x : Int32} {off : Int} {tgt : Nat} (hdg : decode cc pc = .ok (.ifCond .ne off, 3)) (ht : (pc : Int) + off = (tgt : Int)) (kt : ¬ x = 0 → qx_V K G nL cells slots Q w σ tgt lv st) (kf : x = 0 → qx_V K G nL cells slots Q w σ (pc + 3) lv st) : qx_V K G nL cells slots Q w σ pc lv (.int x :: st) := fun H locs ls hP hD hS hl => lv_if_ne X.1 X.2.1 hdg ht (fun c => kt c H locs ls hP hD hS hl) (fun c => kf c H locs ls hP hD hS hl)
theorem qx_icmp_ne (X : qx_Ok K G t1 t2 cc own nL) {x y : Int32} {off : Int} {tgt : Nat} (hdg : decode cc pc = .ok (.if_icmp .ne off, 3)) (ht : (pc : Int) + off = (tgt : Int)) (kt : ¬ x = y → qx_V K G nL cells slots Q w σ tgt lv st) (kf : x = y → qx_V K G nL cells slots Q w σ (pc + 3) lv st) : qx_V K G nL cells slots Q w σ pc lv (.int y :: .int x :: st) := fun H locs ls hP hD hS hl => lv_icmp_ne X.1 X.2.1 hdg ht (fun c => kt c H locs ls hP hD hS hl) (fun c => kf c H locs ls hP hD hS hl)
theorem qx_if_lt (X : qx_Ok K G t1 t2 cc own nL) {x : Int32} {off : Int} {tgt : Nat} (hdg : decode cc pc = .ok (.ifCond .lt off, 3)) (ht : (pc : Int) + off = (tgt : Int)) (kt : x < 0 → qx_V K G nL cells slots Q w σ tgt lv st) (kf : ¬ (x < 0) → qx_V K G nL cells slots Q w σ (pc + 3) lv st) : qx_V K G nL cells slots Q w σ pc lv (.int x :: st) := fun H locs ls hP hD hS hl => lv_if_lt X.1 X.2.1 hdg ht (fun c => kt c H locs ls hP hD hS hl) (fun c => kf c H locs ls hP hD hS hl)
theorem qx_icmp_lt (X : qx_Ok K G t1 t2 cc own nL) {x y : Int32} {off : Int} {tgt : Nat} (hdg : decode cc pc = .ok (.if_icmp .lt off, 3)) (ht : (pc : Int) + off = (tgt : Int)) (kt : x < y → qx_V K G nL cells slots Q w σ tgt lv st) (kf : ¬ (x < y) → qx_V K G nL cells slots Q w σ (pc + 3) lv st) : qx_V K G nL cells slots Q w σ pc lv (.int y :: .int x :: st) := fun H locs ls hP hD hS hl => lv_icmp_lt X.1 X.2.1 hdg ht (fun c => kt c H locs ls hP hD hS hl) (fun c => kf c H locs ls hP hD hS hl)
theorem qx_if_ge (X : qx_Ok K G t1 t2 cc own nL) {x : Int32} {off : Int} {tgt : Nat} (hdg : decode cc pc = .ok (.ifCond .ge off, 3)) (ht : (pc : Int) + off = (tgt : Int)) (kt : 0 ≤ x → qx_V K G nL cells slots Q w σ tgt lv st) (kf : ¬ (0 ≤ x) → qx_V K G nL cells slots Q w σ (pc + 3) lv st) : qx_V K G nL cells slots Q w σ pc lv (.int x :: st) := fun H locs ls hP hD hS hl => lv_if_ge X.1 X.2.1 hdg ht (fun c => kt c H locs ls hP hD hS hl) (fun c => kf c H locs ls hP hD hS hl)
theorem qx_icmp_ge (X : qx_Ok K G t1 t2 cc own nL) {x y : Int32} {off : Int} {tgt : Nat} (hdg : decode cc pc = .ok (.if_icmp .ge off, 3)) (ht : (pc : Int) + off = (tgt : Int)) (kt : y ≤ x → qx_V K G nL cells slots Q w σ tgt lv st) (kf : ¬ (y ≤ x) → qx_V K G nL cells slots Q w σ (pc + 3) lv st) : qx_V K G nL cells slots Q w σ pc lv (.int y :: .int x :: st) := fun H locs ls hP hD hS hl => lv_icmp_ge X.1 X.2.1 hdg ht (fun c => kt c H locs ls hP hD hS hl) (fun c => kf c H locs ls hP hD hS hl)
theorem qx_if_gt (X : qx_Ok K G t1 t2 cc own nL) {x : Int32} {off : Int} {tgt : Nat} (hdg : decode cc pc = .ok (.ifCond .gt off, 3)) (ht : (pc : Int) + off = (tgt : Int)) (kt : 0 < x → qx_V K G nL cells slots Q w σ tgt lv st) (kf : ¬ (0 < x) → qx_V K G nL cells slots Q w σ (pc + 3) lv st) : qx_V K G nL cells slots Q w σ pc lv (.int x :: st) := fun H locs ls hP hD hS hl => lv_if_gt X.1 X.2.1 hdg ht (fun c => kt c H locs ls hP hD hS hl) (fun c => kf c H locs ls hP hD hS hl)
theorem qx_icmp_gt (X : qx_Ok K G t1 t2 cc own nL) {x y : Int32} {off : Int} {tgt : Nat} (hdg : decode cc pc = .ok (.if_icmp .gt off, 3)) (ht : (pc : Int) + off = (tgt : Int)) (kt : y < x → qx_V K G nL cells slots Q w σ tgt lv st) (kf : ¬ (y < x) → qx_V K G nL cells slots Q w σ (pc + 3) lv st) : qx_V K G nL cells slots Q w σ pc lv (.int y :: .int x :: st) := fun H locs ls hP hD hS hl => lv_icmp_gt X.1 X.2.1 hdg ht (fun c => kt c H locs ls hP hD hS hl) (fun c => kf c H locs ls hP hD hS hl)
theorem qx_if_le (X : qx_Ok K G t1 t2 cc own nL) {x : Int32} {off : Int} {tgt : Nat} (hdg : decode cc pc = .ok (.ifCond .le off, 3)) (ht : (pc : Int) + off = (tgt : Int)) (kt : x ≤ 0 → qx_V K G nL cells slots Q w σ tgt lv st) (kf : ¬ (x ≤ 0) → qx_V K G nL cells slots Q w σ (pc + 3) lv st) : qx_V K G nL cells slots Q w σ pc lv (.int x :: st) := fun H locs ls hP hD hS hl => lv_if_le X.1 X.2.1 hdg ht (fun c => kt c H locs ls hP hD hS hl) (fun c => kf c H locs ls hP hD hS hl)
theorem qx_icmp_le (X : qx_Ok K G t1 t2 cc own nL) {x y : Int32} {off : Int} {tgt : Nat} (hdg : decode cc pc = .ok (.if_icmp .le off, 3)) (ht : (pc : Int) + off = (tgt : Int)) (kt : x ≤ y → qx_V K G nL cells slots Q w σ tgt lv st) (kf : ¬ (x ≤ y) → qx_V K G nL cells slots Q w σ (pc + 3) lv st) : qx_V K G nL cells slots Q w σ pc lv (.int y :: .int x :: st) := fun H locs ls hP hD hS hl => lv_icmp_le X.1 X.2.1 hdg ht (fun c => kt c H locs ls hP hD hS hl) (fun c => kf c H locs ls hP hD hS hl)
theorem qx_irem (X : qx_Ok K G t1 t2 cc own nL) {x y : Int32} (hdg : decode cc pc = .ok (.irem, 1)) (hne : ¬ y = 0) (k : qx_V K G nL cells slots Q w σ (pc + 1) lv (.int (x - x / y * y) :: st)) : qx_V K G nL cells slots Q w σ pc lv (.int y :: .int x :: st) := fun H locs ls hP hD hS hl => lv_irem X.1 X.2.1 hdg hne (k H locs ls hP hD hS hl)
/-- a switch: one goal a place of the table, one for all else -/
theorem qx_switch (X : qx_Ok K G t1 t2 cc own nL) {dflt lo hi : Int} {offs : Array Int} {len : Nat} {x : Int32} {tgt : Nat} (tg : Nat → Nat) (hdg : decode cc pc = .ok (.tableswitch dflt lo hi offs, len)) (hlo : -1000 ≤ lo) (hhi : hi ≤ 1000) (ho : ∀ i : Nat, i < (hi + 1 - lo).toNat → offs[i]? = some ((tg i : Int) - (pc : Int))) (ht : (pc : Int) + dflt = (tgt : Int))
    (kt : ∀ i : Nat, i < (hi + 1 - lo).toNat → x = Int32.ofInt (lo + i) → qx_V K G nL cells slots Q w σ (tg i) lv st) (kf : (∀ i : Nat, i < (hi + 1 - lo).toNat → ¬ x = Int32.ofInt (lo + i)) → qx_V K G nL cells slots Q w σ tgt lv st) : qx_V K G nL cells slots Q w σ pc lv (.int x :: st) := by
  intro H locs ls hP hD hS hl
  by_cases h1 : x.toInt < lo
  · exact lv_tableOut X.1 X.2.1 hdg (Or.inl h1) ht (kf (fun i hi2 e => by
      have e2 : x.toInt = lo + i := by rw [e]; exact Int32.toInt_ofInt_of_le (by omega) (by omega)
      omega) H locs ls hP hD hS hl)
  · by_cases h2 : hi < x.toInt
    · exact lv_tableOut X.1 X.2.1 hdg (Or.inr h2) ht (kf (fun i hi2 e => by
        have e2 : x.toInt = lo + i := by rw [e]; exact Int32.toInt_ofInt_of_le (by omega) (by omega)
        omega) H locs ls hP hD hS hl)
    · have hi3 : (x.toInt - lo).toNat < (hi + 1 - lo).toNat := by omega
      have ho1 := ho _ hi3
      have ho2 : (pc : Int) + ((tg (x.toInt - lo).toNat : Int) - (pc : Int)) = (tg (x.toInt - lo).toNat : Int) := by omega
      exact lv_tableIn X.1 X.2.1 hdg h1 h2 ho1 ho2 (kt _ hi3 (Int32.toInt_inj.mp (by
        rw [Int32.toInt_ofInt_of_le (by omega) (by omega)]; omega)) H locs ls hP hD hS hl)
theorem qx_slot_get {σ : qx_St} {ρ : Nat → Nat → Nat → Option Nat} {f i j : Nat} {sl : List (Option Nat)} {o : Option Nat} (h : sl[j]? = some o) : ((List.range sl.length).map (qx_slot σ ρ f i sl))[j]? = some (qx_slot σ ρ f i sl j) := by
  have hj := (List.getElem?_eq_some_iff.mp h).1
  simp [hj]
theorem qx_geti (X : qx_Ok K G t1 t2 cc own nL) {idx f i j : Nat} (hF : qx_FG own idx f j none) (hm : (f, i) ∈ w.1) (hdg : decode cc pc = .ok (.getfield idx, 3)) (k : qx_V K G nL cells slots Q w σ (pc + 3) lv (.int (σ f i j) :: st)) : qx_V K G nL cells slots Q w σ pc lv (.ref (w.2.1 f i) :: st) := by
  intro H locs ls hP hD hS hl
  obtain ⟨ci, sl, C, T, N, ty, hsh, ⟨h1, h2, h3, h4⟩, hN, hj, hlk⟩ := hF
  obtain ⟨q0, hq, hq2⟩ := qx_wd_at (ca := G.2.1) (σ := σ) hm
  rw [qx_E_obj hsh] at hq2
  have hjN : j < N := by rw [← hN]; exact (List.getElem?_eq_some_iff.mp hj).1
  have hsv : qx_slot σ w.2.2 f i sl j = .int (σ f i j) := by simp [qx_slot, hj]
  exact va_get (D := G.1) (v := .int (σ f i j)) X.1 X.2.1 X.2.2.2.2.1 h2 X.2.2.2.1 X.2.2.2.2.2.1 hP q0 hq2 h1 j hjN (X.2.2.2.2.1 _ hlk) (fun _ h9 => h9) (by rw [qx_slot_get hj, hsv]) hdg (k H locs ls hP hD hS hl)
theorem qx_getr (X : qx_Ok K G t1 t2 cc own nL) {idx f i j a tg : Nat} (hF : qx_FG own idx f j (some tg)) (hm : (f, i) ∈ w.1) (hr : w.2.2 f i j = some a) (hdg : decode cc pc = .ok (.getfield idx, 3)) (k : qx_V K G nL cells slots Q w σ (pc + 3) lv (.ref a :: st)) : qx_V K G nL cells slots Q w σ pc lv (.ref (w.2.1 f i) :: st) := by
  intro H locs ls hP hD hS hl
  obtain ⟨ci, sl, C, T, N, ty, hsh, ⟨h1, h2, h3, h4⟩, hN, hj, hlk⟩ := hF
  obtain ⟨q0, hq, hq2⟩ := qx_wd_at (ca := G.2.1) (σ := σ) hm
  rw [qx_E_obj hsh] at hq2
  have hjN : j < N := by rw [← hN]; exact (List.getElem?_eq_some_iff.mp hj).1
  have hsv : qx_slot σ w.2.2 f i sl j = .ref a := by simp [qx_slot, hj, hr, va_rf]
  exact va_get (D := G.1) (v := .ref a) X.1 X.2.1 X.2.2.2.2.1 h2 X.2.2.2.1 X.2.2.2.2.2.1 hP q0 hq2 h1 j hjN (X.2.2.2.2.1 _ hlk) (fun _ h9 => h9) (by rw [qx_slot_get hj, hsv]) hdg (k H locs ls hP hD hS hl)
theorem qx_slots_set {σ : qx_St} {ρ : Nat → Nat → Nat → Option Nat} {f i j : Nat} {sl : List (Option Nat)} {v : Int32} (h : sl[j]? = some none) : ((List.range sl.length).map (qx_slot σ ρ f i sl)).set j (.int v) = (List.range sl.length).map (qx_slot (qx_st σ f i j v) ρ f i sl) := by
  have hj := (List.getElem?_eq_some_iff.mp h).1
  apply List.ext_getElem?
  intro k
  by_cases hk : k = j
  · subst hk
    rw [List.getElem?_set_self (by simpa using hj)]
    simp only [List.getElem?_map, List.getElem?_range hj, Option.map_some, qx_slot, h, qx_st, qx_sa_ff, upd, if_true]
  · rw [List.getElem?_set_ne (Ne.symm hk)]
    by_cases hl : k < sl.length
    · simp only [List.getElem?_map, List.getElem?_range hl, Option.map_some, qx_slot, qx_st, qx_sa_ff, upd, if_neg hk]
    · simp [Nat.not_lt.mp hl]
theorem qx_puti (X : qx_Ok K G t1 t2 cc own nL) {idx f i j : Nat} {t : FieldType} {v : Int32} (hF : qx_FP own idx f j t) (hm : (f, i) ∈ w.1) (hn : narrow t (.int v) = .int v) (hf : fits t (.int v) = true) (hdg : decode cc pc = .ok (.putfield idx, 3)) (k : qx_V K G nL cells slots Q w (qx_st σ f i j v) (pc + 3) lv st) : qx_V K G nL cells slots Q w σ pc lv (.int v :: .ref (w.2.1 f i) :: st) := by
  intro H locs ls hP hD hS hl
  obtain ⟨ci, sl, C, T, N, ty, hsh, ⟨h1, h2, h3, h4⟩, hN, hj, hlk, hfin, hty⟩ := hF
  obtain ⟨q0, hq, hq2⟩ := qx_wd_at (ca := G.2.1) (σ := σ) hm
  rw [qx_E_obj hsh] at hq2
  have hjl := (List.getElem?_eq_some_iff.mp hj).1
  refine va_put (D := G.1) (v := .int v) (ty := t) X.1 X.2.1 X.2.2.2.2.1 h2 ty h3 h4 X.2.2.2.1 X.2.2.2.2.2.1 hP hD hS q0 hq2 h1 j (by rw [← hN]; exact hjl) (X.2.2.2.2.1 _ hlk) (fun _ h9 => h9) hfin hty hn hf (by simpa using hjl) hdg (fun H1 locs1 hP1 hD1 hS1 => ?_)
  rw [qx_slots_set hj, ← qx_E_obj (ca := G.2.1) hsh, qx_wd_set (w := w) (ρ' := w.2.2) hD hq qx_E_nst] at hP1 hD1
  exact k H1 locs1 ls hP1 hD1 hS1 hl
theorem qx_iald (X : qx_Ok K G t1 t2 cc own nL) {f i n : Nat} {x : Int32} (hsh : qx_sh f = .inr (.inl (0, n))) (hm : (f, i) ∈ w.1) (hin : vp_in x n) (hdg : decode cc pc = .ok (.iaload, 1)) (k : qx_V K G nL cells slots Q w σ (pc + 1) lv (.int (σ f i x.toNatClampNeg) :: st)) : qx_V K G nL cells slots Q w σ pc lv (.int x :: .ref (w.2.1 f i) :: st) := by
  intro H locs ls hP hD hS hl
  obtain ⟨q0, hq, hq2⟩ := qx_wd_at (ca := G.2.1) (σ := σ) hm
  rw [qx_E_iarr hsh] at hq2
  exact va_iald X.1 X.2.1 X.2.2.2.2.2.1 hP q0 0 hq2 rfl hin hdg (k H locs ls hP hD hS hl)
theorem qx_zald (X : qx_Ok K G t1 t2 cc own nL) {f i n : Nat} {x : Int32} (hsh : qx_sh f = .inr (.inl (1, n))) (hm : (f, i) ∈ w.1) (hin : vp_in x n) (hdg : decode cc pc = .ok (.baload, 1)) (k : qx_V K G nL cells slots Q w σ (pc + 1) lv (.int (σ f i x.toNatClampNeg) :: st)) : qx_V K G nL cells slots Q w σ pc lv (.int x :: .ref (w.2.1 f i) :: st) := by
  intro H locs ls hP hD hS hl
  obtain ⟨q0, hq, hq2⟩ := qx_wd_at (ca := G.2.1) (σ := σ) hm
  rw [qx_E_iarr hsh] at hq2
  exact va_zald X.1 X.2.1 X.2.2.2.2.2.1 hP q0 1 hq2 rfl hin hdg (k H locs ls hP hD hS hl)
theorem qx_iast (X : qx_Ok K G t1 t2 cc own nL) {f i n : Nat} {x v : Int32} (hsh : qx_sh f = .inr (.inl (0, n))) (hm : (f, i) ∈ w.1) (hin : vp_in x n) (hdg : decode cc pc = .ok (.iastore, 1)) (k : qx_V K G nL cells slots Q w (qx_st σ f i x.toNatClampNeg v) (pc + 1) lv st) : qx_V K G nL cells slots Q w σ pc lv (.int v :: .int x :: .ref (w.2.1 f i) :: st) := by
  intro H locs ls hP hD hS hl
  obtain ⟨q0, hq, hq2⟩ := qx_wd_at (ca := G.2.1) (σ := σ) hm
  rw [qx_E_iarr hsh] at hq2
  refine va_iast X.1 X.2.1 X.2.2.2.2.2.1 hP hD hS q0 0 hq2 rfl hin hdg (fun H1 locs1 hP1 hD1 hS1 => ?_)
  have e : (.inl (G.2.1 0, n, .inl (upd (σ f i) x.toNatClampNeg v)) : va_E) = qx_E G.2.1 w.2.2 (qx_st σ f i x.toNatClampNeg v) f i := by rw [qx_E_iarr hsh, qx_st, qx_sa_ff]
  rw [e, qx_wd_set (w := w) (ρ' := w.2.2) hD hq qx_E_nst] at hP1 hD1
  exact k H1 locs1 ls hP1 hD1 hS1 hl
theorem qx_zast (X : qx_Ok K G t1 t2 cc own nL) {f i n : Nat} {x v : Int32} (hsh : qx_sh f = .inr (.inl (1, n))) (hm : (f, i) ∈ w.1) (hin : vp_in x n) (hdg : decode cc pc = .ok (.bastore, 1)) (k : qx_V K G nL cells slots Q w (qx_st σ f i x.toNatClampNeg (vp_nar .boolean v)) (pc + 1) lv st) : qx_V K G nL cells slots Q w σ pc lv (.int v :: .int x :: .ref (w.2.1 f i) :: st) := by
  intro H locs ls hP hD hS hl
  obtain ⟨q0, hq, hq2⟩ := qx_wd_at (ca := G.2.1) (σ := σ) hm
  rw [qx_E_iarr hsh] at hq2
  refine va_zast X.1 X.2.1 X.2.2.2.2.2.1 hP hD hS q0 1 hq2 rfl hin hdg (fun H1 locs1 hP1 hD1 hS1 => ?_)
  have e : (.inl (G.2.1 1, n, .inl (upd (σ f i) x.toNatClampNeg (vp_nar .boolean v))) : va_E) = qx_E G.2.1 w.2.2 (qx_st σ f i x.toNatClampNeg (vp_nar .boolean v)) f i := by rw [qx_E_iarr hsh, qx_st, qx_sa_ff]
  rw [e, qx_wd_set (w := w) (ρ' := w.2.2) hD hq qx_E_nst] at hP1 hD1
  exact k H1 locs1 ls hP1 hD1 hS1 hl
theorem qx_aald (X : qx_Ok K G t1 t2 cc own nL) {f i n tk tg a : Nat} {C : String} {x : Int32} (hsh : qx_sh f = .inr (.inr (tk, n, tg))) (ht : (qx_ty G.2.1)[tk]? = some (G.2.1 tk, .object C)) (hm : (f, i) ∈ w.1) (hin : vp_in x n) (hr : w.2.2 f i x.toNatClampNeg = some a) (hdg : decode cc pc = .ok (.aaload, 1)) (k : qx_V K G nL cells slots Q w σ (pc + 1) lv (.ref a :: st)) : qx_V K G nL cells slots Q w σ pc lv (.int x :: .ref (w.2.1 f i) :: st) := by
  intro H locs ls hP hD hS hl
  obtain ⟨q0, hq, hq2⟩ := qx_wd_at (ca := G.2.1) (σ := σ) hm
  rw [qx_E_qarr hsh] at hq2
  refine va_aldq X.1 X.2.1 X.2.2.2.2.2.1 hP q0 tk hq2 ht hin hdg ?_
  rw [hr]
  exact k H locs ls hP hD hS hl
theorem qx_aleni (X : qx_Ok K G t1 t2 cc own nL) {f i n : Nat} {v : Int32} (hsh : qx_sh f = .inr (.inl (0, n))) (hm : (f, i) ∈ w.1) (hv : Int32.ofNat n = v) (hdg : decode cc pc = .ok (.arraylength, 1)) (k : qx_V K G nL cells slots Q w σ (pc + 1) lv (.int v :: st)) : qx_V K G nL cells slots Q w σ pc lv (.ref (w.2.1 f i) :: st) := by
  intro H locs ls hP hD hS hl
  obtain ⟨q0, hq, hq2⟩ := qx_wd_at (ca := G.2.1) (σ := σ) hm
  rw [qx_E_iarr hsh] at hq2
  exact va_alen X.1 X.2.1 X.2.2.2.2.2.1 hP q0 0 hq2 (ty := .int) rfl hv hdg (k H locs ls hP hD hS hl)
theorem qx_alenq (X : qx_Ok K G t1 t2 cc own nL) {f i n tk tg : Nat} {C : String} {v : Int32} (hsh : qx_sh f = .inr (.inr (tk, n, tg))) (ht : (qx_ty G.2.1)[tk]? = some (G.2.1 tk, .object C)) (hm : (f, i) ∈ w.1) (hv : Int32.ofNat n = v) (hdg : decode cc pc = .ok (.arraylength, 1)) (k : qx_V K G nL cells slots Q w σ (pc + 1) lv (.int v :: st)) : qx_V K G nL cells slots Q w σ pc lv (.ref (w.2.1 f i) :: st) := by
  intro H locs ls hP hD hS hl
  obtain ⟨q0, hq, hq2⟩ := qx_wd_at (ca := G.2.1) (σ := σ) hm
  rw [qx_E_qarr hsh] at hq2
  exact va_alen X.1 X.2.1 X.2.2.2.2.2.1 hP q0 tk hq2 ht hv hdg (k H locs ls hP hD hS hl)
theorem qx_gets1 (X : qx_Ok K G t1 t2 cc own nL) {idx : Nat} (hlk : Cond.fieldLink own idx RX0 "TAKES" "[I" ∈ qx_BW) (hdg : decode cc pc = .ok (.getstatic idx, 3)) (k : qx_V K G nL cells slots Q w σ (pc + 3) lv (.ref t1 :: st)) : qx_V K G nL cells slots Q w σ pc lv st := fun H locs ls hP hD hS hl => va_gets X.1 X.2.1 X.2.2.2.2.2.2.2.1.1 hS X.2.2.2.1 (X.2.2.2.2.1 _ hlk) (fun _ h9 => h9) hdg (k H locs ls hP hD hS hl)
theorem qx_gets2 (X : qx_Ok K G t1 t2 cc own nL) {idx : Nat} (hlk : Cond.fieldLink own idx RX0 "PUTS" "[I" ∈ qx_BW) (hdg : decode cc pc = .ok (.getstatic idx, 3)) (k : qx_V K G nL cells slots Q w σ (pc + 3) lv (.ref t2 :: st)) : qx_V K G nL cells slots Q w σ pc lv st := fun H locs ls hP hD hS hl => va_gets X.1 X.2.1 X.2.2.2.2.2.2.2.1.2.1 hS X.2.2.2.1 (X.2.2.2.2.1 _ hlk) (fun _ h9 => h9) hdg (k H locs ls hP hD hS hl)
theorem qx_tab1 (X : qx_Ok K G t1 t2 cc own nL) {x : Int32} (hin : vp_in x 26) (hdg : decode cc pc = .ok (.iaload, 1)) (k : qx_V K G nL cells slots Q w σ (pc + 1) lv (.int (qx_takesI x.toNatClampNeg) :: st)) : qx_V K G nL cells slots Q w σ pc lv (.int x :: .ref t1 :: st) := fun H locs ls hP hD hS hl => va_ti X.1 X.2.1 X.2.2.2.2.2.2.2.1.2.2.1 hS hin rfl hdg (k H locs ls hP hD hS hl)
theorem qx_tab2 (X : qx_Ok K G t1 t2 cc own nL) {x : Int32} (hin : vp_in x 26) (hdg : decode cc pc = .ok (.iaload, 1)) (k : qx_V K G nL cells slots Q w σ (pc + 1) lv (.int (qx_putsI x.toNatClampNeg) :: st)) : qx_V K G nL cells slots Q w σ pc lv (.int x :: .ref t2 :: st) := fun H locs ls hP hD hS hl => va_ti X.1 X.2.1 X.2.2.2.2.2.2.2.1.2.2.2 hS hin rfl hdg (k H locs ls hP hD hS hl)
end QXV
