/-! THE CLAIM OUT OF ONE WALK OF THE LAW'S BODY. Your part is whole_start (and what it stands on); all else here is the same for every law, but numbers. -/
def R_law : String := "ContractFramesLaw"
def lw_P (b : Addr) (xs : List Int32) (args : Array Value) (s : State) : Prop := args = #[.ref b] ∧ s.IntsAt b xs ∧ xs.length ≤ 3584 ∧ (Jvm.Cond.and given_1 narrow_1).before args s = true
def lw_Q (_ : Array Value) (s : State) (o : Outcome) (t : State) : Prop := o = .returned (some (.int 1)) ∧ Framed s o t [] 600000 7302250
def lw_Z (below : List Frame) (a : Array Value) (s : State) : State → Prop := fun t => ∃ o, t.status = .running ∧ Ended t below o ∧ lw_Q a s o t
/-- the law's own end, with 1 on the stack, nothing written that was there before, its room as the claim has it -/
theorem lw_ret {p : Program} {l : Launch} {e : Env} {s : State} {m : MethodId} {below : List Frame} {meth : Method} {c : Code} {b : Nat} (hx : p.tables.exec = Jvm.exec) (hb : c.code = code) (hr : meth.sig.returnType = ret) (hlocks : meth.locks = false) {pc : Nat} {H : Heap} {ls : Array Slot} (hdg : decode code pc = .ok (.ireturn, 1)) : W p l e room_1 s m #[Value.ref b] below meth c H [] 600000 7302250 (lw_Z below #[Value.ref b] s) (F0 m pc ls [.int 1]) := by
  intro T hT X
  obtain ⟨fs, hret, hrun, hended, hW, hframe⟩ := X.leave (v := some (.int 1)) (hlocks := hlocks) (fun h => by rw [hr] at h; cases h)
  have hmeth' : T.vm.method? m = some meth := X.method'
  refine ⟨T.setFrames fs, ?_, .returned (some (.int 1)), hrun, hended, rfl, ⟨_, rfl⟩, hW, hframe⟩
  jvm_step X.here [X.here.top, hx, hb, hdg, hmeth', hr, ret, narrow_b1]
  (try refine ⟨rfl, ?_⟩); (try refine ⟨rfl, ?_⟩)
  first | (intro acts; rw [hret _ acts rfl rfl rfl]) | rw [hret _ _ rfl rfl rfl]
  exact Steps.refl _
/-- what holds at the law's entry: the machine, the code, the tables' words (any of lw_tbl by 'hts w (by decide +kernel)'), the script of L ints xs at the cell b, what the Statement gives of the start (any of its parts by flat_of_before) -/
def lw_At (p : Program) (s : State) (m : MethodId) (meth : Method) (c : Code) (b L : Nat) (xs : Nat → Int32) : Prop :=
  p.tables.exec = Jvm.exec ∧ c.code = code ∧ meth.sig.returnType = ret ∧ c.maxLocals = 4 ∧ s.vm.findClass R_law = some m.cls ∧ (∀ w ∈ lw_tbl, w.before #[Value.ref b] s = true) ∧ va_X b L xs s s.heap ∧ b < s.heap.size ∧ meth.locks = false ∧ (Jvm.Cond.and given_1 narrow_1).before #[Value.ref b] s = true
section QXL
variable {K : qx_Cx} {G : qx_Gx} {t1 t2 nL cells slots : Nat} {Q : State → Prop} {w : qx_Wx} {σ : qx_St} {pc : Nat} {lv : List (Nat × Value)} {st : List Value} {cc : ByteArray} {own : String}
theorem qx_sld (X : qx_Ok K G t1 t2 cc own nL) {b L : Nat} {xs : Nat → Int32} {i : Int32} (hX : va_X b L xs K.2.2.2.2.1 K.2.2.2.2.1.heap) (hbl : b < K.2.2.2.2.1.heap.size) (hbA : ¬ G.2.2 b) (hin : vp_in i L) (hdg : decode cc pc = .ok (.iaload, 1)) (k : qx_V K G nL cells slots Q w σ (pc + 1) lv (.int (xs i.toNatClampNeg) :: st)) : qx_V K G nL cells slots Q w σ pc lv (.int i :: .ref b :: st) := fun H locs ls hP hD hS hl => va_sld X.1 X.2.1 hX hbl hbA hS hin hdg (k H locs ls hP hD hS hl)
theorem qx_slen (X : qx_Ok K G t1 t2 cc own nL) {b L : Nat} {xs : Nat → Int32} (hX : va_X b L xs K.2.2.2.2.1 K.2.2.2.2.1.heap) (hbl : b < K.2.2.2.2.1.heap.size) (hbA : ¬ G.2.2 b) (hdg : decode cc pc = .ok (.arraylength, 1)) (k : qx_V K G nL cells slots Q w σ (pc + 1) lv (.int (Int32.ofNat L) :: st)) : qx_V K G nL cells slots Q w σ pc lv (.ref b :: st) := fun H locs ls hP hD hS hl => va_slen X.1 X.2.1 hX hbl hbA hS hdg (k H locs ls hP hD hS hl)
end QXL
theorem qx_lret {p : Program} {l : Launch} {e : Env} {s : State} {m : MethodId} {below : List Frame} {meth : Method} {c : Code} {b : Nat} {K : qx_Cx} (hK : K = (p, l, e, room_1, s, m, #[Value.ref b], below, meth, c)) {G : qx_Gx} {t1 t2 nL cells slots : Nat} {w : qx_Wx} {σ : qx_St} {pc : Nat} {lv : List (Nat × Value)} (X : qx_Ok K G t1 t2 cL_law RL nL) (hr : meth.sig.returnType = ret) (hlk : meth.locks = false) (hA : ∀ q, G.2.2 q → s.heap.size ≤ q) (hcs : cells ≤ room_1.cells ∧ slots ≤ room_1.slots) (hdg : decode cL_law pc = .ok (.ireturn, 1)) : qx_V K G nL cells slots (lw_Z below #[Value.ref b] s) w σ pc lv [.int 1] := by
  subst hK
  intro H locs ls hP hD hS hl
  refine va_forget (fun q hq => hA _ (hS.2.2 q hq)) ?_
  refine W.widen (k := 600000) (n := 7302250) hcs.1 hcs.2 ?_
  exact lw_ret X.1 X.2.1 hr hlk hdg
