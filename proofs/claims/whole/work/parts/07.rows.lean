/-! the world once all is made; rows with names for what they make anew -/
def qx_r0 (ad : Nat → Nat → Nat) (f i j : Nat) : Option Nat := match qx_sh f with
  | .inl o => (match o.2[j]? with
    | some (some g) => some (ad g i)
    | _ => none)
  | .inr (.inl _) => none
  | .inr (.inr a) => if j < a.2.1 then some (ad a.2.2 j) else none
theorem qx_r0q {ad : Nat → Nat → Nat} {f i j k n tg : Nat} (h : qx_sh f = .inr (.inr (k, n, tg))) (hj : j < n) : qx_r0 ad f i j = some (ad tg j) := by simp only [qx_r0, h, hj, if_true]
abbrev qx_w0 (ad : Nat → Nat → Nat) : qx_Wx := (qx_cells, ad, qx_r0 ad)
theorem qx_lt {x : Int32} {n : Nat} (h : vp_in x n) : x.toNatClampNeg < n := Nat.not_le.mp fun q => h (Or.inr q)
section QXR
variable {K : qx_Cx} {G : qx_Gx} {t1 t2 nL cells slots : Nat} {Q : State → Prop} {w : qx_Wx} {σ : qx_St} {pc : Nat} {lv : List (Nat × Value)} {st : List Value} {cc : ByteArray} {own : String}
theorem qx_lsub {lv' : List (Nat × Value)} (ks : List Nat) (h : lv_pick lv ks = lv') (k : qx_V K G nL cells slots Q w σ pc lv' st) : qx_V K G nL cells slots Q w σ pc lv st := fun H locs ls hP hD hS hl => k H locs ls hP hD hS (lv_sub hl ks h)
theorem qx_puti1 (X : qx_Ok K G t1 t2 cc own nL) {idx f i j : Nat} {v : Int32} (hF : qx_FP own idx f j .int) (hm : (f, i) ∈ w.1) (hdg : decode cc pc = .ok (.putfield idx, 3)) (k : ∀ σ1, σ1 = qx_st σ f i j v → qx_V K G nL cells slots Q w σ1 (pc + 3) lv st) : qx_V K G nL cells slots Q w σ pc lv (.int v :: .ref (w.2.1 f i) :: st) := qx_puti X hF hm rfl rfl hdg (k _ rfl)
theorem qx_putz1 (X : qx_Ok K G t1 t2 cc own nL) {idx f i j : Nat} {v : Int32} (hF : qx_FP own idx f j .boolean) (hm : (f, i) ∈ w.1) (hz : qx_vz v) (hdg : decode cc pc = .ok (.putfield idx, 3)) (k : ∀ σ1, σ1 = qx_st σ f i j v → qx_V K G nL cells slots Q w σ1 (pc + 3) lv st) : qx_V K G nL cells slots Q w σ pc lv (.int v :: .ref (w.2.1 f i) :: st) := qx_puti X hF hm (qx_vz_n hz) (qx_vz_f hz) hdg (k _ rfl)
theorem qx_iast1 (X : qx_Ok K G t1 t2 cc own nL) {f i n : Nat} {x v : Int32} (hsh : qx_sh f = .inr (.inl (0, n))) (hm : (f, i) ∈ w.1) (hin : vp_in x n) (hdg : decode cc pc = .ok (.iastore, 1)) (k : ∀ σ1, σ1 = qx_st σ f i x.toNatClampNeg v → qx_V K G nL cells slots Q w σ1 (pc + 1) lv st) : qx_V K G nL cells slots Q w σ pc lv (.int v :: .int x :: .ref (w.2.1 f i) :: st) := qx_iast X hsh hm hin hdg (k _ rfl)
theorem qx_zast1 (X : qx_Ok K G t1 t2 cc own nL) {f i n : Nat} {x v : Int32} (hsh : qx_sh f = .inr (.inl (1, n))) (hm : (f, i) ∈ w.1) (hin : vp_in x n) (hdg : decode cc pc = .ok (.bastore, 1)) (k : ∀ σ1, σ1 = qx_st σ f i x.toNatClampNeg (vp_nar .boolean v) → qx_V K G nL cells slots Q w σ1 (pc + 1) lv st) : qx_V K G nL cells slots Q w σ pc lv (.int v :: .int x :: .ref (w.2.1 f i) :: st) := qx_zast X hsh hm hin hdg (k _ rfl)
theorem qx_copy1 (X : qx_Ok K G t1 t2 cc own nL) {idx f i n f' i' n' : Nat} {sp dp n0 : Int32} (hl' : Cond.methodLink own idx arraycopyName ∈ qx_BW) (hsh : qx_sh f = .inr (.inl (0, n))) (hm : (f, i) ∈ w.1) (hsh' : qx_sh f' = .inr (.inl (0, n'))) (hm' : (f', i') ∈ w.1) (h1 : ¬ sp < 0) (h2 : ¬ dp < 0) (h3 : ¬ n0 < 0) (h4 : sp.toNatClampNeg + n0.toNatClampNeg ≤ n) (h5 : dp.toNatClampNeg + n0.toNatClampNeg ≤ n')
    (hfr : 1 ≤ K.2.2.2.1.frames) (hlo : (st.map fun v => v.category).sum + (nativeFrameWords "java/lang/System" "arraycopy" 5 + 11) ≤ K.2.2.2.1.locals) (hdg : decode cc pc = .ok (.invokestatic idx, 3)) (k : ∀ σ1, σ1 = qx_sa σ f' i' (va_cpy (σ f i) (σ f' i') sp.toNatClampNeg dp.toNatClampNeg n0.toNatClampNeg) → qx_V K G nL cells slots Q w σ1 (pc + 3) lv st) : qx_V K G nL cells slots Q w σ pc lv (.int n0 :: .int dp :: .ref (w.2.1 f' i') :: .int sp :: .ref (w.2.1 f i) :: st) := qx_copy X hl' hsh hm hsh' hm' h1 h2 h3 h4 h5 hfr hlo hdg (k _ rfl)
end QXR
theorem qx_me0 {ad : Nat → Nat → Nat} : (0, 0) ∈ (qx_w0 ad).1 := qx_cells_mem (by decide) (by decide)
theorem qx_me1 {ad : Nat → Nat → Nat} : (1, 0) ∈ (qx_w0 ad).1 := qx_cells_mem (by decide) (by decide)
theorem qx_me2 {ad : Nat → Nat → Nat} : (2, 0) ∈ (qx_w0 ad).1 := qx_cells_mem (by decide) (by decide)
theorem qx_me3 {ad : Nat → Nat → Nat} : (3, 0) ∈ (qx_w0 ad).1 := qx_cells_mem (by decide) (by decide)
theorem qx_me4 {ad : Nat → Nat → Nat} : (4, 0) ∈ (qx_w0 ad).1 := qx_cells_mem (by decide) (by decide)
theorem qx_me5 {ad : Nat → Nat → Nat} : (5, 0) ∈ (qx_w0 ad).1 := qx_cells_mem (by decide) (by decide)
theorem qx_me6 {ad : Nat → Nat → Nat} : (6, 0) ∈ (qx_w0 ad).1 := qx_cells_mem (by decide) (by decide)
theorem qx_me7 {ad : Nat → Nat → Nat} : (7, 0) ∈ (qx_w0 ad).1 := qx_cells_mem (by decide) (by decide)
theorem qx_me8 {ad : Nat → Nat → Nat} : (8, 0) ∈ (qx_w0 ad).1 := qx_cells_mem (by decide) (by decide)
theorem qx_me9 {ad : Nat → Nat → Nat} : (9, 0) ∈ (qx_w0 ad).1 := qx_cells_mem (by decide) (by decide)
theorem qx_me10 {ad : Nat → Nat → Nat} : (10, 0) ∈ (qx_w0 ad).1 := qx_cells_mem (by decide) (by decide)
theorem qx_me11 {ad : Nat → Nat → Nat} : (11, 0) ∈ (qx_w0 ad).1 := qx_cells_mem (by decide) (by decide)
theorem qx_me12 {ad : Nat → Nat → Nat} {i : Nat} (h : i < 8) : (12, i) ∈ (qx_w0 ad).1 := qx_cells_mem (by decide) h
theorem qx_me13 {ad : Nat → Nat → Nat} {i : Nat} (h : i < 8) : (13, i) ∈ (qx_w0 ad).1 := qx_cells_mem (by decide) h
theorem qx_me14 {ad : Nat → Nat → Nat} {i : Nat} (h : i < 8) : (14, i) ∈ (qx_w0 ad).1 := qx_cells_mem (by decide) h
theorem qx_me15 {ad : Nat → Nat → Nat} {i : Nat} (h : i < 8) : (15, i) ∈ (qx_w0 ad).1 := qx_cells_mem (by decide) h
theorem qx_me16 {ad : Nat → Nat → Nat} {i : Nat} (h : i < 8) : (16, i) ∈ (qx_w0 ad).1 := qx_cells_mem (by decide) h
theorem qx_me17 {ad : Nat → Nat → Nat} {i : Nat} (h : i < 32) : (17, i) ∈ (qx_w0 ad).1 := qx_cells_mem (by decide) h
theorem qx_me18 {ad : Nat → Nat → Nat} {i : Nat} (h : i < 32) : (18, i) ∈ (qx_w0 ad).1 := qx_cells_mem (by decide) h
theorem qx_me19 {ad : Nat → Nat → Nat} {i : Nat} (h : i < 32) : (19, i) ∈ (qx_w0 ad).1 := qx_cells_mem (by decide) h
theorem qx_me20 {ad : Nat → Nat → Nat} {i : Nat} (h : i < 32) : (20, i) ∈ (qx_w0 ad).1 := qx_cells_mem (by decide) h
theorem qx_me30 {ad : Nat → Nat → Nat} : (30, 0) ∈ (qx_w0 ad).1 := qx_cells_mem (by decide) (by decide)
theorem qx_me31 {ad : Nat → Nat → Nat} : (31, 0) ∈ (qx_w0 ad).1 := qx_cells_mem (by decide) (by decide)
theorem qx_me32 {ad : Nat → Nat → Nat} : (32, 0) ∈ (qx_w0 ad).1 := qx_cells_mem (by decide) (by decide)
theorem qx_me33 {ad : Nat → Nat → Nat} : (33, 0) ∈ (qx_w0 ad).1 := qx_cells_mem (by decide) (by decide)
theorem qx_me34 {ad : Nat → Nat → Nat} : (34, 0) ∈ (qx_w0 ad).1 := qx_cells_mem (by decide) (by decide)
theorem qx_me35 {ad : Nat → Nat → Nat} : (35, 0) ∈ (qx_w0 ad).1 := qx_cells_mem (by decide) (by decide)
theorem qx_me36 {ad : Nat → Nat → Nat} : (36, 0) ∈ (qx_w0 ad).1 := qx_cells_mem (by decide) (by decide)
theorem qx_me37 {ad : Nat → Nat → Nat} : (37, 0) ∈ (qx_w0 ad).1 := qx_cells_mem (by decide) (by decide)
theorem qx_me38 {ad : Nat → Nat → Nat} : (38, 0) ∈ (qx_w0 ad).1 := qx_cells_mem (by decide) (by decide)
theorem qx_me39 {ad : Nat → Nat → Nat} : (39, 0) ∈ (qx_w0 ad).1 := qx_cells_mem (by decide) (by decide)
theorem qx_me40 {ad : Nat → Nat → Nat} : (40, 0) ∈ (qx_w0 ad).1 := qx_cells_mem (by decide) (by decide)
theorem qx_me41 {ad : Nat → Nat → Nat} : (41, 0) ∈ (qx_w0 ad).1 := qx_cells_mem (by decide) (by decide)
theorem qx_me42 {ad : Nat → Nat → Nat} : (42, 0) ∈ (qx_w0 ad).1 := qx_cells_mem (by decide) (by decide)
theorem qx_me43 {ad : Nat → Nat → Nat} : (43, 0) ∈ (qx_w0 ad).1 := qx_cells_mem (by decide) (by decide)
theorem qx_me44 {ad : Nat → Nat → Nat} : (44, 0) ∈ (qx_w0 ad).1 := qx_cells_mem (by decide) (by decide)
theorem qx_me45 {ad : Nat → Nat → Nat} : (45, 0) ∈ (qx_w0 ad).1 := qx_cells_mem (by decide) (by decide)
theorem qx_me46 {ad : Nat → Nat → Nat} : (46, 0) ∈ (qx_w0 ad).1 := qx_cells_mem (by decide) (by decide)
theorem qx_me47 {ad : Nat → Nat → Nat} : (47, 0) ∈ (qx_w0 ad).1 := qx_cells_mem (by decide) (by decide)
theorem qx_me48 {ad : Nat → Nat → Nat} : (48, 0) ∈ (qx_w0 ad).1 := qx_cells_mem (by decide) (by decide)
theorem qx_me49 {ad : Nat → Nat → Nat} : (49, 0) ∈ (qx_w0 ad).1 := qx_cells_mem (by decide) (by decide)
theorem qx_me50 {ad : Nat → Nat → Nat} : (50, 0) ∈ (qx_w0 ad).1 := qx_cells_mem (by decide) (by decide)
theorem qx_me51 {ad : Nat → Nat → Nat} : (51, 0) ∈ (qx_w0 ad).1 := qx_cells_mem (by decide) (by decide)
theorem qx_me52 {ad : Nat → Nat → Nat} : (52, 0) ∈ (qx_w0 ad).1 := qx_cells_mem (by decide) (by decide)
theorem qx_me53 {ad : Nat → Nat → Nat} : (53, 0) ∈ (qx_w0 ad).1 := qx_cells_mem (by decide) (by decide)
theorem qx_me54 {ad : Nat → Nat → Nat} : (54, 0) ∈ (qx_w0 ad).1 := qx_cells_mem (by decide) (by decide)
theorem qx_me55 {ad : Nat → Nat → Nat} : (55, 0) ∈ (qx_w0 ad).1 := qx_cells_mem (by decide) (by decide)
theorem qx_me56 {ad : Nat → Nat → Nat} : (56, 0) ∈ (qx_w0 ad).1 := qx_cells_mem (by decide) (by decide)
theorem qx_me57 {ad : Nat → Nat → Nat} : (57, 0) ∈ (qx_w0 ad).1 := qx_cells_mem (by decide) (by decide)
theorem qx_me58 {ad : Nat → Nat → Nat} : (58, 0) ∈ (qx_w0 ad).1 := qx_cells_mem (by decide) (by decide)
theorem qx_me59 {ad : Nat → Nat → Nat} : (59, 0) ∈ (qx_w0 ad).1 := qx_cells_mem (by decide) (by decide)
theorem qx_me60 {ad : Nat → Nat → Nat} : (60, 0) ∈ (qx_w0 ad).1 := qx_cells_mem (by decide) (by decide)
theorem qx_me61 {ad : Nat → Nat → Nat} : (61, 0) ∈ (qx_w0 ad).1 := qx_cells_mem (by decide) (by decide)
theorem qx_me62 {ad : Nat → Nat → Nat} : (62, 0) ∈ (qx_w0 ad).1 := qx_cells_mem (by decide) (by decide)
theorem qx_me63 {ad : Nat → Nat → Nat} : (63, 0) ∈ (qx_w0 ad).1 := qx_cells_mem (by decide) (by decide)
theorem qx_me64 {ad : Nat → Nat → Nat} : (64, 0) ∈ (qx_w0 ad).1 := qx_cells_mem (by decide) (by decide)
theorem qx_me65 {ad : Nat → Nat → Nat} : (65, 0) ∈ (qx_w0 ad).1 := qx_cells_mem (by decide) (by decide)
theorem qx_rc12 : qx_RC 12 RX1 := ⟨_, _, _, _, rfl, rfl⟩
theorem qx_rc9 : qx_RC 9 RX2 := ⟨_, _, _, _, rfl, rfl⟩
theorem qx_rc17 : qx_RC 17 RX3 := ⟨_, _, _, _, rfl, rfl⟩
theorem qx_rc1 : qx_RC 1 RX4 := ⟨_, _, _, _, rfl, rfl⟩
theorem qx_rc7 : qx_RC 7 RX5 := ⟨_, _, _, _, rfl, rfl⟩
theorem qx_rc14 : qx_RC 14 RX6 := ⟨_, _, _, _, rfl, rfl⟩
theorem qx_rc3 : qx_RC 3 RX8 := ⟨_, _, _, _, rfl, rfl⟩
theorem qx_rc0 : qx_RC 0 RX9 := ⟨_, _, _, _, rfl, rfl⟩
theorem qx_rc30 : qx_RC 30 RX10 := ⟨_, _, _, _, rfl, rfl⟩
set_option maxRecDepth 100000 in
theorem qx_sfTAKES : Cond.fieldLink RX0 15 RX0 "TAKES" "[I" ∈ qx_BW := qx_in (i := 412) rfl rfl
set_option maxRecDepth 100000 in
theorem qx_sfPUTS : Cond.fieldLink RX0 19 RX0 "PUTS" "[I" ∈ qx_BW := qx_in (i := 414) rfl rfl
