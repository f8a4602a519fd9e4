/-! a frame is entered -/
def bG (d c m L : Nat) (arg v cal rd : Int32) (x : qx_St) : Prop := x 12 d 1 = nI 0 ∧ x 12 d 2 = nI c ∧ x 12 d 3 = nI m ∧ x 12 d 4 = arg ∧ x 12 d 5 = v ∧ x 12 d 6 = cal ∧ x 12 d 7 = rd ∧ x 12 d 8 = nI L ∧ x 12 d 9 = nI L ∧ x 12 d 10 = nI 0 ∧ x 12 d 11 = 0 ∧ x 12 d 12 = 0 ∧ x 12 d 13 = 0
def pC (n pay : Nat) (cal : Int32) : Prop := (pay < n ∧ cal = nI pay) ∨ ∃ u, u < 4 ∧ pay = 8 + u ∧ cal = nI (100 + u)
def mx (a b : Nat) : Nat := if a < b then b else a
def xRep (e dp d : Nat) (x : qx_St) : qx_St := qx_st (qx_st x 7 0 7 (nI (mx dp (d + 1)))) 7 0 6 (nI (e + 1))
def xKeep (d : Nat) (x : qx_St) : qx_St := qx_st (qx_st (qx_sa (qx_sa x 15 d (va_cpy (x 4 0) (x 15 d) 0 0 64)) 16 d (va_cpy (x 5 0) (x 16 d) 0 0 13)) 14 d 2 (x 3 0 3)) 14 d 3 (x 3 0 4)
def xMove (a b : Nat) (v : Int32) (x : qx_St) : qx_St := qx_st (qx_st x 5 0 a (x 5 0 a - v)) 5 0 b (qx_st x 5 0 a (x 5 0 a - v) 5 0 b + v)
theorem xRep_f {e dp d f : Nat} {x : qx_St} (h : f ≠ 7) : xRep e dp d x f = x f := by unfold xRep; rw [qp_st_f h, qp_st_f h]
theorem xKeep_f {d f : Nat} {x : qx_St} (h : f ≠ 14 ∧ f ≠ 15 ∧ f ≠ 16) : xKeep d x f = x f := by unfold xKeep; rw [qp_st_f h.1, qp_st_f h.1, qp_sa_f h.2.2, qp_sa_f h.2.1]
theorem xKeep_i {d f k : Nat} {x : qx_St} (h : k ≠ d) : xKeep d x f k = x f k := by
  unfold xKeep
  by_cases h14 : f = 14
  · subst h14
    rw [qp_st_i h, qp_st_i h, qp_sa_f (by decide), qp_sa_f (by decide)]
  · rw [qp_st_f h14, qp_st_f h14]
    by_cases h16 : f = 16
    · subst h16
      rw [qp_sa_i h, qp_sa_f (by decide)]
    · rw [qp_sa_f h16]
      by_cases h15 : f = 15
      · subst h15
        rw [qp_sa_i h]
      · rw [qp_sa_f h15]
theorem xMove_f {a b f : Nat} {v : Int32} {x : qx_St} (h : f ≠ 5) : xMove a b v x f = x f := by unfold xMove; rw [qp_st_f h, qp_st_f h]
theorem yHold_f {d f : Nat} {y : qx_St} (h : f ≠ 51 ∧ f ≠ 52 ∧ f ≠ 53 ∧ f ≠ 54 ∧ f ≠ 55) : yHold d y f = y f := by unfold yHold; rw [qp_st_f h.2.2.2.2, qp_st_f h.2.2.2.1, qp_sa_f h.2.1, qp_sa_f h.2.2.1, qp_sa_f h.1]
def yArr (d e L : Nat) (mem arg v cal how rd : Int32) (y : qx_St) : qx_St := qx_st (qx_st (qx_st (qx_st (qx_st (qx_st (qx_st (qx_st (qx_st (qx_st (qx_st (yHold d y) 39 0 d mem) 40 0 d arg) 41 0 d v) 42 0 d cal) 43 0 d (nI L)) 44 0 d (nI 0)) 45 0 d (nI 0)) 46 0 d (nI 0)) 47 0 d how) 49 0 d rd) 48 0 d (nI e)
def yPay (n c pay : Nat) (v : Int32) (y : qx_St) : qx_St := if pay < n then qx_st (qx_st y 32 0 c (y 32 0 c + v)) 32 0 pay (qx_st y 32 0 c (y 32 0 c + v) 32 0 pay - v) else qx_st (qx_st y 32 0 c (y 32 0 c + v)) 31 0 (pay - 8) (y 31 0 (pay - 8) - v)
def yRec (d e dp : Nat) (mem rd : Int32) (y : qx_St) : qx_St := qx_st (if e < 40 then qx_st (qx_st (qx_st (qx_st (qx_st y 30 0 12 (nI (d + 1))) 30 0 37 (nI (mx dp (d + 1)))) 60 0 e mem) 61 0 e (nI (d + 1))) 65 0 e rd else qx_st (qx_st y 30 0 12 (nI (d + 1))) 30 0 37 (nI (mx dp (d + 1)))) 30 0 36 (nI (e + 1))
def yEnt (n d e dp L c m pay : Nat) (arg v cal how rd : Int32) (y : qx_St) : qx_St := yRec d e dp (nI (4 * c + m)) rd (yPay n c pay v (yArr d e L (nI (4 * c + m)) arg v cal how rd y))
theorem yArr_f {d e L f : Nat} {mem arg v cal how rd : Int32} {y : qx_St} (h : f < 39 ∨ 55 < f ∨ f = 50) : yArr d e L mem arg v cal how rd y f = y f := by
  unfold yArr
  rw [qp_st_f (by omega), qp_st_f (by omega), qp_st_f (by omega), qp_st_f (by omega), qp_st_f (by omega), qp_st_f (by omega), qp_st_f (by omega), qp_st_f (by omega), qp_st_f (by omega), qp_st_f (by omega), qp_st_f (by omega), yHold_f (by omega)]
theorem nar_vz {rd : Int32} (h : qx_vz rd) : vp_nar .boolean rd = rd := by rcases h with rfl | rfl <;> rfl
theorem m_enter {n d e dp L c m pay : Nat} {arg v cal how rd : Int32} {y : qx_St} {post : qx_St → Prop} (hd : d < 8) (n8 : n ≤ 8) (cn : c < n) (m4 : m < 4) (hpay : pC n pay cal) (hrd : qx_vz rd) (he : e < 2000) (hdp : dp ≤ 8) (g12 : y 30 0 12 = nI d) (g36 : y 30 0 36 = nI e) (g37 : y 30 0 37 = nI dp) (hp : post (yEnt n d e dp L c m pay arg v cal how rd y)) : wX10_enter (nI (4 * c + m)) arg v cal (nI L) how rd y post := by
  have ed : nI (4 * c + m) / nI 4 = nI c := by rw [pk_div (by omega) (by omega) (by omega)]; congr 1; omega
  unfold wX10_enter
  rw [g12]
  refine m_hold hd ?_
  -- behind the coins
  have fin : ∀ y1 : qx_St, y1 30 = y 30 → post (yRec d e dp (nI (4 * c + m)) rd y1) → ∀ a2 a3 a4 a5 a6 a8 : Int32, wX10_enter_j154 (nI (4 * c + m)) arg v cal (nI L) how rd post (nI (4 * c + m)) a2 a3 a4 a5 a6 rd a8 y1 := by
    intro y1 h30 hq a2 a3 a4 a5 a6 a8
    have g12' : y1 30 0 12 = nI d := by rw [h30]; exact g12
    have g36' : y1 30 0 36 = nI e := by rw [h30]; exact g36
    have g37' : y1 30 0 37 = nI dp := by rw [h30]; exact g37
    have last : ∀ b0 : Int32, b0 = nI (mx dp (d + 1)) → wX10_enter_j187 (nI (4 * c + m)) arg v cal (nI L) how rd post (nI (4 * c + m)) a2 a3 a4 a5 a6 rd a8 b0 (qx_st y1 30 0 12 (nI (d + 1))) := by
      rintro b0 rfl
      unfold yRec at hq
      by_cases h40 : e < 40
      · have h40' : ¬ 40 ≤ e := by omega
        rw [if_pos h40] at hq
        simp (disch := first | decide | omega) only [wX10_enter_j187, qp_fe, qp_st_j, qp_st_f, qp_st_ff, g36', qp_l, nI_add, qp_le, h40', true_imp_iff, false_imp_iff, not_false_iff, true_and, qp_in, nI_clamp, nar_vz hrd]
        exact hq
      · have h40' : 40 ≤ e := by omega
        rw [if_neg h40] at hq
        simp (disch := first | decide | omega) only [wX10_enter_j187, qp_fe, qp_st_j, qp_st_f, qp_st_ff, g36', qp_l, nI_add, qp_le, h40', true_imp_iff, false_imp_iff, not_true, and_true]
        exact hq
    simp (disch := first | decide | omega) only [wX10_enter_j154, qp_fe, g12', qp_l, nI_add, qp_st_ff, qp_st_j, g37', qp_le]
    refine ⟨fun h => last _ (by unfold mx; rw [if_neg (by omega)]), fun h => last _ (by unfold mx; rw [if_pos (by omega)])⟩
  have hA : ∀ f, (f < 39 ∨ 55 < f ∨ f = 50) → yArr d e L (nI (4 * c + m)) arg v cal how rd y f = y f := fun f h => yArr_f h
  have key : ∀ post' : qx_St → Prop, post' (yArr d e L (nI (4 * c + m)) arg v cal how rd y) → True := fun _ _ => trivial
  simp (disch := first | decide | omega) only [qp_l, qp_in, nI_clamp, qp_fe, true_and, nar_vz hrd, qp_st_f, yHold_f, g36, ed]
  have eA : qx_st (qx_st (qx_st (qx_st (qx_st (qx_st (qx_st (qx_st (qx_st (qx_st (qx_st (yHold d y) 39 0 d (nI (4 * c + m))) 40 0 d arg) 41 0 d v) 42 0 d cal) 43 0 d (nI L)) 44 0 d (nI 0)) 45 0 d (nI 0)) 46 0 d (nI 0)) 47 0 d how) 49 0 d rd) 48 0 d (nI e) = yArr d e L (nI (4 * c + m)) arg v cal how rd y := rfl
  rw [eA]
  have e32 : y 32 0 c = yArr d e L (nI (4 * c + m)) arg v cal how rd y 32 0 c := by rw [hA 32 (by omega)]
  have e31 : ∀ q, y 31 0 q = yArr d e L (nI (4 * c + m)) arg v cal how rd y 31 0 q := fun q => by rw [hA 31 (by omega)]
  have h30 : yArr d e L (nI (4 * c + m)) arg v cal how rd y 30 = y 30 := hA 30 (by omega)
  unfold yEnt at hp
  rcases hpay with ⟨h1, rfl⟩ | ⟨u, hu, rfl, rfl⟩
  · have h2 : pay < 100 := by omega
    simp (disch := first | decide | omega) only [qp_lt, h2, true_imp_iff, not_true, false_imp_iff, and_true, qp_in, nI_clamp, true_and]
    refine fin _ (by rw [qp_st_f (by decide), qp_st_f (by decide)]; exact h30) ?_ _ _ _ _ _ _
    unfold yPay at hp
    rw [if_pos h1, ← e32] at hp
    exact hp
  · have h2 : ¬ 100 + u < 100 := by omega
    have e5 : nI (100 + u) - nI 100 = nI u := by rw [pk_sub (by omega)]; congr 1; omega
    have e6 : 8 + u - 8 = u := by omega
    simp (disch := first | decide | omega) only [qp_lt, h2, true_imp_iff, not_false_iff, false_imp_iff, true_and, e5, qp_in, nI_clamp]
    refine fin _ (by rw [qp_st_f (by decide), qp_st_f (by decide)]; exact h30) ?_ _ _ _ _ _ _
    unfold yPay at hp
    rw [if_neg (by omega), e6, ← e32, ← e31 u] at hp
    exact hp
theorem x_run {rf : Int32 → Int32 → qx_St → (qx_St → Prop) → Prop} {d e dp c m pay : Nat} {v : Int32} {x : qx_St} {post : qx_St → Prop} (hd : d < 8) (c8 : c < 8) (m4 : m < 4) (hpay : pay < 12) (he : e < 2000) (hdp : dp ≤ 8) (g2 : x 12 d 2 = nI c) (g3 : x 12 d 3 = nI m) (g5 : x 12 d 5 = v) (g6 : x 7 0 6 = nI e) (g7 : x 7 0 7 = nI dp)
    (hw : ∃ k, wX2_runFrame_l74 rf (nI pay) (nI (d + 1)) post k (nI pay) (nI (d + 1)) d (4 * c + m) d (nI e) (nI 0) (xMove pay c v (xKeep d (xRep e dp d x)))) : wX2_runFrame rf (nI pay) (nI (d + 1)) x post := by
  have e1 : nI (d + 1) - nI 1 = nI d := nI_pred d
  have e2 : c * 4 + m = 4 * c + m := by omega
  have e3 : (if nI dp < nI (d + 1) then nI (d + 1) else nI dp) = nI (mx dp (d + 1)) := by
    unfold mx
    by_cases h : dp < d + 1
    · rw [if_pos ((nI_ltI (by omega) (by omega)).mpr h), if_pos h]
    · rw [if_neg (fun q => h ((nI_ltI (by omega) (by omega)).mp q)), if_neg h]
  have h32 : 4 * c + m < 32 := by omega
  have ee : nI (e + 1) - nI 1 = nI e := nI_pred e
  have c0 : (nI 0).toNatClampNeg = 0 := rfl
  have c64 : (nI 64).toNatClampNeg = 64 := rfl
  have c13 : (nI 13).toNatClampNeg = 13 := rfl
  simp (disch := first | decide | omega) only [wX2_runFrame, wX4_memberOf, wX5_enter, wX6_keep, wX8_move, qp_l, e1, qp_in, nI_clamp, g2, g3, g6, g7, e3, pk_mul, nI_add, e2, h32, true_and, qp_fe, qp_st_j, qp_st_f, qp_st_ff, qp_sa_f, c0, c64, c13, ee, g5]
  exact hw
