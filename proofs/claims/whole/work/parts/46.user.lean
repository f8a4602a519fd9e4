/-! a user's call: the class's way around the first frame, and the reference's -/
def QR (A B : qx_St → (Int32 → qx_St → Prop) → Prop) (s : qx_St) : Prop := ∃ (r : Int32) (s1 : qx_St), (∀ post : Int32 → qx_St → Prop, post r s1 → A s post) ∧ ∀ post : Int32 → qx_St → Prop, (∀ s2, RX s2 → post r s2) → B s1 post
theorem QQ.r {A B : qx_St → (Int32 → qx_St → Prop) → Prop} {s : qx_St} (h : QQ A B s) : QR A B s := by
  obtain ⟨r, s1, s2, a, b, c⟩ := h
  exact ⟨r, s1, a, fun post hp => b post (hp s2 c)⟩
def xStart (s : qx_St) : qx_St := qx_st (qx_st (qx_st (qx_st s 3 0 3 (nI 0)) 3 0 4 (nI 0)) 7 0 6 (nI 0)) 7 0 7 (nI 0)
def yStart (s : qx_St) : qx_St := qx_st (qx_st (qx_st (qx_st (qx_st (qx_st s 30 0 12 (nI 0)) 30 0 36 (nI 0)) 30 0 37 (nI 0)) 30 0 30 (nI 0)) 30 0 35 (nI 0)) 30 0 44 (nI 1)
def xTail (u : Nat) (post : qx_St → Prop) (s12 : qx_St) : Prop := wX1_used 0 s12 (fun r15 s14 => wX1_used 0 s14 (fun r17 s16 => wX8_move (nI (8 + u)) (nI 12) (r17 - (if (r15 / nI 2) < (s12 3 0 4) then (r15 / nI 2) else (s12 3 0 4))) s16 (fun s18 => wX5_endCall 0 (if (r15 / nI 2) < (s12 3 0 4) then (r15 / nI 2) else (s12 3 0 4)) s18 (fun s20 => post s20))))
theorem x_user {u c m L v : Nat} {arg : Int32} {s : qx_St} {post : qx_St → Prop} (h : wRF 8 (nI (8 + u)) (nI 1) (xS 0 c m L arg (nI v) (nI (100 + u)) (nI 0) (xStart s)) (xTail u post)) : wX2_runForUser (nI u) (nI c) (nI m) arg (nI v) (nI L) s post := by
  unfold xS xStart xTail at h
  simp (disch := first | decide | omega) only [wX2_runForUser, wX8_startCall, wX5_startCall, wX1_begin, qp_fe, qp_l, qp_in, nI_clamp, nI_add, true_and]
  exact h
def xEnd (u : Nat) (a back r2 r3 r4 : Int32) (j : Nat) (x : qx_St) : qx_St := qx_st (qx_st (qx_st (qx_st (qx_st (qx_st (qx_st (qx_st x 5 0 (8 + u) (x 5 0 (8 + u) - a)) 5 0 12 (x 5 0 12 + a)) 7 0 1 (nI 1)) 7 0 2 r2) 7 0 3 r3) 7 0 4 r4) 7 0 5 back) 7 0 j (x 7 0 j + nI 1)
theorem x_tail {u L uu : Nat} {back t g : Int32} {x : qx_St} {post : qx_St → Prop} (hu : u < 4) (h8 : x 12 0 8 = nI L) (h9 : x 12 0 9 = nI (L - uu)) (huu : uu ≤ L) (hL : L ≤ 1000) (hb : (if nI (uu / 2) < x 3 0 4 then nI (uu / 2) else x 3 0 4) = back) (hD : rD 0 t g x) (hp : (t = 0 → post (xEnd u (nI uu - back) back (nI 0) g (nI uu) 8 x)) ∧ (¬ t = 0 → post (xEnd u (nI uu - back) back (nI 1) t (nI uu) 9 x))) : xTail u post x := by
  obtain ⟨d11, d12, d13, d14⟩ := hD
  have eL : L - (L - uu) = uu := by omega
  unfold xEnd at hp
  simp (disch := first | decide | omega) only [xTail, wX1_used, h8, h9, pk_sub, eL, pk_div, hb, wX8_move, qp_in, nI_clamp, true_and, qp_fe, qp_st_j, wX5_endCall, wX1_hasThrown, qp_st_f, d12]
  have v0 : qx_vz (nI 0) := Or.inl rfl
  have v1 : qx_vz (nI 1) := Or.inr rfl
  refine ⟨fun ht => ⟨v0, ?_⟩, fun ht => ⟨v1, ?_⟩⟩
  · have hp := hp.1 ht
    simp (disch := first | decide | omega) only [qp_l, qp_st_ff, wX5_endCall_j32, qp_fe, wX1_used, qp_st_f, qp_st_j, h8, h9, pk_sub, eL, d13 ht, true_imp_iff, not_true, false_imp_iff, and_true]
    exact hp
  · have hp := hp.2 ht
    have n1 : ¬ nI 1 = nI 0 := by decide
    simp (disch := first | decide | omega) only [qp_l, qp_st_ff, wX5_endCall_j32, qp_fe, wX1_used, qp_st_f, qp_st_j, h8, h9, pk_sub, eL, d12, n1, true_imp_iff, not_false_iff, false_imp_iff, true_and]
    exact hp
def yEnd (u : Nat) (a back r45 t r46 c10 c11 : Int32) (y : qx_St) : qx_St := qx_st (qx_st (qx_st (qx_st (qx_st (qx_st (qx_st (qx_st y 30 0 46 r46) 30 0 48 t) 30 0 45 r45) 30 0 47 back) 31 0 u (y 31 0 u - a)) 30 0 3 (y 30 0 3 + a)) 30 0 10 (y 30 0 10 + c10)) 30 0 11 (y 30 0 11 + c11)
theorem m_tail {u uu : Nat} {p1 p2 p3 p4 p5 p6 b2 b3 b4 b5 b6 a7 back t g : Int32} {q : Int32 → Int32 → Int32 → Int32 → Int32 → qx_St → Prop} {y : qx_St} {post : Int32 → qx_St → Prop} (hu : u < 4) (h44 : y 44 0 0 = nI uu) (h12 : y 30 0 12 = nI 0) (huu : uu ≤ 1000) (hb : (if nI (uu / 2) < y 30 0 35 then nI (uu / 2) else y 30 0 35) = back) (hp : (t = 0 → post 1 (yEnd u (nI uu - back) back g t (nI uu) (nI 1) (nI 0) y)) ∧ (¬ t = 0 → post 0 (yEnd u (nI uu - back) back t t (nI uu) (nI 0) (nI 1) y))) : wX10_ends_j94 t g (fun s => wX10_call_l137 p1 p2 p3 p4 p5 p6 post 1 (nI u) b2 b3 b4 b5 b6 s) q t g t g 1 (nI 0) a7 y := by
  have hb' : ∀ Q : Int32 → Prop, Q back → (nI (uu / 2) ≤ y 30 0 35 → Q (nI (uu / 2))) ∧ (¬ nI (uu / 2) ≤ y 30 0 35 → Q (y 30 0 35)) := by
    intro Q hQ
    by_cases h : nI (uu / 2) < y 30 0 35
    · rw [if_pos h] at hb
      subst hb
      exact ⟨fun _ => hQ, fun h2 => absurd (Int32.le_of_lt h) h2⟩
    · rw [if_neg h] at hb
      subst hb
      refine ⟨fun h2 => ?_, fun _ => hQ⟩
      have h3 : nI (uu / 2) = y 30 0 35 := Int32.le_antisymm h2 (Int32.not_lt.mp h)
      rw [h3]
      exact hQ
  unfold yEnd at hp
  have e0 : (nI 0 : Int32) ≤ nI 0 := by decide
  unfold wX10_ends_j94
  refine ⟨fun _ => ?_, fun h => absurd rfl h⟩
  simp (disch := first | decide | omega) only [qp_fe, qp_l, nI_clamp, h44]
  refine ⟨fun ht => ?_, fun ht => ?_⟩
  · have hp := hp.1 ht
    subst ht
    simp (disch := first | decide | omega) only [wX10_call_l137, qp_l, qp_st_j, qp_st_ff, h12, e0, pk_div, true_imp_iff, not_true, false_imp_iff, and_true]
    refine hb' (fun w => wX10_call_j178 p1 p2 p3 p4 p5 p6 post (nI u) b2 b3 b4 b5 b6 w _) ?_
    simp (disch := first | decide | omega) only [wX10_call_j178, wX10_call_j234, qp_fe, qp_in, nI_clamp, true_and, qp_l, qp_st_f, qp_st_j, qp_st_ff, true_imp_iff, not_true, false_imp_iff, and_true]
    exact hp
  · have hp := hp.2 ht
    have ht' : ¬ t = nI 0 := ht
    simp (disch := first | decide | omega) only [wX10_call_l137, qp_l, qp_st_j, qp_st_ff, h12, e0, pk_div, true_imp_iff, not_true, false_imp_iff, and_true]
    refine hb' (fun w => wX10_call_j178 p1 p2 p3 p4 p5 p6 post (nI u) b2 b3 b4 b5 b6 w _) ?_
    simp (disch := first | decide | omega) only [wX10_call_j178, wX10_call_j234, qp_fe, qp_in, nI_clamp, true_and, qp_l, qp_st_f, qp_st_j, qp_st_ff, ht', true_imp_iff, not_false_iff, false_imp_iff]
    exact hp
