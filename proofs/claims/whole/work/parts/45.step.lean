/-! step, empty, guard -/
def nM (p1 p2 : Int32) (post : Int32 → qx_St → Prop) (body : qx_St → Prop) (σ : qx_St) : Prop := wX10_noContract p1 σ (fun r2 s1 => ((r2 = 0 → wX10_in p2 (0 : Int32) (3 : Int32) s1 (fun r4 s3 => ((r4 = 0 → post (-102 : Int32) s3) ∧ (¬ (r4 = 0) → body s3)))) ∧ (¬ (r2 = 0) → post (-101 : Int32) s1)))
theorem rmem (p1 p2 : Int32) {n : Nat} (n8 : n ≤ 8) : (∃ k m, k < n ∧ m < 4 ∧ p1 = nI k ∧ p2 = nI m ∧ (∀ (σ : qx_St) (post : Int32 → qx_St → Prop), σ 1 0 1 = nI n → post 0 σ → wX9_refusedMember p1 p2 σ post) ∧ (∀ (σ : qx_St) (post : Int32 → qx_St → Prop) (body : qx_St → Prop), σ 30 0 0 = nI n → body σ → nM p1 p2 post body σ)) ∨ ∃ r : Int32, ¬ r = 0 ∧ (∀ (σ : qx_St) (post : Int32 → qx_St → Prop), σ 1 0 1 = nI n → post r σ → wX9_refusedMember p1 p2 σ post) ∧ (∀ (σ : qx_St) (post : Int32 → qx_St → Prop) (body : qx_St → Prop), σ 30 0 0 = nI n → post r σ → nM p1 p2 post body σ) := by
  rcases ha p1 n n8 with ⟨⟨k, hk, rfl⟩, wa, wb⟩ | ⟨-, wa, wb⟩
  · rcases wi p2 0 3 (by omega) (by omega) with ⟨⟨m, -, hm, rfl⟩, w⟩ | ⟨-, w⟩
    · exact Or.inl ⟨k, m, hk, by omega, rfl, rfl, fun σ post h hp => wa _ _ h ⟨fun h => absurd h (by decide), fun _ => (w _ _ ⟨fun h => absurd h (by decide), fun _ => hp⟩).1⟩, fun σ post body h hp => wb _ _ h ⟨fun _ => (w _ _ ⟨fun h => absurd h (by decide), fun _ => hp⟩).2, fun h => absurd rfl h⟩⟩
    · exact Or.inr ⟨-102, by decide, fun σ post h hp => wa _ _ h ⟨fun h => absurd h (by decide), fun _ => (w _ _ ⟨fun _ => hp, fun h => absurd rfl h⟩).1⟩, fun σ post body h hp => wb _ _ h ⟨fun _ => (w _ _ ⟨fun _ => hp, fun h => absurd rfl h⟩).2, fun h => absurd rfl h⟩⟩
  · exact Or.inr ⟨-101, by decide, fun σ post h hp => wa _ _ h ⟨fun _ => hp, fun h => absurd rfl h⟩, fun σ post body h hp => wb _ _ h ⟨fun h => absurd h (by decide), fun _ => hp⟩⟩
theorem x_mem {k m : Nat} {σ : qx_St} {post : Nat → qx_St → Prop} (hk : k < 8) (hm : m < 4) (hp : post (4 * k + m) σ) : wX4_memberOf (nI k) (nI m) σ (fun r s => r < 32 ∧ post r s) := by
  unfold wX4_memberOf
  rw [show nI k * 4 + nI m = nI (4 * k + m) by rw [show (4 : Int32) = nI 4 from rfl, pk_mul, nI_add, Nat.mul_comm], nI_clamp (by omega)]
  exact ⟨vp_in_nI (by omega) (by omega), by omega, hp⟩
def xApp (i len : Nat) (c a b : Int32) (s : qx_St) : qx_St := qx_st (qx_st (qx_st (qx_st s 18 i len c) 19 i len a) 20 i len b) 17 i 3 (nI (len + 1))
def yApp (i len : Nat) (c a b : Int32) (s : qx_St) : qx_St := qx_st (qx_st (qx_st (qx_st s 36 0 (20 * i + len) c) 37 0 (20 * i + len) a) 38 0 (20 * i + len) b) 34 0 i (nI (len + 1))
theorem x_append {i len : Nat} {c a b : Int32} {s : qx_St} {post : qx_St → Prop} (h : s 17 i 3 = nI len) (hl : len < 20) (hp : post (xApp i len c a b s)) : wX3_append i c a b s post := by
  simp (disch := first | decide | omega) only [wX3_append, qp_fe, h, qp_in, nI_clamp, qp_st_f, true_and, qp_l, nI_add]
  exact hp
section QSTEP
variable {s : qx_St}
theorem q_step (p1 p2 p3 p4 p5 : Int32) (hR : RX s) : QQ (wX9_step p1 p2 p3 p4 p5) (wX10_step p1 p2 p3 p4 p5) s := by
  obtain ⟨n, ev, e, hP, hV, hQ⟩ := hR
  have hR : RX s := ⟨n, ev, e, hP, hV, hQ⟩
  obtain ⟨n8, P1, P2, P3, P4, P5⟩ := hP
  rcases rmem p1 p2 n8 with ⟨k, m, hk, hm, rfl, rfl, wa, wb⟩ | ⟨r, hr, wa, wb⟩
  · obtain ⟨r, wf, hok⟩ := fc p3 p4 p5
    by_cases hr : r = 0
    · exact ⟨-102, s, s, fun post hp => wa _ _ P1 ⟨fun _ => (wf _ _ ⟨fun _ => hp, fun h => absurd hr h⟩).1, fun h => absurd rfl h⟩, fun post hp => wb _ _ _ P2 (wf _ _ ⟨fun _ => hp, fun h => absurd hr h⟩).2, hR⟩
    · obtain ⟨cd, hcd, rfl, ok⟩ := hok hr
      obtain ⟨len, l20, e17, e34, P6⟩ := P3 (4 * k + m) (by omega)
      have ei : (4 : Int32) * nI k + nI m = nI (4 * k + m) := by rw [show (4 : Int32) = nI 4 from rfl, pk_mul, nI_add]
      generalize hi : 4 * k + m = i at *
      have i32 : i < 4 * n := by omega
      rcases Nat.lt_or_ge len 20 with hl | hl
      · have e30 : (xApp i len (nI cd) p4 p5 s) 30 0 0 = nI n := by
          unfold xApp
          simp (disch := decide) only [qp_st_f]
          exact P2
        have A : ∀ post : Int32 → qx_St → Prop, post (nI (len + 1)) (xApp i len (nI cd) p4 p5 s) → wX9_step (nI k) (nI m) (nI cd) p4 p5 s post := by
          intro post hp
          refine wa _ _ P1 ⟨fun _ => (wf _ _ ⟨fun h => absurd h hr, fun _ => x_mem (by omega) hm ?_⟩).1, fun h => absurd rfl h⟩
          rw [hi, e17]
          refine ⟨fun _ => x_append e17 hl ?_, fun h => absurd (nI_lt hl (by omega)) h⟩
          unfold xApp at hp ⊢
          rw [qp_st_ff]
          exact hp
        have B : ∀ post : Int32 → qx_St → Prop, post (nI (len + 1)) (yApp i len (nI cd) p4 p5 (xApp i len (nI cd) p4 p5 s)) → wX10_step (nI k) (nI m) (nI cd) p4 p5 (xApp i len (nI cd) p4 p5 s) post := by
          intro post hp
          refine wb _ _ _ e30 (wf _ _ ⟨fun h => absurd h hr, fun _ => ?_⟩).2
          have e34' : (xApp i len (nI cd) p4 p5 s) 34 0 i = nI len := by
            unfold xApp
            simp (disch := decide) only [qp_st_f]
            exact e34
          have ne : ¬ len = 20 := by omega
          rw [ei]
          simp (disch := first | decide | omega) only [nI_clamp, qp_in, e34', true_and, qp_l, pk_mul, nI_add, qp_fe, qp_st_f, qp_st_ff, qp_eq, ne, false_imp_iff, not_false_iff, true_imp_iff]
          exact hp
        refine ⟨nI (len + 1), xApp i len (nI cd) p4 p5 s, yApp i len (nI cd) p4 p5 (xApp i len (nI cd) p4 p5 s), A, B, ?_⟩
        · generalize hz : yApp i len (nI cd) p4 p5 (xApp i len (nI cd) p4 p5 s) = z
          unfold yApp xApp at hz
          have Z : ∀ f, f ≠ 17 ∧ f ≠ 18 ∧ f ≠ 19 ∧ f ≠ 20 ∧ f ≠ 34 ∧ f ≠ 36 ∧ f ≠ 37 ∧ f ≠ 38 → z f = s f := fun f h => by
            rw [← hz]
            simp (disch := omega) only [qp_st_f]
          have z17 : ∀ i' j', z 17 i' j' = if i' = i ∧ j' = 3 then nI (len + 1) else s 17 i' j' := fun i' j' => by
            rw [← hz]
            simp (disch := decide) only [qp_st_f]
            rw [qp_st_r]
            simp (disch := decide) only [qp_st_f]
          have z18 : ∀ i' j', z 18 i' j' = if i' = i ∧ j' = len then nI cd else s 18 i' j' := fun i' j' => by
            rw [← hz]
            simp (disch := decide) only [qp_st_f]
            rw [qp_st_r]
          have z19 : ∀ i' j', z 19 i' j' = if i' = i ∧ j' = len then p4 else s 19 i' j' := fun i' j' => by
            rw [← hz]
            simp (disch := decide) only [qp_st_f]
            rw [qp_st_r]
            simp (disch := decide) only [qp_st_f]
          have z20 : ∀ i' j', z 20 i' j' = if i' = i ∧ j' = len then p5 else s 20 i' j' := fun i' j' => by
            rw [← hz]
            simp (disch := decide) only [qp_st_f]
            rw [qp_st_r]
            simp (disch := decide) only [qp_st_f]
          have z36 : ∀ q, z 36 0 q = if 0 = 0 ∧ q = 20 * i + len then nI cd else s 36 0 q := fun q => by
            rw [← hz]
            simp (disch := decide) only [qp_st_f]
            rw [qp_st_r]
            simp (disch := decide) only [qp_st_f]
          have z37 : ∀ q, z 37 0 q = if 0 = 0 ∧ q = 20 * i + len then p4 else s 37 0 q := fun q => by
            rw [← hz]
            simp (disch := decide) only [qp_st_f]
            rw [qp_st_r]
            simp (disch := decide) only [qp_st_f]
          have z38 : ∀ q, z 38 0 q = if 0 = 0 ∧ q = 20 * i + len then p5 else s 38 0 q := fun q => by
            rw [← hz]
            simp (disch := decide) only [qp_st_f]
            rw [qp_st_r]
            simp (disch := decide) only [qp_st_f]
          have z34 : ∀ q, z 34 0 q = if 0 = 0 ∧ q = i then nI (len + 1) else s 34 0 q := fun q => by
            rw [← hz]
            rw [qp_st_r]
            simp (disch := decide) only [qp_st_f]
          refine ⟨n, ev, e, ⟨n8, by rw [Z 1 (by decide)]; exact P1, by rw [Z 30 (by decide)]; exact P2, fun i' hi' => ?_, fun i' hi' => ?_, fun i' h1 h2 => ?_⟩, hV.cg (Z 3 (by decide)) (Z 4 (by decide)) (Z 5 (by decide)) (Z 6 (by decide)) (by rw [Z 30 (by decide)]) (by rw [Z 30 (by decide)]) (Z 31 (by decide)) (Z 32 (by decide)) (Z 33 (by decide)) (Z 56 (by decide)) (Z 57 (by decide)) (Z 58 (by decide)) (Z 59 (by decide)), hQ.cg (Z 7 (by decide)) (Z 8 (by decide)) (fun j _ => by rw [Z 30 (by decide)]) (Z 60 (by decide)) (Z 61 (by decide)) (Z 62 (by decide)) (Z 63 (by decide)) (Z 64 (by decide)) (Z 65 (by decide))⟩
          · by_cases hii : i' = i
            · subst hii
              refine ⟨len + 1, by omega, by rw [z17, if_pos ⟨rfl, rfl⟩], by rw [z34, if_pos ⟨rfl, rfl⟩], fun j hj => ?_⟩
              rw [z18, z19, z20, z36, z37, z38]
              by_cases hj2 : j = len
              · subst hj2
                rw [if_pos ⟨rfl, rfl⟩, if_pos ⟨rfl, rfl⟩, if_pos ⟨rfl, rfl⟩, if_pos ⟨rfl, rfl⟩, if_pos ⟨rfl, rfl⟩, if_pos ⟨rfl, rfl⟩]
                exact ⟨cd, hcd, rfl, rfl, rfl, rfl, ok⟩
              · rw [if_neg (by omega), if_neg (by omega), if_neg (by omega), if_neg (by omega), if_neg (by omega), if_neg (by omega)]
                exact P6 j (by omega)
            · obtain ⟨k', h1, h2, h3, h4⟩ := P3 i' hi'
              refine ⟨k', h1, by rw [z17, if_neg (fun h => hii h.1)]; exact h2, by rw [z34, if_neg (fun h => hii h.2)]; exact h3, fun j hj => ?_⟩
              rw [z18, z19, z20, z36, z37, z38, if_neg (by omega), if_neg (by omega), if_neg (by omega), if_neg (by omega), if_neg (by omega), if_neg (by omega)]
              exact h4 j hj
          · rw [z17, if_neg (by omega), Z 35 (by decide)]
            exact P4 i' hi'
          · rw [z17, z17, if_neg (by omega), if_neg (by omega)]
            exact P5 i' h1 h2
      · obtain rfl : len = 20 := by omega
        refine ⟨-104, s, s, fun post hp => wa _ _ P1 ⟨fun _ => (wf _ _ ⟨fun h => absurd h hr, fun _ => x_mem (by omega) hm ?_⟩).1, fun h => absurd rfl h⟩, fun post hp => wb _ _ _ P2 (wf _ _ ⟨fun h => absurd h hr, fun _ => ?_⟩).2, hR⟩
        · rw [hi, e17]
          exact ⟨fun h => absurd h (by decide), fun _ => hp⟩
        · rw [ei, nI_clamp (by omega), e34]
          exact ⟨vp_in_nI (by omega) (by omega), fun _ => hp, fun h => absurd rfl h⟩
  · exact ⟨r, s, s, fun post hp => wa _ _ P1 ⟨fun h => absurd h hr, fun _ => hp⟩, fun post hp => wb _ _ _ P2 hp, hR⟩
theorem q_empty (p1 p2 : Int32) (hR : RX s) : QQ (wX9_empty p1 p2) (wX10_empty p1 p2) s := by
  obtain ⟨n, ev, e, hP, hV, hQ⟩ := hR
  have hR : RX s := ⟨n, ev, e, hP, hV, hQ⟩
  obtain ⟨n8, P1, P2, P3, P4, P5⟩ := hP
  rcases rmem p1 p2 n8 with ⟨k, m, hk, hm, rfl, rfl, wa, wb⟩ | ⟨r, hr, wa, wb⟩
  · obtain ⟨len, l20, e17, e34, P6⟩ := P3 (4 * k + m) (by omega)
    have ei : (4 : Int32) * nI k + nI m = nI (4 * k + m) := by rw [show (4 : Int32) = nI 4 from rfl, pk_mul, nI_add]
    generalize hi : 4 * k + m = i at *
    have i32 : i < 4 * n := by omega
    refine ⟨nI len, qx_st s 17 i 3 0, qx_st (qx_st s 17 i 3 0) 34 0 i 0, fun post hp => wa _ _ P1 ⟨fun _ => x_mem (by omega) hm ?_, fun h => absurd rfl h⟩, fun post hp => wb _ _ _ (by rw [qp_st_f (by decide)]; exact P2) ?_, ?_⟩
    · rw [hi, e17, qp_fe]
      exact hp
    · have e34' : (qx_st s 17 i 3 0) 34 0 i = nI len := by rw [qp_st_f (by decide)]; exact e34
      rw [ei, nI_clamp (by omega), qp_fe, e34']
      exact ⟨vp_in_nI (by omega) (by omega), vp_in_nI (by omega) (by omega), hp⟩
    · generalize hz : qx_st (qx_st s 17 i 3 0) 34 0 i 0 = z
      have Z : ∀ f, f ≠ 17 ∧ f ≠ 34 → z f = s f := fun f h => by
        rw [← hz, qp_st_f h.2, qp_st_f h.1]
      have z17 : ∀ i' j', z 17 i' j' = if i' = i ∧ j' = 3 then 0 else s 17 i' j' := fun i' j' => by
        rw [← hz, qp_st_f (by decide), qp_st_r]
      have z34 : ∀ q, z 34 0 q = if 0 = 0 ∧ q = i then 0 else s 34 0 q := fun q => by
        rw [← hz, qp_st_r, qp_st_f (by decide)]
      refine ⟨n, ev, e, ⟨n8, by rw [Z 1 (by decide)]; exact P1, by rw [Z 30 (by decide)]; exact P2, fun i' hi' => ?_, fun i' hi' => ?_, fun i' h1 h2 => ?_⟩, hV.cg (Z 3 (by decide)) (Z 4 (by decide)) (Z 5 (by decide)) (Z 6 (by decide)) (by rw [Z 30 (by decide)]) (by rw [Z 30 (by decide)]) (Z 31 (by decide)) (Z 32 (by decide)) (Z 33 (by decide)) (Z 56 (by decide)) (Z 57 (by decide)) (Z 58 (by decide)) (Z 59 (by decide)), hQ.cg (Z 7 (by decide)) (Z 8 (by decide)) (fun j _ => by rw [Z 30 (by decide)]) (Z 60 (by decide)) (Z 61 (by decide)) (Z 62 (by decide)) (Z 63 (by decide)) (Z 64 (by decide)) (Z 65 (by decide))⟩
      · rw [z17, z34, Z 18 (by decide), Z 19 (by decide), Z 20 (by decide), Z 36 (by decide), Z 37 (by decide), Z 38 (by decide)]
        by_cases hii : i' = i
        · rw [if_pos ⟨hii, rfl⟩, if_pos ⟨rfl, hii⟩]
          exact ⟨0, by omega, rfl, rfl, fun j hj => absurd hj (by omega)⟩
        · rw [if_neg (fun h => hii h.1), if_neg (fun h => hii h.2)]
          exact P3 i' hi'
      · rw [z17, if_neg (by omega), Z 35 (by decide)]
        exact P4 i' hi'
      · rw [z17, z17, if_neg (by omega), if_neg (by omega)]
        exact P5 i' h1 h2
  · exact ⟨r, s, s, fun post hp => wa _ _ P1 ⟨fun h => absurd h hr, fun _ => hp⟩, fun post hp => wb _ _ _ P2 hp, hR⟩
theorem q_guard (p1 p2 p3 : Int32) (h3 : qx_vz p3) (hR : RX s) : QQ (wX9_guard p1 p2 p3) (wX10_guard p1 p2 p3) s := by
  obtain ⟨n, ev, e, hP, hV, hQ⟩ := hR
  have hR : RX s := ⟨n, ev, e, hP, hV, hQ⟩
  obtain ⟨n8, P1, P2, P3, P4, P5⟩ := hP
  rcases rmem p1 p2 n8 with ⟨k, m, hk, hm, rfl, rfl, wa, wb⟩ | ⟨r, hr, wa, wb⟩
  · obtain ⟨e17, vz⟩ := P4 (4 * k + m) (by omega)
    have ei : (4 : Int32) * nI k + nI m = nI (4 * k + m) := by rw [show (4 : Int32) = nI 4 from rfl, pk_mul, nI_add]
    generalize hi : 4 * k + m = i at *
    have i32 : i < 4 * n := by omega
    have nar := nar_vz h3
    refine ⟨s 17 i 4, qx_st s 17 i 4 p3, qx_st (qx_st s 17 i 4 p3) 35 0 i p3, fun post hp => wa _ _ P1 ⟨fun _ => x_mem (by omega) hm ?_, fun h => absurd rfl h⟩, fun post hp => wb _ _ _ (by rw [qp_st_f (by decide)]; exact P2) ?_, ?_⟩
    · rw [hi]
      refine ⟨fun h => ⟨h3, ?_⟩, fun h => ⟨h3, ?_⟩⟩
      · rw [qp_fe]; exact pv h hp
      · rw [qp_fe]; exact pv (vz.resolve_left h) hp
    · have e35 : (qx_st s 17 i 4 p3) 35 0 i = s 17 i 4 := by rw [qp_st_f (by decide)]; exact e17.symm
      rw [ei, nI_clamp (by omega), e35, nar]
      refine ⟨vp_in_nI (by omega) (by omega), fun h => ⟨vp_in_nI (by omega) (by omega), ?_⟩, fun h => ⟨vp_in_nI (by omega) (by omega), ?_⟩⟩
      · rw [qp_fe]; exact pv h hp
      · rw [qp_fe]; exact pv (vz.resolve_left h) hp
    · generalize hz : qx_st (qx_st s 17 i 4 p3) 35 0 i p3 = z
      have Z : ∀ f, f ≠ 17 ∧ f ≠ 35 → z f = s f := fun f h => by
        rw [← hz, qp_st_f h.2, qp_st_f h.1]
      have z17 : ∀ i' j', z 17 i' j' = if i' = i ∧ j' = 4 then p3 else s 17 i' j' := fun i' j' => by
        rw [← hz, qp_st_f (by decide), qp_st_r]
      have z35 : ∀ q, z 35 0 q = if 0 = 0 ∧ q = i then p3 else s 35 0 q := fun q => by
        rw [← hz, qp_st_r, qp_st_f (by decide)]
      refine ⟨n, ev, e, ⟨n8, by rw [Z 1 (by decide)]; exact P1, by rw [Z 30 (by decide)]; exact P2, fun i' hi' => ?_, fun i' hi' => ?_, fun i' h1 h2 => ?_⟩, hV.cg (Z 3 (by decide)) (Z 4 (by decide)) (Z 5 (by decide)) (Z 6 (by decide)) (by rw [Z 30 (by decide)]) (by rw [Z 30 (by decide)]) (Z 31 (by decide)) (Z 32 (by decide)) (Z 33 (by decide)) (Z 56 (by decide)) (Z 57 (by decide)) (Z 58 (by decide)) (Z 59 (by decide)), hQ.cg (Z 7 (by decide)) (Z 8 (by decide)) (fun j _ => by rw [Z 30 (by decide)]) (Z 60 (by decide)) (Z 61 (by decide)) (Z 62 (by decide)) (Z 63 (by decide)) (Z 64 (by decide)) (Z 65 (by decide))⟩
      · rw [z17, if_neg (by omega), Z 34 (by decide), Z 18 (by decide), Z 19 (by decide), Z 20 (by decide), Z 36 (by decide), Z 37 (by decide), Z 38 (by decide)]
        exact P3 i' hi'
      · rw [z17, z35]
        by_cases hii : i' = i
        · rw [if_pos ⟨hii, rfl⟩, if_pos ⟨rfl, hii⟩]
          exact ⟨rfl, h3⟩
        · rw [if_neg (fun h => hii h.1), if_neg (fun h => hii h.2)]
          exact P4 i' hi'
      · rw [z17, z17, if_neg (by omega), if_neg (by omega)]
        exact P5 i' h1 h2
  · exact ⟨r, s, s, fun post hp => wa _ _ P1 ⟨fun h => absurd h hr, fun _ => hp⟩, fun post hp => wb _ _ _ P2 hp, hR⟩
end QSTEP
