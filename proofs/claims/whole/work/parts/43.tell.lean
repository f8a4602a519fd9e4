/-! the calls that only tell -/
section QTELL
variable {s : qx_St}
theorem q_told (p : Int32) (hR : RX s) : QQ (wX9_told p) (wX10_told p) s := by
  obtain ⟨n, ev, e, hP, hV, hQ⟩ := hR
  have hR : RX s := ⟨n, ev, e, hP, hV, hQ⟩
  obtain ⟨q1, q2, q3, q4, q5, q6, q7, q8, q9⟩ := hQ
  obtain ⟨v1, v2, v3, v4, v5, v6, v7, v8, v9, v10⟩ := hV
  rcases wi p 0 5 (by omega) (by omega) with ⟨⟨k, -, hk, rfl⟩, w⟩ | ⟨-, w⟩
  · by_cases hm : s 7 0 1 = 0
    · exact ⟨-103, s, s, fun post hp => (w _ _ ⟨fun h => absurd h (by decide), fun _ => ⟨fun _ => hp, fun h => absurd hm h⟩⟩).1, fun post hp => (w _ _ ⟨fun h => absurd h (by decide), fun _ => ⟨fun _ => hp, fun h => absurd (q7.symm.trans hm) h⟩⟩).2, hR⟩
    · obtain ⟨t3, t4, t5, t7⟩ := q9 hm
      have hm' : ¬ s 30 0 44 = 0 := fun h => hm (q7.trans h)
      rcases (show k = 0 ∨ k = 1 ∨ k = 2 ∨ k = 3 ∨ k = 4 ∨ k = 5 by omega) with rfl | rfl | rfl | rfl | rfl | rfl
      · exact ⟨s 7 0 3, s, s, fun post hp => (w _ _ ⟨fun h => absurd h (by decide), fun _ => ⟨fun h => absurd h hm, fun _ => ⟨fun _ => hp, fun h => absurd h (by decide), fun h => absurd h (by decide), fun h => absurd h (by decide), fun h => absurd h (by decide), fun h => absurd (by decide) (h 0 (by decide))⟩⟩⟩).1, fun post hp => (w _ _ ⟨fun h => absurd h (by decide), fun _ => ⟨fun h => absurd h hm', fun _ => ⟨fun _ => pv t3 hp, fun h => absurd h (by decide), fun h => absurd h (by decide), fun h => absurd h (by decide), fun h => absurd h (by decide), fun h => absurd (by decide) (h 0 (by decide))⟩⟩⟩).2, hR⟩
      · exact ⟨s 7 0 4, s, s, fun post hp => (w _ _ ⟨fun h => absurd h (by decide), fun _ => ⟨fun h => absurd h hm, fun _ => ⟨fun h => absurd h (by decide), fun _ => hp, fun h => absurd h (by decide), fun h => absurd h (by decide), fun h => absurd h (by decide), fun h => absurd (by decide) (h 1 (by decide))⟩⟩⟩).1, fun post hp => (w _ _ ⟨fun h => absurd h (by decide), fun _ => ⟨fun h => absurd h hm', fun _ => ⟨fun h => absurd h (by decide), fun _ => pv t4 hp, fun h => absurd h (by decide), fun h => absurd h (by decide), fun h => absurd h (by decide), fun h => absurd (by decide) (h 1 (by decide))⟩⟩⟩).2, hR⟩
      · exact ⟨s 7 0 5, s, s, fun post hp => (w _ _ ⟨fun h => absurd h (by decide), fun _ => ⟨fun h => absurd h hm, fun _ => ⟨fun h => absurd h (by decide), fun h => absurd h (by decide), fun _ => hp, fun h => absurd h (by decide), fun h => absurd h (by decide), fun h => absurd (by decide) (h 2 (by decide))⟩⟩⟩).1, fun post hp => (w _ _ ⟨fun h => absurd h (by decide), fun _ => ⟨fun h => absurd h hm', fun _ => ⟨fun h => absurd h (by decide), fun h => absurd h (by decide), fun _ => pv t5 hp, fun h => absurd h (by decide), fun h => absurd h (by decide), fun h => absurd (by decide) (h 2 (by decide))⟩⟩⟩).2, hR⟩
      · exact ⟨s 7 0 6, s, s, fun post hp => (w _ _ ⟨fun h => absurd h (by decide), fun _ => ⟨fun h => absurd h hm, fun _ => ⟨fun h => absurd h (by decide), fun h => absurd h (by decide), fun h => absurd h (by decide), fun _ => hp, fun h => absurd h (by decide), fun h => absurd (by decide) (h 3 (by decide))⟩⟩⟩).1, fun post hp => (w _ _ ⟨fun h => absurd h (by decide), fun _ => ⟨fun h => absurd h hm', fun _ => ⟨fun h => absurd h (by decide), fun h => absurd h (by decide), fun h => absurd h (by decide), fun _ => pv (q1.trans q2.symm) hp, fun h => absurd h (by decide), fun h => absurd (by decide) (h 3 (by decide))⟩⟩⟩).2, hR⟩
      · exact ⟨s 7 0 7, s, s, fun post hp => (w _ _ ⟨fun h => absurd h (by decide), fun _ => ⟨fun h => absurd h hm, fun _ => ⟨fun h => absurd h (by decide), fun h => absurd h (by decide), fun h => absurd h (by decide), fun h => absurd h (by decide), fun _ => hp, fun h => absurd (by decide) (h 4 (by decide))⟩⟩⟩).1, fun post hp => (w _ _ ⟨fun h => absurd h (by decide), fun _ => ⟨fun h => absurd h hm', fun _ => ⟨fun h => absurd h (by decide), fun h => absurd h (by decide), fun h => absurd h (by decide), fun h => absurd h (by decide), fun _ => pv t7 hp, fun h => absurd (by decide) (h 4 (by decide))⟩⟩⟩).2, hR⟩
      · exact ⟨s 3 0 3, s, s, fun post hp => (w _ _ ⟨fun h => absurd h (by decide), fun _ => ⟨fun h => absurd h hm, fun _ => ⟨fun h => absurd h (by decide), fun h => absurd h (by decide), fun h => absurd h (by decide), fun h => absurd h (by decide), fun h => absurd h (by decide), fun _ => hp⟩⟩⟩).1, fun post hp => (w _ _ ⟨fun h => absurd h (by decide), fun _ => ⟨fun h => absurd h hm', fun _ => ⟨fun h => absurd h (by decide), fun h => absurd h (by decide), fun h => absurd h (by decide), fun h => absurd h (by decide), fun h => absurd h (by decide), fun _ => pv (v8.trans v9.symm) hp⟩⟩⟩).2, hR⟩
  · exact ⟨-102, s, s, fun post hp => (w _ _ ⟨fun _ => hp, fun h => absurd rfl h⟩).1, fun post hp => (w _ _ ⟨fun _ => hp, fun h => absurd rfl h⟩).2, hR⟩
theorem rk {m : Nat} {post : Int32 → qx_St → Prop} (h : (if (40 : Int32) < s 7 0 6 then (40 : Int32) else s 7 0 6) = nI m) (hp : post (nI m) s) : wX5_rowsKept s post := by
  unfold wX5_rowsKept
  rw [h]
  exact hp
theorem q_frame (p1 p2 : Int32) (hR : RX s) : QQ (wX9_frame p1 p2) (wX10_frame p1 p2) s := by
  obtain ⟨n, ev, e, hP, hV, hQ⟩ := hR
  have hR : RX s := ⟨n, ev, e, hP, hV, hQ⟩
  obtain ⟨q1, q2, q3, q4, q5, q6, q7, q8, q9⟩ := hQ
  rcases wi p2 0 6 (by omega) (by omega) with ⟨⟨c, -, hc, rfl⟩, w0⟩ | ⟨-, w⟩
  · obtain ⟨m, hm, hme⟩ : ∃ m, (40 ≤ e ∧ m = 40 ∨ e < 40 ∧ m = e) ∧ (if (40 : Int32) < s 7 0 6 then (40 : Int32) else s 7 0 6) = nI m := by
      rw [q1]
      rcases Nat.lt_or_ge 40 e with h | h
      · exact ⟨40, by omega, if_pos (nI_lt h (by omega))⟩
      · exact ⟨e, by omega, if_neg (nI_nlt h (by omega))⟩
    have J : ∀ post : Int32 → qx_St → Prop, wX10_frame_j40 p1 (nI c) post p1 (nI c) (nI m) (nI 0) p1 s → ¬ s 30 0 44 = 0 → wX10_frame p1 (nI c) s post := by
      intro post hj hn
      refine (w0 _ _ ⟨fun h => absurd h (by decide), fun _ => ⟨fun h => absurd h hn, fun _ => ⟨fun h => ?_, fun h => ?_⟩⟩⟩).2
      · rw [q2] at h
        have h' : 40 ≤ e := (nI_leI (a := 40) (by omega) (by omega)).mp h
        obtain rfl : m = 40 := by omega
        exact hj
      · have h' : ¬ 40 ≤ e := fun h2 => h (by rw [q2]; exact nI_le (a := 40) h2 (by omega))
        obtain rfl : m = e := by omega
        rw [q2]
        exact hj
    rcases wi1 p1 m (by omega) with ⟨⟨k, hk, rfl⟩, w1⟩ | ⟨-, w1⟩
    · have hn0 : ¬ s 7 0 1 = 0 := fun h => by have := q8 h; omega
      have hn : ¬ s 30 0 44 = 0 := fun h => hn0 (q7.trans h)
      obtain ⟨⟨cc, mm, hcc, hmm, y60, x0, x1⟩, x2, x3, x4, x5, x6, x7⟩ := q4 k (by omega) (by omega) (by omega)
      have ix : ∀ w : Nat, nI k * 7 + nI w = nI (7 * k + w) := fun w => by
        have := pk_mul k 7
        rw [show (7 : Int32) = nI 7 from rfl, this, nI_add]
        congr 1; omega
      have K : ∀ w, w < 7 → ∀ post : Int32 → qx_St → Prop, post (s 8 0 (7 * k + w)) s → (vp_in ((nI k * 7) + nI w) 280 ∧ post (s 8 0 ((nI k * 7) + nI w).toNatClampNeg) s) := fun w hw post hp => by
        rw [ix w, nI_clamp (by omega)]
        exact ⟨vp_in_nI (by omega) (by omega), hp⟩
      have vi : vp_in (nI k) 40 := vp_in_nI (by omega) (by omega)
      have C : (nI k).toNatClampNeg = k := nI_clamp (by omega)
      have E0 : s 8 0 (7 * k + 0) = s 60 0 (nI k).toNatClampNeg / 4 := by
        rw [C, y60, Nat.add_zero, x0, show (4 : Int32) = nI 4 from rfl, pk_div (by omega) (by omega) (by omega)]
        congr 1; omega
      have E1 : s 8 0 (7 * k + 1) = s 60 0 (nI k).toNatClampNeg - s 60 0 (nI k).toNatClampNeg / 4 * 4 := by
        rw [C, y60, x1, show (4 : Int32) = nI 4 from rfl, pk_rem (by omega) (by omega) (by omega)]
        congr 1; omega
      have E2 : s 8 0 (7 * k + 2) = s 61 0 (nI k).toNatClampNeg := by rw [C]; exact x2
      have E3 : s 8 0 (7 * k + 3) = s 62 0 (nI k).toNatClampNeg := by rw [C]; exact x3
      have E4 : s 8 0 (7 * k + 4) = s 63 0 (nI k).toNatClampNeg := by rw [C]; exact x4
      have E5 : s 8 0 (7 * k + 5) = s 64 0 (nI k).toNatClampNeg := by rw [C]; exact x5
      have E6 : s 8 0 (7 * k + 6) = s 65 0 (nI k).toNatClampNeg := by rw [C]; exact x6
      have E7 : s 65 0 (nI k).toNatClampNeg = 0 ∨ s 65 0 (nI k).toNatClampNeg = 1 := by rw [C]; exact x7
      have X : ∀ w, w < 7 → ∀ post : Int32 → qx_St → Prop, c = w → post (s 8 0 (7 * k + w)) s → wX9_frame (nI k) (nI c) s post := fun w hw post hc hp => (w0 _ _ ⟨fun h => absurd h (by decide), fun _ => rk hme (w1 _ _ ⟨fun h => absurd h (by decide), fun _ => by rw [hc]; exact K w hw post hp⟩).1⟩).1
      rcases (show c = 0 ∨ c = 1 ∨ c = 2 ∨ c = 3 ∨ c = 4 ∨ c = 5 ∨ c = 6 by omega) with rfl | rfl | rfl | rfl | rfl | rfl | rfl
      · exact ⟨s 8 0 (7 * k + 0), s, s, fun post hp => X 0 (by omega) post rfl hp, fun post hp => J post (w1 _ _ ⟨fun h => absurd h (by decide), fun _ => ⟨fun _ => ⟨vi, pv E0 hp⟩, fun h => absurd h (by decide), fun h => absurd h (by decide), fun h => absurd h (by decide), fun h => absurd h (by decide), fun h => absurd h (by decide), fun h => absurd (by decide) (h 0 (by decide))⟩⟩).2 hn, hR⟩
      · exact ⟨s 8 0 (7 * k + 1), s, s, fun post hp => X 1 (by omega) post rfl hp, fun post hp => J post (w1 _ _ ⟨fun h => absurd h (by decide), fun _ => ⟨fun h => absurd h (by decide), fun _ => ⟨vi, pv E1 hp⟩, fun h => absurd h (by decide), fun h => absurd h (by decide), fun h => absurd h (by decide), fun h => absurd h (by decide), fun h => absurd (by decide) (h 1 (by decide))⟩⟩).2 hn, hR⟩
      · exact ⟨s 8 0 (7 * k + 2), s, s, fun post hp => X 2 (by omega) post rfl hp, fun post hp => J post (w1 _ _ ⟨fun h => absurd h (by decide), fun _ => ⟨fun h => absurd h (by decide), fun h => absurd h (by decide), fun _ => ⟨vi, pv E2 hp⟩, fun h => absurd h (by decide), fun h => absurd h (by decide), fun h => absurd h (by decide), fun h => absurd (by decide) (h 2 (by decide))⟩⟩).2 hn, hR⟩
      · exact ⟨s 8 0 (7 * k + 3), s, s, fun post hp => X 3 (by omega) post rfl hp, fun post hp => J post (w1 _ _ ⟨fun h => absurd h (by decide), fun _ => ⟨fun h => absurd h (by decide), fun h => absurd h (by decide), fun h => absurd h (by decide), fun _ => ⟨vi, pv E3 hp⟩, fun h => absurd h (by decide), fun h => absurd h (by decide), fun h => absurd (by decide) (h 3 (by decide))⟩⟩).2 hn, hR⟩
      · exact ⟨s 8 0 (7 * k + 4), s, s, fun post hp => X 4 (by omega) post rfl hp, fun post hp => J post (w1 _ _ ⟨fun h => absurd h (by decide), fun _ => ⟨fun h => absurd h (by decide), fun h => absurd h (by decide), fun h => absurd h (by decide), fun h => absurd h (by decide), fun _ => ⟨vi, pv E4 hp⟩, fun h => absurd h (by decide), fun h => absurd (by decide) (h 4 (by decide))⟩⟩).2 hn, hR⟩
      · exact ⟨s 8 0 (7 * k + 5), s, s, fun post hp => X 5 (by omega) post rfl hp, fun post hp => J post (w1 _ _ ⟨fun h => absurd h (by decide), fun _ => ⟨fun h => absurd h (by decide), fun h => absurd h (by decide), fun h => absurd h (by decide), fun h => absurd h (by decide), fun h => absurd h (by decide), fun _ => ⟨vi, pv E5 hp⟩, fun h => absurd (by decide) (h 5 (by decide))⟩⟩).2 hn, hR⟩
      · exact ⟨s 8 0 (7 * k + 6), s, s, fun post hp => X 6 (by omega) post rfl hp, fun post hp => J post (w1 _ _ ⟨fun h => absurd h (by decide), fun _ => ⟨fun h => absurd h (by decide), fun h => absurd h (by decide), fun h => absurd h (by decide), fun h => absurd h (by decide), fun h => absurd h (by decide), fun h => absurd h (by decide), fun _ => ⟨vi, fun h => pv (E6.trans h) hp, fun h => pv (E6.trans (E7.resolve_left h)) hp⟩⟩⟩).2 hn, hR⟩
    · have A : ∀ post : Int32 → qx_St → Prop, post (-109) s → wX9_frame p1 (nI c) s post := fun post hp => (w0 _ _ ⟨fun h => absurd h (by decide), fun _ => rk hme (w1 _ _ ⟨fun _ => hp, fun h => absurd rfl h⟩).1⟩).1
      by_cases hn : s 30 0 44 = 0
      · exact ⟨-109, s, s, A, fun post hp => (w0 _ _ ⟨fun h => absurd h (by decide), fun _ => ⟨fun _ => hp, fun h => absurd hn h⟩⟩).2, hR⟩
      · exact ⟨-109, s, s, A, fun post hp => J post (w1 _ _ ⟨fun _ => hp, fun h => absurd rfl h⟩).2 hn, hR⟩
  · exact ⟨-102, s, s, fun post hp => (w _ _ ⟨fun _ => hp, fun h => absurd rfl h⟩).1, fun post hp => (w _ _ ⟨fun _ => hp, fun h => absurd rfl h⟩).2, hR⟩
theorem q_event (p1 p2 : Int32) (hR : RX s) : QQ (wX9_event p1 p2) (wX10_event p1 p2) s := by
  obtain ⟨n, ev, e, hP, hV, hQ⟩ := hR
  have hR : RX s := ⟨n, ev, e, hP, hV, hQ⟩
  obtain ⟨v1, v2, v3, v4, v5, v6, v7, v8, v9, v10⟩ := hV
  rcases wi p2 0 3 (by omega) (by omega) with ⟨⟨c, -, hc, rfl⟩, w0⟩ | ⟨-, w⟩
  · have A : ∀ post : Int32 → qx_St → Prop, wX9_within p1 (nI 0) (nI ev - nI 1) s (fun r4 s3 => ((r4 = 0 → post (-109 : Int32) s3) ∧ (¬ (r4 = 0) → (vp_in ((p1 * (4 : Int32)) + nI c) 240 ∧ post (s3 6 0 ((p1 * (4 : Int32)) + nI c).toNatClampNeg) s3)))) → wX9_event p1 (nI c) s post := fun post h => (w0 _ _ ⟨fun h => absurd h (by decide), fun _ => by rw [v8]; exact h⟩).1
    have B : ∀ post : Int32 → qx_St → Prop, wX10_in p1 (nI 0) (nI ev - nI 1) s (fun r4 s3 => ((r4 = 0 → post (-109 : Int32) s3) ∧ (¬ (r4 = 0) → ((nI c = 0 → (vp_in p1 60 ∧ post (s3 56 0 p1.toNatClampNeg) s3)) ∧ (¬ (nI c = 0) → ((nI c = (1 : Int32) → (vp_in p1 60 ∧ post (s3 57 0 p1.toNatClampNeg) s3)) ∧ (¬ (nI c = (1 : Int32)) → ((nI c = (2 : Int32) → (vp_in p1 60 ∧ post (s3 58 0 p1.toNatClampNeg) s3)) ∧ (¬ (nI c = (2 : Int32)) → (vp_in p1 60 ∧ post (s3 59 0 p1.toNatClampNeg) s3)))))))))) → wX10_event p1 (nI c) s post := fun post h => (w0 _ _ ⟨fun h => absurd h (by decide), fun _ => by rw [v9]; exact h⟩).2
    rcases wi1 p1 ev (by omega) with ⟨⟨k, hk, rfl⟩, w1⟩ | ⟨-, w1⟩
    · obtain ⟨a0, a1, a2, a3⟩ := v10 k hk
      have ix : ∀ w : Nat, nI k * 4 + nI w = nI (4 * k + w) := fun w => by
        have := pk_mul k 4
        rw [show (4 : Int32) = nI 4 from rfl, this, nI_add]
        congr 1; omega
      have K : ∀ w, w < 4 → ∀ post : Int32 → qx_St → Prop, post (s 6 0 (4 * k + w)) s → (vp_in ((nI k * 4) + nI w) 240 ∧ post (s 6 0 ((nI k * 4) + nI w).toNatClampNeg) s) := fun w hw post hp => by
        rw [ix w, nI_clamp (by omega)]
        exact ⟨vp_in_nI (by omega) (by omega), hp⟩
      have vi : vp_in (nI k) 60 := vp_in_nI (by omega) (by omega)
      have C : (nI k).toNatClampNeg = k := nI_clamp (by omega)
      rcases (show c = 0 ∨ c = 1 ∨ c = 2 ∨ c = 3 by omega) with rfl | rfl | rfl | rfl
      · exact ⟨s 6 0 (4 * k + 0), s, s, fun post hp => A post (w1 _ _ ⟨fun h => absurd h (by decide), fun _ => K 0 (by omega) post hp⟩).1, fun post hp => B post (w1 _ _ ⟨fun h => absurd h (by decide), fun _ => ⟨fun _ => ⟨vi, by rw [C]; exact pv a0 hp⟩, fun h => absurd rfl h⟩⟩).2, hR⟩
      · exact ⟨s 6 0 (4 * k + 1), s, s, fun post hp => A post (w1 _ _ ⟨fun h => absurd h (by decide), fun _ => K 1 (by omega) post hp⟩).1, fun post hp => B post (w1 _ _ ⟨fun h => absurd h (by decide), fun _ => ⟨fun h => absurd h (by decide), fun _ => ⟨fun _ => ⟨vi, by rw [C]; exact pv a1 hp⟩, fun h => absurd rfl h⟩⟩⟩).2, hR⟩
      · exact ⟨s 6 0 (4 * k + 2), s, s, fun post hp => A post (w1 _ _ ⟨fun h => absurd h (by decide), fun _ => K 2 (by omega) post hp⟩).1, fun post hp => B post (w1 _ _ ⟨fun h => absurd h (by decide), fun _ => ⟨fun h => absurd h (by decide), fun _ => ⟨fun h => absurd h (by decide), fun _ => ⟨fun _ => ⟨vi, by rw [C]; exact pv a2 hp⟩, fun h => absurd rfl h⟩⟩⟩⟩).2, hR⟩
      · exact ⟨s 6 0 (4 * k + 3), s, s, fun post hp => A post (w1 _ _ ⟨fun h => absurd h (by decide), fun _ => K 3 (by omega) post hp⟩).1, fun post hp => B post (w1 _ _ ⟨fun h => absurd h (by decide), fun _ => ⟨fun h => absurd h (by decide), fun _ => ⟨fun h => absurd h (by decide), fun _ => ⟨fun h => absurd h (by decide), fun _ => ⟨vi, by rw [C]; exact pv a3 hp⟩⟩⟩⟩⟩).2, hR⟩
    · exact ⟨-109, s, s, fun post hp => A post (w1 _ _ ⟨fun _ => hp, fun h => absurd rfl h⟩).1, fun post hp => B post (w1 _ _ ⟨fun _ => hp, fun h => absurd rfl h⟩).2, hR⟩
  · exact ⟨-102, s, s, fun post hp => (w _ _ ⟨fun _ => hp, fun h => absurd rfl h⟩).1, fun post hp => (w _ _ ⟨fun _ => hp, fun h => absurd rfl h⟩).2, hR⟩
theorem q_store (p1 p2 : Int32) (hR : RX s) : QQ (wX9_store p1 p2) (wX10_store p1 p2) s := by
  obtain ⟨n, ev, e, hP, hV, hQ⟩ := hR
  have hR : RX s := ⟨n, ev, e, hP, hV, hQ⟩
  obtain ⟨v1, v2, v3, v4, v5, v6, v7, v8, v9, v10⟩ := hV
  have n8 := hP.1
  rcases ha p1 n n8 with ⟨⟨k, hk, rfl⟩, wa, wb⟩ | ⟨-, wa, wb⟩
  · rcases wi p2 0 7 (by omega) (by omega) with ⟨⟨c, -, hc, rfl⟩, w⟩ | ⟨-, w⟩
    · refine ⟨s 4 0 (8 * k + c), s, s, fun post hp => wa _ _ hP.2.1 ⟨fun h => absurd h (by decide), fun _ => (w _ _ ⟨fun h => absurd h (by decide), fun _ => ?_⟩).1⟩, fun post hp => wb _ _ hP.2.2.1 ⟨fun _ => (w _ _ ⟨fun h => absurd h (by decide), fun _ => ?_⟩).2, fun h => absurd rfl h⟩, hR⟩
      · rw [show nI k * 8 + nI c = nI (8 * k + c) by rw [show (8 : Int32) = nI 8 from rfl, pk_mul, nI_add, Nat.mul_comm], nI_clamp (by omega)]
        exact ⟨vp_in_nI (by omega) (by omega), hp⟩
      · rw [show 8 * nI k + nI c = nI (8 * k + c) by rw [show (8 : Int32) = nI 8 from rfl, pk_mul, nI_add], nI_clamp (by omega)]
        exact ⟨vp_in_nI (by omega) (by omega), pv (v1 _ (by omega)) hp⟩
    · exact ⟨-109, s, s, fun post hp => wa _ _ hP.2.1 ⟨fun h => absurd h (by decide), fun _ => (w _ _ ⟨fun _ => hp, fun h => absurd rfl h⟩).1⟩, fun post hp => wb _ _ hP.2.2.1 ⟨fun _ => (w _ _ ⟨fun _ => hp, fun h => absurd rfl h⟩).2, fun h => absurd rfl h⟩, hR⟩
  · exact ⟨-101, s, s, fun post hp => wa _ _ hP.2.1 ⟨fun _ => hp, fun h => absurd rfl h⟩, fun post hp => wb _ _ hP.2.2.1 ⟨fun h => absurd h (by decide), fun _ => hp⟩, hR⟩
theorem q_coins (p1 p2 : Int32) (hR : RX s) : QQ (wX9_coins p1 p2) (wX10_coins p1 p2) s := by
  obtain ⟨n, ev, e, hP, hV, hQ⟩ := hR
  have hR : RX s := ⟨n, ev, e, hP, hV, hQ⟩
  obtain ⟨v1, v2, v3, v4, v5, v6, v7, v8, v9, v10⟩ := hV
  have n8 := hP.1
  rcases wi p1 0 2 (by omega) (by omega) with ⟨⟨c, -, hc, rfl⟩, w⟩ | ⟨hn, w⟩
  · rcases (show c = 0 ∨ c = 1 ∨ c = 2 by omega) with rfl | rfl | rfl
    · rcases ha p2 n n8 with ⟨⟨k, hk, rfl⟩, wa, wb⟩ | ⟨-, wa, wb⟩
      · refine ⟨s 5 0 k, s, s, fun post hp => ⟨fun _ => wa _ _ hP.2.1 ⟨fun h => absurd h (by decide), fun _ => ?_⟩, fun h => absurd h (by decide), fun h => absurd h (by decide), fun h => absurd (by decide) (h 0 (by decide))⟩, fun post hp => (w _ _ ⟨fun h => absurd h (by decide), fun _ => ⟨fun h => absurd h (by decide), fun _ => ⟨fun _ => wb _ _ hP.2.2.1 ⟨fun _ => ?_, fun h => absurd rfl h⟩, fun h => absurd rfl h⟩⟩⟩).2, hR⟩
        · rw [nI_clamp (by omega)]
          exact ⟨vp_in_nI (by omega) (by omega), hp⟩
        · rw [nI_clamp (by omega)]
          exact ⟨vp_in_nI (by omega) (by omega), pv (v3 k hk) hp⟩
      · exact ⟨-101, s, s, fun post hp => ⟨fun _ => wa _ _ hP.2.1 ⟨fun _ => hp, fun h => absurd rfl h⟩, fun h => absurd h (by decide), fun h => absurd h (by decide), fun h => absurd (by decide) (h 0 (by decide))⟩, fun post hp => (w _ _ ⟨fun h => absurd h (by decide), fun _ => ⟨fun h => absurd h (by decide), fun _ => ⟨fun _ => wb _ _ hP.2.2.1 ⟨fun h => absurd h (by decide), fun _ => hp⟩, fun h => absurd rfl h⟩⟩⟩).2, hR⟩
    · rcases wi p2 0 3 (by omega) (by omega) with ⟨⟨k, -, hk, rfl⟩, w1⟩ | ⟨-, w1⟩
      · refine ⟨s 5 0 (8 + k), s, s, fun post hp => ⟨fun h => absurd h (by decide), fun _ => (w1 _ _ ⟨Or.inr rfl, fun h => absurd h (by decide), fun _ => ?_⟩).1, fun h => absurd h (by decide), fun h => absurd (by decide) (h 1 (by decide))⟩, fun post hp => (w _ _ ⟨fun h => absurd h (by decide), fun _ => ⟨fun h => absurd h (by decide), fun _ => ⟨fun h => absurd h (by decide), fun _ => (w1 _ _ ⟨fun h => absurd h (by decide), fun _ => ?_⟩).2⟩⟩⟩).2, hR⟩
        · rw [show (8 : Int32) + nI k = nI (8 + k) from nI_add 8 k, nI_clamp (by omega)]
          exact ⟨vp_in_nI (by omega) (by omega), hp⟩
        · rw [nI_clamp (by omega)]
          exact ⟨vp_in_nI (by omega) (by omega), pv (v5 k (by omega)) hp⟩
      · exact ⟨-101, s, s, fun post hp => ⟨fun h => absurd h (by decide), fun _ => (w1 _ _ ⟨Or.inl rfl, fun _ => hp, fun h => absurd rfl h⟩).1, fun h => absurd h (by decide), fun h => absurd (by decide) (h 1 (by decide))⟩, fun post hp => (w _ _ ⟨fun h => absurd h (by decide), fun _ => ⟨fun h => absurd h (by decide), fun _ => ⟨fun h => absurd h (by decide), fun _ => (w1 _ _ ⟨fun _ => hp, fun h => absurd rfl h⟩).2⟩⟩⟩).2, hR⟩
    · exact ⟨s 5 0 12, s, s, fun post hp => ⟨fun h => absurd h (by decide), fun h => absurd h (by decide), fun _ => hp, fun h => absurd (by decide) (h 2 (by decide))⟩, fun post hp => (w _ _ ⟨fun h => absurd h (by decide), fun _ => ⟨fun _ => pv v6 hp, fun h => absurd rfl h⟩⟩).2, hR⟩
  · exact ⟨-102, s, s, fun post hp => ⟨fun h => absurd h (hn 0 (by omega) (by omega)), fun h => absurd h (hn 1 (by omega) (by omega)), fun h => absurd h (hn 2 (by omega) (by omega)), fun _ => hp⟩, fun post hp => (w _ _ ⟨fun _ => hp, fun h => absurd rfl h⟩).2, hR⟩
def sm (f : Nat → Int32) : Nat → Nat → Int32 → Int32
  | 0, _, a => a
  | r + 1, k, a => sm f r (k + 1) (a + f k)
theorem sm_cg {f g : Nat → Int32} : ∀ (r k : Nat) (a : Int32), (∀ i, k ≤ i → i < k + r → f i = g i) → sm f r k a = sm g r k a
  | 0, _, _, _ => rfl
  | r + 1, k, a, h => by
    unfold sm
    rw [h k (by omega) (by omega)]
    exact sm_cg r (k + 1) _ (fun i h1 h2 => h i (by omega) (by omega))
theorem sm_0 {f : Nat → Int32} : ∀ (r k : Nat) (a : Int32), (∀ i, k ≤ i → i < k + r → f i = 0) → sm f r k a = a
  | 0, _, _, _ => rfl
  | r + 1, k, a, h => by
    unfold sm
    rw [h k (by omega) (by omega), Int32.add_zero]
    exact sm_0 r (k + 1) _ (fun i h1 h2 => h i (by omega) (by omega))
theorem sm_add {f : Nat → Int32} : ∀ (r r2 k : Nat) (a : Int32), sm f (r + r2) k a = sm f r2 (k + r) (sm f r k a)
  | 0, r2, k, a => by rw [Nat.zero_add]; rfl
  | r + 1, r2, k, a => by
    rw [show r + 1 + r2 = (r + r2) + 1 by omega]
    show sm f (r + r2) (k + 1) (a + f k) = sm f r2 (k + (r + 1)) (sm f r (k + 1) (a + f k))
    rw [sm_add r r2 (k + 1), show k + 1 + r = k + (r + 1) by omega]
theorem x_sum {post : Int32 → qx_St → Prop} : ∀ (r k : Nat) (a : Int32), k + r = 32 → post (sm (fun i => s 17 i 3) r k a) s → wX4_stepsInAll_l4 post (r + 1) a (nI k) s
  | 0, k, a, h, hp => by
    obtain rfl : k = 32 := by omega
    exact ⟨fun _ => hp, fun h => absurd (nI_le (a := 32) (b := 32) (Nat.le_refl _) (by omega)) h⟩
  | r + 1, k, a, h, hp => by
    refine ⟨fun h2 => absurd h2 (nI_ge (a := k) (b := 32) (by omega) (by omega)), fun _ => ⟨vp_in_nI (by omega) (by omega), ?_⟩⟩
    rw [nI_clamp (by omega), nI_1]
    exact x_sum r (k + 1) _ (by omega) hp
theorem m_sum {n : Nat} {p p1 : Int32} {post : Int32 → qx_St → Prop} (hn : s 30 0 0 = nI n) (n8 : n ≤ 8) : ∀ (r k : Nat) (a : Int32), k + r = 4 * n → (((p = (0 : Int32) → post (s 30 0 0) s) ∧ (p = (1 : Int32) → post (s 30 0 10) s) ∧ (p = (2 : Int32) → post (s 30 0 11) s) ∧ (p = (3 : Int32) → post (sm (fun i => s 34 0 i) r k a) s) ∧ ((∀ i : Nat, i < 4 → ¬ p = Int32.ofInt (0 + i)) → post (-102 : Int32) s))) → wX10_count_l4 p1 post (r + 1) p a (nI k) s
  | 0, k, a, h, hp => by
    obtain rfl : k = 4 * n := by omega
    refine ⟨fun _ => hp, fun h => absurd ?_ h⟩
    rw [hn, show (4 : Int32) = nI 4 from rfl, pk_mul]
    exact nI_le (Nat.le_refl _) (by omega)
  | r + 1, k, a, h, hp => by
    have e1 : (4 : Int32) * s 30 0 0 = nI (4 * n) := by rw [hn, show (4 : Int32) = nI 4 from rfl, pk_mul]
    refine ⟨fun h2 => ?_, fun _ => ⟨vp_in_nI (by omega) (by omega), ?_⟩⟩
    · rw [e1] at h2
      exact absurd h2 (nI_ge (by omega) (by omega))
    · rw [nI_clamp (by omega), nI_1]
      exact m_sum hn n8 r (k + 1) _ (by omega) hp
theorem q_count (p : Int32) (hR : RX s) : QQ (wX9_count p) (wX10_count p) s := by
  obtain ⟨n, ev, e, hP, hV, hQ⟩ := hR
  have hR : RX s := ⟨n, ev, e, hP, hV, hQ⟩
  obtain ⟨q1, q2, q3, q4, q5, q6, q7, q8, q9⟩ := hQ
  obtain ⟨n8, p1, p2, p3, p4, p5⟩ := hP
  rcases wi p 0 3 (by omega) (by omega) with ⟨⟨c, -, hc, rfl⟩, -⟩ | ⟨hn, -⟩
  · rcases (show c = 0 ∨ c = 1 ∨ c = 2 ∨ c = 3 by omega) with rfl | rfl | rfl | rfl
    · exact ⟨s 1 0 1, s, s, fun post hp => ⟨fun _ => hp, fun h => absurd h (by decide), fun h => absurd h (by decide), fun h => absurd h (by decide), fun h => absurd (by decide) (h 0 (by decide))⟩, fun post hp => ⟨_, m_sum p2 n8 (4 * n) 0 _ (by omega) ⟨fun _ => pv (p1.trans p2.symm) hp, fun h => absurd h (by decide), fun h => absurd h (by decide), fun h => absurd h (by decide), fun h => absurd (by decide) (h 0 (by decide))⟩⟩, hR⟩
    · exact ⟨s 7 0 8, s, s, fun post hp => ⟨fun h => absurd h (by decide), fun _ => hp, fun h => absurd h (by decide), fun h => absurd h (by decide), fun h => absurd (by decide) (h 1 (by decide))⟩, fun post hp => ⟨_, m_sum p2 n8 (4 * n) 0 _ (by omega) ⟨fun h => absurd h (by decide), fun _ => pv q5 hp, fun h => absurd h (by decide), fun h => absurd h (by decide), fun h => absurd (by decide) (h 1 (by decide))⟩⟩, hR⟩
    · exact ⟨s 7 0 9, s, s, fun post hp => ⟨fun h => absurd h (by decide), fun h => absurd h (by decide), fun _ => hp, fun h => absurd h (by decide), fun h => absurd (by decide) (h 2 (by decide))⟩, fun post hp => ⟨_, m_sum p2 n8 (4 * n) 0 _ (by omega) ⟨fun h => absurd h (by decide), fun h => absurd h (by decide), fun _ => pv q6 hp, fun h => absurd h (by decide), fun h => absurd (by decide) (h 2 (by decide))⟩⟩, hR⟩
    · have E : sm (fun i => s 17 i 3) 32 0 0 = sm (fun i => s 34 0 i) (4 * n) 0 0 := by
        rw [show 32 = 4 * n + (32 - 4 * n) by omega, sm_add, sm_0 (32 - 4 * n) _ _ (fun i h1 h2 => (p5 i (by omega) (by omega)).1)]
        refine sm_cg _ _ _ (fun i h1 h2 => ?_)
        obtain ⟨k, -, h3, h4, -⟩ := p3 i (by omega)
        exact h3.trans h4.symm
      exact ⟨sm (fun i => s 17 i 3) 32 0 0, s, s, fun post hp => ⟨fun h => absurd h (by decide), fun h => absurd h (by decide), fun h => absurd h (by decide), fun _ => ⟨_, x_sum 32 0 _ (by omega) hp⟩, fun h => absurd (by decide) (h 3 (by decide))⟩, fun post hp => ⟨_, m_sum p2 n8 (4 * n) 0 _ (by omega) ⟨fun h => absurd h (by decide), fun h => absurd h (by decide), fun h => absurd h (by decide), fun _ => pv E hp, fun h => absurd (by decide) (h 3 (by decide))⟩⟩, hR⟩
  · exact ⟨-102, s, s, fun post hp => ⟨fun h => absurd h (hn 0 (by omega) (by omega)), fun h => absurd h (hn 1 (by omega) (by omega)), fun h => absurd h (hn 2 (by omega) (by omega)), fun h => absurd h (hn 3 (by omega) (by omega)), fun _ => hp⟩, fun post hp => ⟨_, m_sum p2 n8 (4 * n) 0 _ (by omega) ⟨fun h => absurd h (hn 0 (by omega) (by omega)), fun h => absurd h (hn 1 (by omega) (by omega)), fun h => absurd h (hn 2 (by omega) (by omega)), fun h => absurd h (hn 3 (by omega) (by omega)), fun _ => hp⟩⟩, hR⟩
end QTELL
