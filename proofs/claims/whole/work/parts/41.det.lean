theorem uX9_within (p0 : Int32) (p1 : Int32) (p2 : Int32) {post1 post2 : Int32 → qx_St → Prop} (σ : qx_St) (h1 : wX9_within p0 p1 p2 σ post1) (h2 : wX9_within p0 p1 p2 σ post2) : ∃ r s, post1 r s ∧ post2 r s := by
  unfold wX9_within at h1 h2
  rcases Classical.em (p0 < p1) with c2 | c2
  · have h1 := h1.1 c2
    have h2 := h2.1 c2
    exact ⟨_, _, h1, h2⟩
  · have h1 := h1.2 c2
    have h2 := h2.2 c2
    rcases Classical.em (p2 < p0) with c1 | c1
    · have h1 := h1.1 c1
      have h2 := h2.1 c1
      exact ⟨_, _, h1, h2⟩
    · have h1 := h1.2 c1
      have h2 := h2.2 c1
      exact ⟨_, _, h1, h2⟩
theorem uX0_fits (p0 : Int32) (p1 : Int32) (p2 : Int32) {post1 post2 : Int32 → qx_St → Prop} (σ : qx_St) (h1 : wX0_fits p0 p1 p2 σ post1) (h2 : wX0_fits p0 p1 p2 σ post2) : ∃ r s, post1 r s ∧ post2 r s := by
  unfold wX0_fits at h1 h2
  rcases Classical.em (p0 = (6 : Int32)) with s10 | s10
  · have h1 := h1.1 s10
    have h2 := h2.1 s10
    obtain ⟨r3, s2, h1, h2⟩ := uX9_within p1 (0 : Int32) (7 : Int32) σ h1 h2
    have h1 := h1.2
    have h2 := h2.2
    exact ⟨_, _, h1, h2⟩
  · skip
    rcases Classical.em (p0 = (7 : Int32)) with s11 | s11
    · have h1 := h1.2.1 s11
      have h2 := h2.2.1 s11
      obtain ⟨r5, s4, h1, h2⟩ := uX9_within p1 (0 : Int32) (7 : Int32) σ h1 h2
      have h1 := h1.2
      have h2 := h2.2
      exact ⟨_, _, h1, h2⟩
    · skip
      rcases Classical.em (p0 = (8 : Int32)) with s12 | s12
      · have h1 := h1.2.2.1 s12
        have h2 := h2.2.2.1 s12
        obtain ⟨r7, s6, h1, h2⟩ := uX9_within p0 (0 : Int32) (25 : Int32) σ h1 h2
        have h1 := h1.2
        have h2 := h2.2
        exact ⟨_, _, h1, h2⟩
      · skip
        rcases Classical.em (p0 = (9 : Int32)) with s13 | s13
        · have h1 := h1.2.2.2.1 s13
          have h2 := h2.2.2.2.1 s13
          obtain ⟨r9, s8, h1, h2⟩ := uX9_within p0 (0 : Int32) (25 : Int32) σ h1 h2
          have h1 := h1.2
          have h2 := h2.2
          exact ⟨_, _, h1, h2⟩
        · skip
          rcases Classical.em (p0 = (10 : Int32)) with s14 | s14
          · have h1 := h1.2.2.2.2.1 s14
            have h2 := h2.2.2.2.2.1 s14
            obtain ⟨r11, s10, h1, h2⟩ := uX9_within p0 (0 : Int32) (25 : Int32) σ h1 h2
            have h1 := h1.2
            have h2 := h2.2
            exact ⟨_, _, h1, h2⟩
          · skip
            rcases Classical.em (p0 = (11 : Int32)) with s15 | s15
            · have h1 := h1.2.2.2.2.2.1 s15
              have h2 := h2.2.2.2.2.2.1 s15
              obtain ⟨r13, s12, h1, h2⟩ := uX9_within p0 (0 : Int32) (25 : Int32) σ h1 h2
              have h1 := h1.2
              have h2 := h2.2
              exact ⟨_, _, h1, h2⟩
            · skip
              rcases Classical.em (p0 = (12 : Int32)) with s16 | s16
              · have h1 := h1.2.2.2.2.2.2.1 s16
                have h2 := h2.2.2.2.2.2.2.1 s16
                obtain ⟨r15, s14, h1, h2⟩ := uX9_within p0 (0 : Int32) (25 : Int32) σ h1 h2
                have h1 := h1.2
                have h2 := h2.2
                exact ⟨_, _, h1, h2⟩
              · skip
                rcases Classical.em (p0 = (13 : Int32)) with s17 | s17
                · have h1 := h1.2.2.2.2.2.2.2.1 s17
                  have h2 := h2.2.2.2.2.2.2.2.1 s17
                  obtain ⟨r17, s16, h1, h2⟩ := uX9_within p0 (0 : Int32) (25 : Int32) σ h1 h2
                  have h1 := h1.2
                  have h2 := h2.2
                  exact ⟨_, _, h1, h2⟩
                · skip
                  rcases Classical.em (p0 = (14 : Int32)) with s18 | s18
                  · have h1 := h1.2.2.2.2.2.2.2.2.1 s18
                    have h2 := h2.2.2.2.2.2.2.2.2.1 s18
                    obtain ⟨r19, s18, h1, h2⟩ := uX9_within p1 (1 : Int32) (20 : Int32) σ h1 h2
                    have h1 := h1.2
                    have h2 := h2.2
                    exact ⟨_, _, h1, h2⟩
                  · skip
                    rcases Classical.em (p0 = (15 : Int32)) with s19 | s19
                    · have h1 := h1.2.2.2.2.2.2.2.2.2.1 s19
                      have h2 := h2.2.2.2.2.2.2.2.2.2.1 s19
                      obtain ⟨r21, s20, h1, h2⟩ := uX9_within p1 (1 : Int32) (20 : Int32) σ h1 h2
                      have h1 := h1.2
                      have h2 := h2.2
                      exact ⟨_, _, h1, h2⟩
                    · skip
                      rcases Classical.em (p0 = (16 : Int32)) with s110 | s110
                      · have h1 := h1.2.2.2.2.2.2.2.2.2.2.1 s110
                        have h2 := h2.2.2.2.2.2.2.2.2.2.2.1 s110
                        obtain ⟨r23, s22, h1, h2⟩ := uX9_within p0 (0 : Int32) (25 : Int32) σ h1 h2
                        have h1 := h1.2
                        have h2 := h2.2
                        exact ⟨_, _, h1, h2⟩
                      · skip
                        rcases Classical.em (p0 = (17 : Int32)) with s111 | s111
                        · have h1 := h1.2.2.2.2.2.2.2.2.2.2.2.1 s111
                          have h2 := h2.2.2.2.2.2.2.2.2.2.2.2.1 s111
                          obtain ⟨r25, s24, h1, h2⟩ := uX9_within p0 (0 : Int32) (25 : Int32) σ h1 h2
                          have h1 := h1.2
                          have h2 := h2.2
                          exact ⟨_, _, h1, h2⟩
                        · skip
                          rcases Classical.em (p0 = (18 : Int32)) with s112 | s112
                          · have h1 := h1.2.2.2.2.2.2.2.2.2.2.2.2.1 s112
                            have h2 := h2.2.2.2.2.2.2.2.2.2.2.2.2.1 s112
                            obtain ⟨r27, s26, h1, h2⟩ := uX9_within p0 (0 : Int32) (25 : Int32) σ h1 h2
                            have h1 := h1.2
                            have h2 := h2.2
                            exact ⟨_, _, h1, h2⟩
                          · skip
                            rcases Classical.em (p0 = (19 : Int32)) with s113 | s113
                            · have h1 := h1.2.2.2.2.2.2.2.2.2.2.2.2.2.1 s113
                              have h2 := h2.2.2.2.2.2.2.2.2.2.2.2.2.2.1 s113
                              obtain ⟨r29, s28, h1, h2⟩ := uX9_within p1 (0 : Int32) (7 : Int32) σ h1 h2
                              rcases Classical.em (r29 = 0) with c33 | c33
                              · have h1 := h1.1 c33
                                have h2 := h2.1 c33
                                exact ⟨_, _, h1, h2⟩
                              · have h1 := h1.2 c33
                                have h2 := h2.2 c33
                                obtain ⟨r31, s30, h1, h2⟩ := uX9_within p2 (0 : Int32) (3 : Int32) s28 h1 h2
                                rcases Classical.em (r31 = 0) with c32 | c32
                                · have h1 := h1.1 c32
                                  have h2 := h2.1 c32
                                  exact ⟨_, _, h1, h2⟩
                                · have h1 := h1.2 c32
                                  have h2 := h2.2 c32
                                  exact ⟨_, _, h1, h2⟩
                            · skip
                              rcases Classical.em (p0 = (20 : Int32)) with s114 | s114
                              · have h1 := h1.2.2.2.2.2.2.2.2.2.2.2.2.2.2.1 s114
                                have h2 := h2.2.2.2.2.2.2.2.2.2.2.2.2.2.2.1 s114
                                obtain ⟨r35, s34, h1, h2⟩ := uX9_within p1 (0 : Int32) (7 : Int32) σ h1 h2
                                rcases Classical.em (r35 = 0) with c39 | c39
                                · have h1 := h1.1 c39
                                  have h2 := h2.1 c39
                                  exact ⟨_, _, h1, h2⟩
                                · have h1 := h1.2 c39
                                  have h2 := h2.2 c39
                                  obtain ⟨r37, s36, h1, h2⟩ := uX9_within p2 (0 : Int32) (3 : Int32) s34 h1 h2
                                  rcases Classical.em (r37 = 0) with c38 | c38
                                  · have h1 := h1.1 c38
                                    have h2 := h2.1 c38
                                    exact ⟨_, _, h1, h2⟩
                                  · have h1 := h1.2 c38
                                    have h2 := h2.2 c38
                                    exact ⟨_, _, h1, h2⟩
                              · skip
                                rcases Classical.em (p0 = (21 : Int32)) with s115 | s115
                                · have h1 := h1.2.2.2.2.2.2.2.2.2.2.2.2.2.2.2.1 s115
                                  have h2 := h2.2.2.2.2.2.2.2.2.2.2.2.2.2.2.2.1 s115
                                  obtain ⟨r41, s40, h1, h2⟩ := uX9_within p1 (0 : Int32) (7 : Int32) σ h1 h2
                                  rcases Classical.em (r41 = 0) with c45 | c45
                                  · have h1 := h1.1 c45
                                    have h2 := h2.1 c45
                                    exact ⟨_, _, h1, h2⟩
                                  · have h1 := h1.2 c45
                                    have h2 := h2.2 c45
                                    obtain ⟨r43, s42, h1, h2⟩ := uX9_within p2 (0 : Int32) (3 : Int32) s40 h1 h2
                                    rcases Classical.em (r43 = 0) with c44 | c44
                                    · have h1 := h1.1 c44
                                      have h2 := h2.1 c44
                                      exact ⟨_, _, h1, h2⟩
                                    · have h1 := h1.2 c44
                                      have h2 := h2.2 c44
                                      exact ⟨_, _, h1, h2⟩
                                · skip
                                  rcases Classical.em (p0 = (22 : Int32)) with s116 | s116
                                  · have h1 := h1.2.2.2.2.2.2.2.2.2.2.2.2.2.2.2.2.1 s116
                                    have h2 := h2.2.2.2.2.2.2.2.2.2.2.2.2.2.2.2.2.1 s116
                                    obtain ⟨r47, s46, h1, h2⟩ := uX9_within p0 (0 : Int32) (25 : Int32) σ h1 h2
                                    have h1 := h1.2
                                    have h2 := h2.2
                                    exact ⟨_, _, h1, h2⟩
                                  · skip
                                    rcases Classical.em (p0 = (23 : Int32)) with s117 | s117
                                    · have h1 := h1.2.2.2.2.2.2.2.2.2.2.2.2.2.2.2.2.2.1 s117
                                      have h2 := h2.2.2.2.2.2.2.2.2.2.2.2.2.2.2.2.2.2.1 s117
                                      obtain ⟨r49, s48, h1, h2⟩ := uX9_within p1 (0 : Int32) (3 : Int32) σ h1 h2
                                      have h1 := h1.2
                                      have h2 := h2.2
                                      exact ⟨_, _, h1, h2⟩
                                    · skip
                                      rcases Classical.em (p0 = (24 : Int32)) with s118 | s118
                                      · have h1 := h1.2.2.2.2.2.2.2.2.2.2.2.2.2.2.2.2.2.2.1 s118
                                        have h2 := h2.2.2.2.2.2.2.2.2.2.2.2.2.2.2.2.2.2.2.1 s118
                                        obtain ⟨r51, s50, h1, h2⟩ := uX9_within p0 (0 : Int32) (25 : Int32) σ h1 h2
                                        have h1 := h1.2
                                        have h2 := h2.2
                                        exact ⟨_, _, h1, h2⟩
                                      · skip
                                        rcases Classical.em (p0 = (25 : Int32)) with s119 | s119
                                        · have h1 := h1.2.2.2.2.2.2.2.2.2.2.2.2.2.2.2.2.2.2.2.1 s119
                                          have h2 := h2.2.2.2.2.2.2.2.2.2.2.2.2.2.2.2.2.2.2.2.1 s119
                                          obtain ⟨r53, s52, h1, h2⟩ := uX9_within p1 (10 : Int32) (99 : Int32) σ h1 h2
                                          have h1 := h1.2
                                          have h2 := h2.2
                                          exact ⟨_, _, h1, h2⟩
                                        · skip
                                          have hall : ∀ i : Nat, i < 20 → ¬ p0 = Int32.ofInt (6 + i) := by
                                            intro i hi
                                            rcases (show i = 0 ∨ i = 1 ∨ i = 2 ∨ i = 3 ∨ i = 4 ∨ i = 5 ∨ i = 6 ∨ i = 7 ∨ i = 8 ∨ i = 9 ∨ i = 10 ∨ i = 11 ∨ i = 12 ∨ i = 13 ∨ i = 14 ∨ i = 15 ∨ i = 16 ∨ i = 17 ∨ i = 18 ∨ i = 19 by omega) with rfl | rfl | rfl | rfl | rfl | rfl | rfl | rfl | rfl | rfl | rfl | rfl | rfl | rfl | rfl | rfl | rfl | rfl | rfl | rfl
                                            · exact fun q => s10 (q.trans (by decide))
                                            · exact fun q => s11 (q.trans (by decide))
                                            · exact fun q => s12 (q.trans (by decide))
                                            · exact fun q => s13 (q.trans (by decide))
                                            · exact fun q => s14 (q.trans (by decide))
                                            · exact fun q => s15 (q.trans (by decide))
                                            · exact fun q => s16 (q.trans (by decide))
                                            · exact fun q => s17 (q.trans (by decide))
                                            · exact fun q => s18 (q.trans (by decide))
                                            · exact fun q => s19 (q.trans (by decide))
                                            · exact fun q => s110 (q.trans (by decide))
                                            · exact fun q => s111 (q.trans (by decide))
                                            · exact fun q => s112 (q.trans (by decide))
                                            · exact fun q => s113 (q.trans (by decide))
                                            · exact fun q => s114 (q.trans (by decide))
                                            · exact fun q => s115 (q.trans (by decide))
                                            · exact fun q => s116 (q.trans (by decide))
                                            · exact fun q => s117 (q.trans (by decide))
                                            · exact fun q => s118 (q.trans (by decide))
                                            · exact fun q => s119 (q.trans (by decide))
                                          have h1 := h1.2.2.2.2.2.2.2.2.2.2.2.2.2.2.2.2.2.2.2.2 hall
                                          have h2 := h2.2.2.2.2.2.2.2.2.2.2.2.2.2.2.2.2.2.2.2.2 hall
                                          obtain ⟨r55, s54, h1, h2⟩ := uX9_within p0 (0 : Int32) (25 : Int32) σ h1 h2
                                          have h1 := h1.2
                                          have h2 := h2.2
                                          exact ⟨_, _, h1, h2⟩
theorem uX0_writes (p0 : Int32) {post1 post2 : Int32 → qx_St → Prop} (σ : qx_St) (h1 : wX0_writes p0 σ post1) (h2 : wX0_writes p0 σ post2) : ∃ r s, post1 r s ∧ post2 r s := by
  unfold wX0_writes at h1 h2
  rcases Classical.em (p0 = (7 : Int32)) with c3 | c3
  · have h1 := h1.1 c3
    have h2 := h2.1 c3
    exact ⟨_, _, h1, h2⟩
  · have h1 := h1.2 c3
    have h2 := h2.2 c3
    rcases Classical.em (p0 = (22 : Int32)) with c2 | c2
    · have h1 := h1.1 c2
      have h2 := h2.1 c2
      exact ⟨_, _, h1, h2⟩
    · have h1 := h1.2 c2
      have h2 := h2.2 c2
      rcases Classical.em (p0 = (23 : Int32)) with c1 | c1
      · have h1 := h1.1 c1
        have h2 := h2.1 c1
        exact ⟨_, _, h1, h2⟩
      · have h1 := h1.2 c1
        have h2 := h2.2 c1
        exact ⟨_, _, h1, h2⟩
theorem uX0_fitsStack (p0 : Int32) (p1 : Int32) {post1 post2 : Int32 → qx_St → Prop} (σ : qx_St) (h1 : wX0_fitsStack p0 p1 σ post1) (h2 : wX0_fitsStack p0 p1 σ post2) : ∃ r s, post1 r s ∧ post2 r s := by
  unfold wX0_fitsStack at h1 h2
  have h1 := h1.2
  have h2 := h2.2
  rcases Classical.em (p1 < (qx_takesI p0.toNatClampNeg)) with c2 | c2
  · have h1 := h1.1 c2
    have h2 := h2.1 c2
    exact ⟨_, _, h1, h2⟩
  · have h1 := h1.2 c2
    have h2 := h2.2 c2
    have h1 := h1.2
    have h2 := h2.2
    have h1 := h1.2
    have h2 := h2.2
    rcases Classical.em ((8 : Int32) < ((p1 - (qx_takesI p0.toNatClampNeg)) + (qx_putsI p0.toNatClampNeg))) with c1 | c1
    · have h1 := h1.1 c1
      have h2 := h2.1 c1
      exact ⟨_, _, h1, h2⟩
    · have h1 := h1.2 c1
      have h2 := h2.2 c1
      exact ⟨_, _, h1, h2⟩
theorem uX1_begin (d0 : Nat) (p1 : Int32) (p2 : Int32) (p3 : Int32) (p4 : Int32) (p5 : Int32) {post1 post2 : qx_St → Prop} (σ : qx_St) (h1 : wX1_begin d0 p1 p2 p3 p4 p5 σ post1) (h2 : wX1_begin d0 p1 p2 p3 p4 p5 σ post2) : ∃ s, post1 s ∧ post2 s := by
  unfold wX1_begin at h1 h2
  obtain ⟨s1, e2⟩ : ∃ z, z = qx_st σ 12 d0 2 p1 := ⟨_, rfl⟩
  have h1 := h1 s1 e2
  have h2 := h2 s1 e2
  obtain ⟨s3, e4⟩ : ∃ z, z = qx_st s1 12 d0 3 p2 := ⟨_, rfl⟩
  have h1 := h1 s3 e4
  have h2 := h2 s3 e4
  obtain ⟨s5, e6⟩ : ∃ z, z = qx_st s3 12 d0 4 p3 := ⟨_, rfl⟩
  have h1 := h1 s5 e6
  have h2 := h2 s5 e6
  obtain ⟨s7, e8⟩ : ∃ z, z = qx_st s5 12 d0 5 p4 := ⟨_, rfl⟩
  have h1 := h1 s7 e8
  have h2 := h2 s7 e8
  obtain ⟨s9, e10⟩ : ∃ z, z = qx_st s7 12 d0 8 p5 := ⟨_, rfl⟩
  have h1 := h1 s9 e10
  have h2 := h2 s9 e10
  obtain ⟨s11, e12⟩ : ∃ z, z = qx_st s9 12 d0 9 p5 := ⟨_, rfl⟩
  have h1 := h1 s11 e12
  have h2 := h2 s11 e12
  obtain ⟨s13, e14⟩ : ∃ z, z = qx_st s11 12 d0 1 (0 : Int32) := ⟨_, rfl⟩
  have h1 := h1 s13 e14
  have h2 := h2 s13 e14
  obtain ⟨s15, e16⟩ : ∃ z, z = qx_st s13 12 d0 10 (0 : Int32) := ⟨_, rfl⟩
  have h1 := h1 s15 e16
  have h2 := h2 s15 e16
  obtain ⟨s17, e18⟩ : ∃ z, z = qx_st s15 12 d0 11 (0 : Int32) := ⟨_, rfl⟩
  have h1 := h1 s17 e18
  have h2 := h2 s17 e18
  obtain ⟨s19, e20⟩ : ∃ z, z = qx_st s17 12 d0 12 (0 : Int32) := ⟨_, rfl⟩
  have h1 := h1 s19 e20
  have h2 := h2 s19 e20
  obtain ⟨s21, e22⟩ : ∃ z, z = qx_st s19 12 d0 13 (0 : Int32) := ⟨_, rfl⟩
  have h1 := h1 s21 e22
  have h2 := h2 s21 e22
  exact ⟨_, h1, h2⟩
theorem uX1_used (d0 : Nat) {post1 post2 : Int32 → qx_St → Prop} (σ : qx_St) (h1 : wX1_used d0 σ post1) (h2 : wX1_used d0 σ post2) : ∃ r s, post1 r s ∧ post2 r s := by
  unfold wX1_used at h1 h2
  exact ⟨_, _, h1, h2⟩
theorem uX1_hasThrown (d0 : Nat) {post1 post2 : Int32 → qx_St → Prop} (σ : qx_St) (h1 : wX1_hasThrown d0 σ post1) (h2 : wX1_hasThrown d0 σ post2) : ∃ r s, post1 r s ∧ post2 r s := by
  unfold wX1_hasThrown at h1 h2
  rcases Classical.em ((σ 12 d0 12) = 0) with c1 | c1
  · have h1 := h1.1 c1
    have h2 := h2.1 c1
    exact ⟨_, _, h1, h2⟩
  · have h1 := h1.2 c1
    have h2 := h2.2 c1
    exact ⟨_, _, h1, h2⟩
theorem uX1_put (d0 : Nat) (p1 : Int32) {post1 post2 : qx_St → Prop} (σ : qx_St) (h1 : wX1_put d0 p1 σ post1) (h2 : wX1_put d0 p1 σ post2) : ∃ s, post1 s ∧ post2 s := by
  unfold wX1_put at h1 h2
  have h1 := h1.2
  have h2 := h2.2
  obtain ⟨s1, e2⟩ : ∃ z, z = qx_st σ 13 d0 (σ 12 d0 1).toNatClampNeg p1 := ⟨_, rfl⟩
  have h1 := h1 s1 e2
  have h2 := h2 s1 e2
  obtain ⟨s3, e4⟩ : ∃ z, z = qx_st s1 12 d0 1 ((s1 12 d0 1) + (1 : Int32)) := ⟨_, rfl⟩
  have h1 := h1 s3 e4
  have h2 := h2 s3 e4
  exact ⟨_, h1, h2⟩
theorem uX1_take (d0 : Nat) {post1 post2 : Int32 → qx_St → Prop} (σ : qx_St) (h1 : wX1_take d0 σ post1) (h2 : wX1_take d0 σ post2) : ∃ r s, post1 r s ∧ post2 r s := by
  unfold wX1_take at h1 h2
  obtain ⟨s1, e2⟩ : ∃ z, z = qx_st σ 12 d0 1 ((σ 12 d0 1) - (1 : Int32)) := ⟨_, rfl⟩
  have h1 := h1 s1 e2
  have h2 := h2 s1 e2
  have h1 := h1.2
  have h2 := h2.2
  exact ⟨_, _, h1, h2⟩
theorem uX1_endGiving (d0 : Nat) (p1 : Int32) {post1 post2 : qx_St → Prop} (σ : qx_St) (h1 : wX1_endGiving d0 p1 σ post1) (h2 : wX1_endGiving d0 p1 σ post2) : ∃ s, post1 s ∧ post2 s := by
  unfold wX1_endGiving at h1 h2
  obtain ⟨s1, e2⟩ : ∃ z, z = qx_st σ 12 d0 11 (1 : Int32) := ⟨_, rfl⟩
  have h1 := h1 s1 e2
  have h2 := h2 s1 e2
  obtain ⟨s3, e4⟩ : ∃ z, z = qx_st s1 12 d0 13 p1 := ⟨_, rfl⟩
  have h1 := h1 s3 e4
  have h2 := h2 s3 e4
  exact ⟨_, h1, h2⟩
theorem uX1_endThrowing (d0 : Nat) (p1 : Int32) {post1 post2 : qx_St → Prop} (σ : qx_St) (h1 : wX1_endThrowing d0 p1 σ post1) (h2 : wX1_endThrowing d0 p1 σ post2) : ∃ s, post1 s ∧ post2 s := by
  unfold wX1_endThrowing at h1 h2
  obtain ⟨s1, e2⟩ : ∃ z, z = qx_st σ 12 d0 11 (1 : Int32) := ⟨_, rfl⟩
  have h1 := h1 s1 e2
  have h2 := h2 s1 e2
  obtain ⟨s3, e4⟩ : ∃ z, z = qx_st s1 12 d0 12 p1 := ⟨_, rfl⟩
  have h1 := h1 s3 e4
  have h2 := h2 s3 e4
  exact ⟨_, h1, h2⟩
theorem uX4_memberOf (p1 : Int32) (p2 : Int32) {post1 post2 : Nat → qx_St → Prop} (σ : qx_St) (h1 : wX4_memberOf p1 p2 σ post1) (h2 : wX4_memberOf p1 p2 σ post2) : ∃ r s, post1 r s ∧ post2 r s := by
  unfold wX4_memberOf at h1 h2
  have h1 := h1.2
  have h2 := h2.2
  exact ⟨_, _, h1, h2⟩
theorem uX5_enter (p1 : Int32) {post1 post2 : Int32 → qx_St → Prop} (σ : qx_St) (h1 : wX5_enter p1 σ post1) (h2 : wX5_enter p1 σ post2) : ∃ r s, post1 r s ∧ post2 r s := by
  unfold wX5_enter at h1 h2
  obtain ⟨s1, e2⟩ : ∃ z, z = qx_st σ 7 0 7 (if (σ 7 0 7) < p1 then p1 else (σ 7 0 7)) := ⟨_, rfl⟩
  have h1 := h1 s1 e2
  have h2 := h2 s1 e2
  obtain ⟨s3, e4⟩ : ∃ z, z = qx_st s1 7 0 6 ((s1 7 0 6) + (1 : Int32)) := ⟨_, rfl⟩
  have h1 := h1 s3 e4
  have h2 := h2 s3 e4
  exact ⟨_, _, h1, h2⟩
theorem uX6_keep (d0 : Nat) {post1 post2 : qx_St → Prop} (σ : qx_St) (h1 : wX6_keep d0 σ post1) (h2 : wX6_keep d0 σ post2) : ∃ s, post1 s ∧ post2 s := by
  unfold wX6_keep at h1 h2
  obtain ⟨s1, e2⟩ : ∃ z, z = qx_sa σ 15 d0 (va_cpy (σ 4 0) (σ 15 d0) ((0 : Int32)).toNatClampNeg ((0 : Int32)).toNatClampNeg ((64 : Int32)).toNatClampNeg) := ⟨_, rfl⟩
  have h1 := h1 s1 e2
  have h2 := h2 s1 e2
  obtain ⟨s3, e4⟩ : ∃ z, z = qx_sa s1 16 d0 (va_cpy (s1 5 0) (s1 16 d0) ((0 : Int32)).toNatClampNeg ((0 : Int32)).toNatClampNeg ((13 : Int32)).toNatClampNeg) := ⟨_, rfl⟩
  have h1 := h1 s3 e4
  have h2 := h2 s3 e4
  obtain ⟨s5, e6⟩ : ∃ z, z = qx_st s3 14 d0 2 (s3 3 0 3) := ⟨_, rfl⟩
  have h1 := h1 s5 e6
  have h2 := h2 s5 e6
  obtain ⟨s7, e8⟩ : ∃ z, z = qx_st s5 14 d0 3 (s5 3 0 4) := ⟨_, rfl⟩
  have h1 := h1 s7 e8
  have h2 := h2 s7 e8
  exact ⟨_, h1, h2⟩
theorem uX8_move (p1 : Int32) (p2 : Int32) (p3 : Int32) {post1 post2 : qx_St → Prop} (σ : qx_St) (h1 : wX8_move p1 p2 p3 σ post1) (h2 : wX8_move p1 p2 p3 σ post2) : ∃ s, post1 s ∧ post2 s := by
  unfold wX8_move at h1 h2
  have h1 := h1.2
  have h2 := h2.2
  have h1 := h1.2
  have h2 := h2.2
  obtain ⟨s1, e2⟩ : ∃ z, z = qx_st σ 5 0 p1.toNatClampNeg ((σ 5 0 p1.toNatClampNeg) - p3) := ⟨_, rfl⟩
  have h1 := h1 s1 e2
  have h2 := h2 s1 e2
  have h1 := h1.2
  have h2 := h2.2
  have h1 := h1.2
  have h2 := h2.2
  obtain ⟨s3, e4⟩ : ∃ z, z = qx_st s1 5 0 p2.toNatClampNeg ((s1 5 0 p2.toNatClampNeg) + p3) := ⟨_, rfl⟩
  have h1 := h1 s3 e4
  have h2 := h2 s3 e4
  exact ⟨_, h1, h2⟩
theorem uX2_numberFor (d1 : Nat) (p2 : Int32) (p3 : Int32) {post1 post2 : Int32 → qx_St → Prop} (σ : qx_St) (h1 : wX2_numberFor d1 p2 p3 σ post1) (h2 : wX2_numberFor d1 p2 p3 σ post2) : ∃ r s, post1 r s ∧ post2 r s := by
  unfold wX2_numberFor at h1 h2
  rcases Classical.em (p2 = (1 : Int32)) with s10 | s10
  · have h1 := h1.1 s10
    have h2 := h2.1 s10
    exact ⟨_, _, h1, h2⟩
  · skip
    rcases Classical.em (p2 = (2 : Int32)) with s11 | s11
    · have h1 := h1.2.1 s11
      have h2 := h2.2.1 s11
      exact ⟨_, _, h1, h2⟩
    · skip
      rcases Classical.em (p2 = (3 : Int32)) with s12 | s12
      · have h1 := h1.2.2.1 s12
        have h2 := h2.2.2.1 s12
        exact ⟨_, _, h1, h2⟩
      · skip
        rcases Classical.em (p2 = (4 : Int32)) with s13 | s13
        · have h1 := h1.2.2.2.1 s13
          have h2 := h2.2.2.2.1 s13
          have h1 := h1.2
          have h2 := h2.2
          exact ⟨_, _, h1, h2⟩
        · skip
          rcases Classical.em (p2 = (5 : Int32)) with s14 | s14
          · have h1 := h1.2.2.2.2.1 s14
            have h2 := h2.2.2.2.2.1 s14
            exact ⟨_, _, h1, h2⟩
          · skip
            rcases Classical.em (p2 = (6 : Int32)) with s15 | s15
            · have h1 := h1.2.2.2.2.2.1 s15
              have h2 := h2.2.2.2.2.2.1 s15
              have h1 := h1.2
              have h2 := h2.2
              exact ⟨_, _, h1, h2⟩
            · skip
              have hall : ∀ i : Nat, i < 6 → ¬ p2 = Int32.ofInt (1 + i) := by
                intro i hi
                rcases (show i = 0 ∨ i = 1 ∨ i = 2 ∨ i = 3 ∨ i = 4 ∨ i = 5 by omega) with rfl | rfl | rfl | rfl | rfl | rfl
                · exact fun q => s10 (q.trans (by decide))
                · exact fun q => s11 (q.trans (by decide))
                · exact fun q => s12 (q.trans (by decide))
                · exact fun q => s13 (q.trans (by decide))
                · exact fun q => s14 (q.trans (by decide))
                · exact fun q => s15 (q.trans (by decide))
              have h1 := h1.2.2.2.2.2.2 hall
              have h2 := h2.2.2.2.2.2.2 hall
              exact ⟨_, _, h1, h2⟩
theorem uX2_divide (d0 : Nat) (p1 : Int32) (p2 : Int32) {post1 post2 : qx_St → Prop} (σ : qx_St) (h1 : wX2_divide d0 p1 p2 σ post1) (h2 : wX2_divide d0 p1 p2 σ post2) : ∃ s, post1 s ∧ post2 s := by
  unfold wX2_divide at h1 h2
  rcases Classical.em (p2 = 0) with c5 | c5
  · have h1 := h1.1 c5
    have h2 := h2.1 c5
    obtain ⟨s3, h1, h2⟩ := uX1_endThrowing d0 (3 : Int32) σ h1 h2
    exact ⟨_, h1, h2⟩
  · have h1 := h1.2 c5
    have h2 := h2.2 c5
    have h1 := h1.2
    have h2 := h2.2
    obtain ⟨s1, h1, h2⟩ := uX1_put d0 (p1 / p2) σ h1 h2
    exact ⟨_, h1, h2⟩
theorem uX2_combined (p0 : Int32) (p1 : Int32) (p2 : Int32) {post1 post2 : Int32 → qx_St → Prop} (σ : qx_St) (h1 : wX2_combined p0 p1 p2 σ post1) (h2 : wX2_combined p0 p1 p2 σ post2) : ∃ r s, post1 r s ∧ post2 r s := by
  unfold wX2_combined at h1 h2
  rcases Classical.em (p0 = (8 : Int32)) with s10 | s10
  · have h1 := h1.1 s10
    have h2 := h2.1 s10
    exact ⟨_, _, h1, h2⟩
  · skip
    rcases Classical.em (p0 = (9 : Int32)) with s11 | s11
    · have h1 := h1.2.1 s11
      have h2 := h2.2.1 s11
      exact ⟨_, _, h1, h2⟩
    · skip
      rcases Classical.em (p0 = (10 : Int32)) with s12 | s12
      · have h1 := h1.2.2.1 s12
        have h2 := h2.2.2.1 s12
        exact ⟨_, _, h1, h2⟩
      · skip
        rcases Classical.em (p0 = (11 : Int32)) with s13 | s13
        · have h1 := h1.2.2.2.1 s13
          have h2 := h2.2.2.2.1 s13
          rcases Classical.em (p1 = p2) with c2 | c2
          · have h1 := h1.1 c2
            have h2 := h2.1 c2
            exact ⟨_, _, h1, h2⟩
          · have h1 := h1.2 c2
            have h2 := h2.2 c2
            exact ⟨_, _, h1, h2⟩
        · skip
          rcases Classical.em (p0 = (12 : Int32)) with s14 | s14
          · have h1 := h1.2.2.2.2.1 s14
            have h2 := h2.2.2.2.2.1 s14
            rcases Classical.em (p2 ≤ p1) with c3 | c3
            · have h1 := h1.1 c3
              have h2 := h2.1 c3
              exact ⟨_, _, h1, h2⟩
            · have h1 := h1.2 c3
              have h2 := h2.2 c3
              exact ⟨_, _, h1, h2⟩
          · skip
            have hall : ∀ i : Nat, i < 5 → ¬ p0 = Int32.ofInt (8 + i) := by
              intro i hi
              rcases (show i = 0 ∨ i = 1 ∨ i = 2 ∨ i = 3 ∨ i = 4 by omega) with rfl | rfl | rfl | rfl | rfl
              · exact fun q => s10 (q.trans (by decide))
              · exact fun q => s11 (q.trans (by decide))
              · exact fun q => s12 (q.trans (by decide))
              · exact fun q => s13 (q.trans (by decide))
              · exact fun q => s14 (q.trans (by decide))
            have h1 := h1.2.2.2.2.2 hall
            have h2 := h2.2.2.2.2.2 hall
            rcases Classical.em (p1 = p2) with c4 | c4
            · have h1 := h1.1 c4
              have h2 := h2.1 c4
              exact ⟨_, _, h1, h2⟩
            · have h1 := h1.2 c4
              have h2 := h2.2 c4
              exact ⟨_, _, h1, h2⟩
theorem uX2_combine (d0 : Nat) (p1 : Int32) {post1 post2 : qx_St → Prop} (σ : qx_St) (h1 : wX2_combine d0 p1 σ post1) (h2 : wX2_combine d0 p1 σ post2) : ∃ s, post1 s ∧ post2 s := by
  unfold wX2_combine at h1 h2
  obtain ⟨r2, s1, h1, h2⟩ := uX1_take d0 σ h1 h2
  obtain ⟨r4, s3, h1, h2⟩ := uX1_take d0 s1 h1 h2
  rcases Classical.em (p1 = (11 : Int32)) with c11 | c11
  · have h1 := h1.1 c11
    have h2 := h2.1 c11
    obtain ⟨s9, h1, h2⟩ := uX2_divide d0 r4 r2 s3 h1 h2
    exact ⟨_, h1, h2⟩
  · have h1 := h1.2 c11
    have h2 := h2.2 c11
    obtain ⟨r6, s5, h1, h2⟩ := uX2_combined p1 r4 r2 s3 h1 h2
    obtain ⟨s7, h1, h2⟩ := uX1_put d0 r6 s5 h1 h2
    exact ⟨_, h1, h2⟩
theorem uX2_arrange_j57 (d0 : Nat) (p1 : Int32) (p2 : Int32) {post1 post2 : qx_St → Prop} (a1 : Int32) (a2 : Int32) (a3 : Int32) (σ : qx_St) (h1 : wX2_arrange_j57 d0 p1 p2 post1 a1 a2 a3 σ) (h2 : wX2_arrange_j57 d0 p1 p2 post2 a1 a2 a3 σ) : ∃ s, post1 s ∧ post2 s := by
  unfold wX2_arrange_j57 at h1 h2
  rcases Classical.em (a1 = (16 : Int32)) with c14 | c14
  · have h1 := h1.1 c14
    have h2 := h2.1 c14
    obtain ⟨s10, h1, h2⟩ := uX1_put d0 a3 σ h1 h2
    obtain ⟨s12, h1, h2⟩ := uX1_put d0 a3 s10 h1 h2
    exact ⟨_, h1, h2⟩
  · have h1 := h1.2 c14
    have h2 := h2.2 c14
    rcases Classical.em (a1 = (18 : Int32)) with c9 | c9
    · have h1 := h1.1 c9
      have h2 := h2.1 c9
      obtain ⟨r4, s3, h1, h2⟩ := uX1_take d0 σ h1 h2
      obtain ⟨s5, h1, h2⟩ := uX1_put d0 a3 s3 h1 h2
      obtain ⟨s7, h1, h2⟩ := uX1_put d0 r4 s5 h1 h2
      exact ⟨_, h1, h2⟩
    · have h1 := h1.2 c9
      have h2 := h2.2 c9
      exact ⟨_, h1, h2⟩
theorem uX2_arrange_j28 (d0 : Nat) (p1 : Int32) (p2 : Int32) {post1 post2 : qx_St → Prop} (a1 : Int32) (a2 : Int32) (a3 : Int32) (σ : qx_St) (h1 : wX2_arrange_j28 d0 p1 p2 post1 a1 a2 a3 σ) (h2 : wX2_arrange_j28 d0 p1 p2 post2 a1 a2 a3 σ) : ∃ s, post1 s ∧ post2 s := by
  unfold wX2_arrange_j28 at h1 h2
  rcases Classical.em (a1 = (15 : Int32)) with c18 | c18
  · have h1 := h1.1 c18
    have h2 := h2.1 c18
    rcases Classical.em (a3 = 0) with c17 | c17
    · have h1 := h1.1 c17
      have h2 := h2.1 c17
      exact uX2_arrange_j57 d0 p1 p2 a1 a2 a3 σ h1 h2
    · have h1 := h1.2 c17
      have h2 := h2.2 c17
      obtain ⟨s15, e16⟩ : ∃ z, z = qx_st σ 12 d0 10 (if (0 : Int32) < (((σ 12 d0 10) - (1 : Int32)) - a2) then (((σ 12 d0 10) - (1 : Int32)) - a2) else (0 : Int32)) := ⟨_, rfl⟩
      have h1 := h1 s15 e16
      have h2 := h2 s15 e16
      exact ⟨_, h1, h2⟩
  · have h1 := h1.2 c18
    have h2 := h2.2 c18
    exact uX2_arrange_j57 d0 p1 p2 a1 a2 a3 σ h1 h2
theorem uX2_arrange (d0 : Nat) (p1 : Int32) (p2 : Int32) {post1 post2 : qx_St → Prop} (σ : qx_St) (h1 : wX2_arrange d0 p1 p2 σ post1) (h2 : wX2_arrange d0 p1 p2 σ post2) : ∃ s, post1 s ∧ post2 s := by
  unfold wX2_arrange at h1 h2
  obtain ⟨r2, s1, h1, h2⟩ := uX1_take d0 σ h1 h2
  rcases Classical.em (p1 = (14 : Int32)) with c22 | c22
  · have h1 := h1.1 c22
    have h2 := h2.1 c22
    rcases Classical.em (r2 = 0) with c21 | c21
    · have h1 := h1.1 c21
      have h2 := h2.1 c21
      obtain ⟨s19, e20⟩ : ∃ z, z = qx_st s1 12 d0 10 ((s1 12 d0 10) + p2) := ⟨_, rfl⟩
      have h1 := h1 s19 e20
      have h2 := h2 s19 e20
      exact ⟨_, h1, h2⟩
    · have h1 := h1.2 c21
      have h2 := h2.2 c21
      exact uX2_arrange_j28 d0 p1 p2 p1 p2 r2 s1 h1 h2
  · have h1 := h1.2 c22
    have h2 := h2.2 c22
    exact uX2_arrange_j28 d0 p1 p2 p1 p2 r2 s1 h1 h2
theorem uX4_has (p1 : Int32) {post1 post2 : Int32 → qx_St → Prop} (σ : qx_St) (h1 : wX4_has p1 σ post1) (h2 : wX4_has p1 σ post2) : ∃ r s, post1 r s ∧ post2 r s := by
  unfold wX4_has at h1 h2
  rcases Classical.em (p1 < 0) with c2 | c2
  · have h1 := h1.1 c2
    have h2 := h2.1 c2
    exact ⟨_, _, h1, h2⟩
  · have h1 := h1.2 c2
    have h2 := h2.2 c2
    rcases Classical.em ((σ 1 0 1) ≤ p1) with c1 | c1
    · have h1 := h1.1 c1
      have h2 := h2.1 c1
      exact ⟨_, _, h1, h2⟩
    · have h1 := h1.2 c1
      have h2 := h2.2 c1
      exact ⟨_, _, h1, h2⟩
theorem uX2_isGuardedInside_l2 (p1 : Int32) (p2 : Int32) {post1 post2 : Int32 → qx_St → Prop} : ∀ (n1 n2 : Nat) (a1 : Int32) (a2 : Int32) (a3 : Int32) (σ : qx_St), wX2_isGuardedInside_l2 p1 p2 post1 n1 a1 a2 a3 σ → wX2_isGuardedInside_l2 p1 p2 post2 n2 a1 a2 a3 σ → ∃ r s, post1 r s ∧ post2 r s := by
  intro n1
  induction n1 with
  | zero => intro n2 a1 a2 a3 σ h1 h2; exact h1.elim
  | succ n1 ih =>
    intro n2 a1 a2 a3 σ h1 h2
    cases n2 with
    | zero => exact h2.elim
    | succ n2 =>
      unfold wX2_isGuardedInside_l2 at h1 h2
      rcases Classical.em (a2 ≤ a3) with c6 | c6
      · have h1 := h1.1 c6
        have h2 := h2.1 c6
        exact ⟨_, _, h1, h2⟩
      · have h1 := h1.2 c6
        have h2 := h2.2 c6
        rcases Classical.em ((8 : Int32) ≤ a3) with c5 | c5
        · have h1 := h1.1 c5
          have h2 := h2.1 c5
          exact ⟨_, _, h1, h2⟩
        · have h1 := h1.2 c5
          have h2 := h2.2 c5
          have h1 := h1.2
          have h2 := h2.2
          rcases Classical.em ((σ 12 a3.toNatClampNeg 2) = a1) with c4 | c4
          · have h1 := h1.1 c4
            have h2 := h2.1 c4
            obtain ⟨r2, s1, h1, h2⟩ := uX4_memberOf a1 (σ 12 a3.toNatClampNeg 3) σ h1 h2
            have h1 := h1.2
            have h2 := h2.2
            rcases Classical.em ((s1 17 r2 4) = 0) with c3 | c3
            · have h1 := h1.1 c3
              have h2 := h2.1 c3
              exact ih n2 a1 a2 (a3 + 1) s1 h1 h2
            · have h1 := h1.2 c3
              have h2 := h2.2 c3
              exact ⟨_, _, h1, h2⟩
          · have h1 := h1.2 c4
            have h2 := h2.2 c4
            exact ih n2 a1 a2 (a3 + 1) σ h1 h2
theorem uX2_isGuardedInside (p1 : Int32) (p2 : Int32) {post1 post2 : Int32 → qx_St → Prop} (σ : qx_St) (h1 : wX2_isGuardedInside p1 p2 σ post1) (h2 : wX2_isGuardedInside p1 p2 σ post2) : ∃ r s, post1 r s ∧ post2 r s := by
  unfold wX2_isGuardedInside at h1 h2
  obtain ⟨n1, h1⟩ := h1
  obtain ⟨n2, h2⟩ := h2
  exact uX2_isGuardedInside_l2 p1 p2 n1 n2 p1 p2 (0 : Int32) σ h1 h2
theorem uX8_canPay (p1 : Int32) (p2 : Int32) {post1 post2 : Int32 → qx_St → Prop} (σ : qx_St) (h1 : wX8_canPay p1 p2 σ post1) (h2 : wX8_canPay p1 p2 σ post2) : ∃ r s, post1 r s ∧ post2 r s := by
  unfold wX8_canPay at h1 h2
  rcases Classical.em (p2 < 0) with c2 | c2
  · have h1 := h1.1 c2
    have h2 := h2.1 c2
    exact ⟨_, _, h1, h2⟩
  · have h1 := h1.2 c2
    have h2 := h2.2 c2
    have h1 := h1.2
    have h2 := h2.2
    rcases Classical.em ((σ 5 0 p1.toNatClampNeg) < p2) with c1 | c1
    · have h1 := h1.1 c1
      have h2 := h2.1 c1
      exact ⟨_, _, h1, h2⟩
    · have h1 := h1.2 c1
      have h2 := h2.2 c1
      exact ⟨_, _, h1, h2⟩
theorem uX2_whyNotEntered_j64 (d1 : Nat) (p2 : Int32) (p3 : Int32) (p4 : Int32) (p5 : Int32) {post1 post2 : Int32 → qx_St → Prop} (a2 : Int32) (a3 : Int32) (a4 : Int32) (a5 : Int32) (σ : qx_St) (h1 : wX2_whyNotEntered_j64 d1 p2 p3 p4 p5 post1 a2 a3 a4 a5 σ) (h2 : wX2_whyNotEntered_j64 d1 p2 p3 p4 p5 post2 a2 a3 a4 a5 σ) : ∃ r s, post1 r s ∧ post2 r s := by
  unfold wX2_whyNotEntered_j64 at h1 h2
  rcases Classical.em (a4 = 0) with c14 | c14
  · have h1 := h1.1 c14
    have h2 := h2.1 c14
    obtain ⟨r8, s7, h1, h2⟩ := uX8_canPay (σ 12 d1 2) a4 σ h1 h2
    rcases Classical.em (r8 = 0) with c9 | c9
    · have h1 := h1.1 c9
      have h2 := h2.1 c9
      exact ⟨_, _, h1, h2⟩
    · have h1 := h1.2 c9
      have h2 := h2.2 c9
      exact ⟨_, _, h1, h2⟩
  · have h1 := h1.2 c14
    have h2 := h2.2 c14
    rcases Classical.em ((σ 12 d1 7) = 0) with c13 | c13
    · have h1 := h1.1 c13
      have h2 := h2.1 c13
      obtain ⟨r11, s10, h1, h2⟩ := uX8_canPay (σ 12 d1 2) a4 σ h1 h2
      rcases Classical.em (r11 = 0) with c12 | c12
      · have h1 := h1.1 c12
        have h2 := h2.1 c12
        exact ⟨_, _, h1, h2⟩
      · have h1 := h1.2 c12
        have h2 := h2.2 c12
        exact ⟨_, _, h1, h2⟩
    · have h1 := h1.2 c13
      have h2 := h2.2 c13
      exact ⟨_, _, h1, h2⟩
theorem uX2_whyNotEntered (d1 : Nat) (p2 : Int32) (p3 : Int32) (p4 : Int32) (p5 : Int32) {post1 post2 : Int32 → qx_St → Prop} (σ : qx_St) (h1 : wX2_whyNotEntered d1 p2 p3 p4 p5 σ post1) (h2 : wX2_whyNotEntered d1 p2 p3 p4 p5 σ post2) : ∃ r s, post1 r s ∧ post2 r s := by
  unfold wX2_whyNotEntered at h1 h2
  obtain ⟨r2, s1, h1, h2⟩ := uX4_has p2 σ h1 h2
  rcases Classical.em (r2 = 0) with c21 | c21
  · have h1 := h1.1 c21
    have h2 := h2.1 c21
    exact ⟨_, _, h1, h2⟩
  · have h1 := h1.2 c21
    have h2 := h2.2 c21
    obtain ⟨r4, s3, h1, h2⟩ := uX4_memberOf p2 p3 s1 h1 h2
    have h1 := h1.2
    have h2 := h2.2
    rcases Classical.em ((s3 17 r4 3) = 0) with c20 | c20
    · have h1 := h1.1 c20
      have h2 := h2.1 c20
      exact ⟨_, _, h1, h2⟩
    · have h1 := h1.2 c20
      have h2 := h2.2 c20
      rcases Classical.em (p5 < (8 : Int32)) with c19 | c19
      · have h1 := h1.1 c19
        have h2 := h2.1 c19
        obtain ⟨r6, s5, h1, h2⟩ := uX4_memberOf p2 p3 s3 h1 h2
        have h1 := h1.2
        have h2 := h2.2
        rcases Classical.em ((s5 17 r6 4) = 0) with c18 | c18
        · have h1 := h1.1 c18
          have h2 := h2.1 c18
          exact uX2_whyNotEntered_j64 d1 p2 p3 p4 p5 p2 p3 p4 p5 s5 h1 h2
        · have h1 := h1.2 c18
          have h2 := h2.2 c18
          obtain ⟨r16, s15, h1, h2⟩ := uX2_isGuardedInside p2 p5 s5 h1 h2
          rcases Classical.em (r16 = 0) with c17 | c17
          · have h1 := h1.1 c17
            have h2 := h2.1 c17
            exact uX2_whyNotEntered_j64 d1 p2 p3 p4 p5 p2 p3 p4 p5 s15 h1 h2
          · have h1 := h1.2 c17
            have h2 := h2.2 c17
            exact ⟨_, _, h1, h2⟩
      · have h1 := h1.2 c19
        have h2 := h2.2 c19
        exact ⟨_, _, h1, h2⟩
theorem uX2_answerThrown (d0 : Nat) (p1 : Int32) (p2 : Int32) {post1 post2 : qx_St → Prop} (σ : qx_St) (h1 : wX2_answerThrown d0 p1 p2 σ post1) (h2 : wX2_answerThrown d0 p1 p2 σ post2) : ∃ s, post1 s ∧ post2 s := by
  unfold wX2_answerThrown at h1 h2
  rcases Classical.em (p1 = (20 : Int32)) with c7 | c7
  · have h1 := h1.1 c7
    have h2 := h2.1 c7
    obtain ⟨s1, h1, h2⟩ := uX1_put d0 p2 σ h1 h2
    obtain ⟨s3, h1, h2⟩ := uX1_put d0 (0 : Int32) s1 h1 h2
    exact ⟨_, h1, h2⟩
  · have h1 := h1.2 c7
    have h2 := h2.2 c7
    obtain ⟨s5, h1, h2⟩ := uX1_endThrowing d0 p2 σ h1 h2
    exact ⟨_, h1, h2⟩
theorem uX2_answerGiven (d0 : Nat) (p1 : Int32) (p2 : Int32) {post1 post2 : qx_St → Prop} (σ : qx_St) (h1 : wX2_answerGiven d0 p1 p2 σ post1) (h2 : wX2_answerGiven d0 p1 p2 σ post2) : ∃ s, post1 s ∧ post2 s := by
  unfold wX2_answerGiven at h1 h2
  obtain ⟨s1, h1, h2⟩ := uX1_put d0 p2 σ h1 h2
  rcases Classical.em (p1 = (20 : Int32)) with c5 | c5
  · have h1 := h1.1 c5
    have h2 := h2.1 c5
    obtain ⟨s3, h1, h2⟩ := uX1_put d0 (1 : Int32) s1 h1 h2
    exact ⟨_, h1, h2⟩
  · have h1 := h1.2 c5
    have h2 := h2.2 c5
    exact ⟨_, h1, h2⟩
theorem uX2_callOther_j118 (rf : Int32 → Int32 → qx_St → (qx_St → Prop) → Prop) (hrf : ∀ (p1 p2 : Int32) (σ : qx_St) (post1 post2 : qx_St → Prop), rf p1 p2 σ post1 → rf p1 p2 σ post2 → ∃ s, post1 s ∧ post2 s) (d1 : Nat) (p2 : Int32) (p3 : Int32) (p4 : Int32) (p5 : Int32) {post1 post2 : qx_St → Prop} (a2 : Int32) (a3 : Int32) (a4 : Int32) (a5 : Int32) (a6 : Int32) (a7 : Int32) (a8 : Int32) (a9 : Int32) (c10 : Nat) (b0 : Int32) (e1 : Nat) (σ : qx_St) (h1 : wX2_callOther_j118 rf d1 p2 p3 p4 p5 post1 a2 a3 a4 a5 a6 a7 a8 a9 c10 b0 e1 σ) (h2 : wX2_callOther_j118 rf d1 p2 p3 p4 p5 post2 a2 a3 a4 a5 a6 a7 a8 a9 c10 b0 e1 σ) : ∃ s, post1 s ∧ post2 s := by
  unfold wX2_callOther_j118 at h1 h2
  have h1 := h1.2
  have h2 := h2.2
  obtain ⟨s13, e14⟩ : ∃ z, z = qx_st σ 12 e1 7 b0 := ⟨_, rfl⟩
  have h1 := h1 s13 e14
  have h2 := h2 s13 e14
  obtain ⟨s15, h1, h2⟩ := hrf (s13 12 d1 2) (a5 + (1 : Int32)) s13 _ _ h1 h2
  obtain ⟨r18, s17, h1, h2⟩ := uX1_used c10 s15 h1 h2
  obtain ⟨s19, e20⟩ : ∃ z, z = qx_st s17 12 d1 9 ((s15 12 d1 9) - r18) := ⟨_, rfl⟩
  have h1 := h1 s19 e20
  have h2 := h2 s19 e20
  obtain ⟨r22, s21, h1, h2⟩ := uX1_hasThrown c10 s19 h1 h2
  rcases Classical.em (r22 = 0) with c27 | c27
  · have h1 := h1.1 c27
    have h2 := h2.1 c27
    obtain ⟨s23, h1, h2⟩ := uX2_answerGiven d1 a2 (s21 12 c10 13) s21 h1 h2
    exact ⟨_, h1, h2⟩
  · have h1 := h1.2 c27
    have h2 := h2.2 c27
    obtain ⟨s25, h1, h2⟩ := uX2_answerThrown d1 a2 (s21 12 c10 12) s21 h1 h2
    exact ⟨_, h1, h2⟩
theorem uX2_callOther_j113 (rf : Int32 → Int32 → qx_St → (qx_St → Prop) → Prop) (hrf : ∀ (p1 p2 : Int32) (σ : qx_St) (post1 post2 : qx_St → Prop), rf p1 p2 σ post1 → rf p1 p2 σ post2 → ∃ s, post1 s ∧ post2 s) (d1 : Nat) (p2 : Int32) (p3 : Int32) (p4 : Int32) (p5 : Int32) {post1 post2 : qx_St → Prop} (a2 : Int32) (a3 : Int32) (a4 : Int32) (a5 : Int32) (a6 : Int32) (a7 : Int32) (a8 : Int32) (a9 : Int32) (c10 : Nat) (e0 : Nat) (σ : qx_St) (h1 : wX2_callOther_j113 rf d1 p2 p3 p4 p5 post1 a2 a3 a4 a5 a6 a7 a8 a9 c10 e0 σ) (h2 : wX2_callOther_j113 rf d1 p2 p3 p4 p5 post2 a2 a3 a4 a5 a6 a7 a8 a9 c10 e0 σ) : ∃ s, post1 s ∧ post2 s := by
  unfold wX2_callOther_j113 at h1 h2
  exact uX2_callOther_j118 rf hrf d1 p2 p3 p4 p5 a2 a3 a4 a5 a6 a7 a8 a9 c10 (1 : Int32) e0 σ h1 h2
theorem uX2_callOther_j20 (rf : Int32 → Int32 → qx_St → (qx_St → Prop) → Prop) (hrf : ∀ (p1 p2 : Int32) (σ : qx_St) (post1 post2 : qx_St → Prop), rf p1 p2 σ post1 → rf p1 p2 σ post2 → ∃ s, post1 s ∧ post2 s) (d1 : Nat) (p2 : Int32) (p3 : Int32) (p4 : Int32) (p5 : Int32) {post1 post2 : qx_St → Prop} (a2 : Int32) (a3 : Int32) (a4 : Int32) (a5 : Int32) (a6 : Int32) (b0 : Int32) (σ : qx_St) (h1 : wX2_callOther_j20 rf d1 p2 p3 p4 p5 post1 a2 a3 a4 a5 a6 b0 σ) (h2 : wX2_callOther_j20 rf d1 p2 p3 p4 p5 post2 a2 a3 a4 a5 a6 b0 σ) : ∃ s, post1 s ∧ post2 s := by
  unfold wX2_callOther_j20 at h1 h2
  obtain ⟨r6, s5, h1, h2⟩ := uX1_take d1 σ h1 h2
  obtain ⟨r8, s7, h1, h2⟩ := uX2_whyNotEntered d1 a3 a4 b0 a5 s5 h1 h2
  rcases Classical.em (r8 = 0) with c32 | c32
  · have h1 := h1.1 c32
    have h2 := h2.1 c32
    have h1 := h1.2
    have h2 := h2.2
    obtain ⟨s9, h1, h2⟩ := uX1_begin (a5.toNatClampNeg) a3 a4 a6 b0 (if (s5 12 d1 9) < (if r6 < (0 : Int32) then (0 : Int32) else r6) then (s5 12 d1 9) else (if r6 < (0 : Int32) then (0 : Int32) else r6)) s7 h1 h2
    obtain ⟨s11, e12⟩ : ∃ z, z = qx_st s9 12 a5.toNatClampNeg 6 (s9 12 d1 2) := ⟨_, rfl⟩
    have h1 := h1 s11 e12
    have h2 := h2 s11 e12
    rcases Classical.em ((s11 12 d1 7) = 0) with c29 | c29
    · have h1 := h1.1 c29
      have h2 := h2.1 c29
      rcases Classical.em (a2 = (21 : Int32)) with c28 | c28
      · have h1 := h1.1 c28
        have h2 := h2.1 c28
        exact uX2_callOther_j113 rf hrf d1 p2 p3 p4 p5 a2 a3 a4 a5 a6 b0 (if (s5 12 d1 9) < (if r6 < (0 : Int32) then (0 : Int32) else r6) then (s5 12 d1 9) else (if r6 < (0 : Int32) then (0 : Int32) else r6)) r8 (a5.toNatClampNeg) (a5.toNatClampNeg) s11 h1 h2
      · have h1 := h1.2 c28
        have h2 := h2.2 c28
        exact uX2_callOther_j118 rf hrf d1 p2 p3 p4 p5 a2 a3 a4 a5 a6 b0 (if (s5 12 d1 9) < (if r6 < (0 : Int32) then (0 : Int32) else r6) then (s5 12 d1 9) else (if r6 < (0 : Int32) then (0 : Int32) else r6)) r8 (a5.toNatClampNeg) (0 : Int32) (a5.toNatClampNeg) s11 h1 h2
    · have h1 := h1.2 c29
      have h2 := h2.2 c29
      exact uX2_callOther_j113 rf hrf d1 p2 p3 p4 p5 a2 a3 a4 a5 a6 b0 (if (s5 12 d1 9) < (if r6 < (0 : Int32) then (0 : Int32) else r6) then (s5 12 d1 9) else (if r6 < (0 : Int32) then (0 : Int32) else r6)) r8 (a5.toNatClampNeg) (a5.toNatClampNeg) s11 h1 h2
  · have h1 := h1.2 c32
    have h2 := h2.2 c32
    obtain ⟨s30, h1, h2⟩ := uX2_answerThrown d1 a2 r8 s7 h1 h2
    exact ⟨_, h1, h2⟩
theorem uX2_callOther (rf : Int32 → Int32 → qx_St → (qx_St → Prop) → Prop) (hrf : ∀ (p1 p2 : Int32) (σ : qx_St) (post1 post2 : qx_St → Prop), rf p1 p2 σ post1 → rf p1 p2 σ post2 → ∃ s, post1 s ∧ post2 s) (d1 : Nat) (p2 : Int32) (p3 : Int32) (p4 : Int32) (p5 : Int32) {post1 post2 : qx_St → Prop} (σ : qx_St) (h1 : wX2_callOther rf d1 p2 p3 p4 p5 σ post1) (h2 : wX2_callOther rf d1 p2 p3 p4 p5 σ post2) : ∃ s, post1 s ∧ post2 s := by
  unfold wX2_callOther at h1 h2
  obtain ⟨r2, s1, h1, h2⟩ := uX1_take d1 σ h1 h2
  rcases Classical.em (p2 = (21 : Int32)) with c33 | c33
  · have h1 := h1.1 c33
    have h2 := h2.1 c33
    exact uX2_callOther_j20 rf hrf d1 p2 p3 p4 p5 p2 p3 p4 p5 r2 (0 : Int32) s1 h1 h2
  · have h1 := h1.2 c33
    have h2 := h2.2 c33
    obtain ⟨r4, s3, h1, h2⟩ := uX1_take d1 s1 h1 h2
    exact uX2_callOther_j20 rf hrf d1 p2 p3 p4 p5 p2 p3 p4 p5 r2 r4 s3 h1 h2
theorem uX8_save (p1 : Int32) (p2 : Int32) (p3 : Int32) {post1 post2 : qx_St → Prop} (σ : qx_St) (h1 : wX8_save p1 p2 p3 σ post1) (h2 : wX8_save p1 p2 p3 σ post2) : ∃ s, post1 s ∧ post2 s := by
  unfold wX8_save at h1 h2
  rcases Classical.em (p3 = 0) with c10 | c10
  · have h1 := h1.1 c10
    have h2 := h2.1 c10
    have h1 := h1.2
    have h2 := h2.2
    rcases Classical.em ((σ 4 0 ((p1 * (8 : Int32)) + p2).toNatClampNeg) = 0) with c9 | c9
    · have h1 := h1.1 c9
      have h2 := h2.1 c9
      have h1 := h1.2
      have h2 := h2.2
      obtain ⟨s3, e4⟩ : ∃ z, z = qx_st σ 4 0 ((p1 * (8 : Int32)) + p2).toNatClampNeg p3 := ⟨_, rfl⟩
      have h1 := h1 s3 e4
      have h2 := h2 s3 e4
      exact ⟨_, h1, h2⟩
    · have h1 := h1.2 c9
      have h2 := h2.2 c9
      obtain ⟨s5, e6⟩ : ∃ z, z = qx_st σ 3 0 4 ((σ 3 0 4) + (1 : Int32)) := ⟨_, rfl⟩
      have h1 := h1 s5 e6
      have h2 := h2 s5 e6
      have h1 := h1.2
      have h2 := h2.2
      obtain ⟨s7, e8⟩ : ∃ z, z = qx_st s5 4 0 ((p1 * (8 : Int32)) + p2).toNatClampNeg p3 := ⟨_, rfl⟩
      have h1 := h1 s7 e8
      have h2 := h2 s7 e8
      exact ⟨_, h1, h2⟩
  · have h1 := h1.2 c10
    have h2 := h2.2 c10
    have h1 := h1.2
    have h2 := h2.2
    obtain ⟨s1, e2⟩ : ∃ z, z = qx_st σ 4 0 ((p1 * (8 : Int32)) + p2).toNatClampNeg p3 := ⟨_, rfl⟩
    have h1 := h1 s1 e2
    have h2 := h2 s1 e2
    exact ⟨_, h1, h2⟩
theorem uX8_addEvent (p1 : Int32) (p2 : Int32) (p3 : Int32) (p4 : Int32) {post1 post2 : qx_St → Prop} (σ : qx_St) (h1 : wX8_addEvent p1 p2 p3 p4 σ post1) (h2 : wX8_addEvent p1 p2 p3 p4 σ post2) : ∃ s, post1 s ∧ post2 s := by
  unfold wX8_addEvent at h1 h2
  have h1 := h1.2
  have h2 := h2.2
  obtain ⟨s1, e2⟩ : ∃ z, z = qx_st σ 6 0 ((σ 3 0 3) * (4 : Int32)).toNatClampNeg p1 := ⟨_, rfl⟩
  have h1 := h1 s1 e2
  have h2 := h2 s1 e2
  have h1 := h1.2
  have h2 := h2.2
  obtain ⟨s3, e4⟩ : ∃ z, z = qx_st s1 6 0 (((σ 3 0 3) * (4 : Int32)) + (1 : Int32)).toNatClampNeg p2 := ⟨_, rfl⟩
  have h1 := h1 s3 e4
  have h2 := h2 s3 e4
  have h1 := h1.2
  have h2 := h2.2
  obtain ⟨s5, e6⟩ : ∃ z, z = qx_st s3 6 0 (((σ 3 0 3) * (4 : Int32)) + (2 : Int32)).toNatClampNeg p3 := ⟨_, rfl⟩
  have h1 := h1 s5 e6
  have h2 := h2 s5 e6
  have h1 := h1.2
  have h2 := h2.2
  obtain ⟨s7, e8⟩ : ∃ z, z = qx_st s5 6 0 (((σ 3 0 3) * (4 : Int32)) + (3 : Int32)).toNatClampNeg p4 := ⟨_, rfl⟩
  have h1 := h1 s7 e8
  have h2 := h2 s7 e8
  obtain ⟨s9, e10⟩ : ∃ z, z = qx_st s7 3 0 3 ((s7 3 0 3) + (1 : Int32)) := ⟨_, rfl⟩
  have h1 := h1 s9 e10
  have h2 := h2 s9 e10
  exact ⟨_, h1, h2⟩
theorem uX2_tell (d1 : Nat) (p2 : Int32) (p3 : Int32) (p4 : Int32) {post1 post2 : qx_St → Prop} (σ : qx_St) (h1 : wX2_tell d1 p2 p3 p4 σ post1) (h2 : wX2_tell d1 p2 p3 p4 σ post2) : ∃ s, post1 s ∧ post2 s := by
  unfold wX2_tell at h1 h2
  rcases Classical.em ((σ 3 0 3) < (60 : Int32)) with c5 | c5
  · have h1 := h1.1 c5
    have h2 := h2.1 c5
    obtain ⟨s1, h1, h2⟩ := uX8_addEvent (σ 12 d1 2) p2 p3 p4 σ h1 h2
    exact ⟨_, h1, h2⟩
  · have h1 := h1.2 c5
    have h2 := h2.2 c5
    obtain ⟨s3, h1, h2⟩ := uX1_endThrowing d1 (9 : Int32) σ h1 h2
    exact ⟨_, h1, h2⟩
theorem uX2_send (d1 : Nat) (p2 : Int32) (p3 : Int32) {post1 post2 : qx_St → Prop} (σ : qx_St) (h1 : wX2_send d1 p2 p3 σ post1) (h2 : wX2_send d1 p2 p3 σ post2) : ∃ s, post1 s ∧ post2 s := by
  unfold wX2_send at h1 h2
  obtain ⟨r2, s1, h1, h2⟩ := uX8_canPay (σ 12 d1 2) p3 σ h1 h2
  rcases Classical.em (r2 = 0) with c7 | c7
  · have h1 := h1.1 c7
    have h2 := h2.1 c7
    obtain ⟨s5, h1, h2⟩ := uX1_endThrowing d1 (7 : Int32) s1 h1 h2
    exact ⟨_, h1, h2⟩
  · have h1 := h1.2 c7
    have h2 := h2.2 c7
    obtain ⟨s3, h1, h2⟩ := uX8_move (s1 12 d1 2) ((8 : Int32) + p2) p3 s1 h1 h2
    exact ⟨_, h1, h2⟩
theorem uX2_act (d1 : Nat) (p2 : Int32) (p3 : Int32) (p4 : Int32) {post1 post2 : qx_St → Prop} (σ : qx_St) (h1 : wX2_act d1 p2 p3 p4 σ post1) (h2 : wX2_act d1 p2 p3 p4 σ post2) : ∃ s, post1 s ∧ post2 s := by
  unfold wX2_act at h1 h2
  rcases Classical.em (p2 = (25 : Int32)) with c16 | c16
  · have h1 := h1.1 c16
    have h2 := h2.1 c16
    obtain ⟨s14, h1, h2⟩ := uX1_endThrowing d1 p3 σ h1 h2
    exact ⟨_, h1, h2⟩
  · have h1 := h1.2 c16
    have h2 := h2.2 c16
    obtain ⟨r2, s1, h1, h2⟩ := uX1_take d1 σ h1 h2
    rcases Classical.em (p2 = (7 : Int32)) with c13 | c13
    · have h1 := h1.1 c13
      have h2 := h2.1 c13
      obtain ⟨s11, h1, h2⟩ := uX8_save (s1 12 d1 2) p3 r2 s1 h1 h2
      exact ⟨_, h1, h2⟩
    · have h1 := h1.2 c13
      have h2 := h2.2 c13
      rcases Classical.em (p2 = (22 : Int32)) with c10 | c10
      · have h1 := h1.1 c10
        have h2 := h2.1 c10
        obtain ⟨s8, h1, h2⟩ := uX2_tell d1 p3 r2 p4 s1 h1 h2
        exact ⟨_, h1, h2⟩
      · have h1 := h1.2 c10
        have h2 := h2.2 c10
        rcases Classical.em (p2 = (23 : Int32)) with c7 | c7
        · have h1 := h1.1 c7
          have h2 := h2.1 c7
          obtain ⟨s5, h1, h2⟩ := uX2_send d1 p3 r2 s1 h1 h2
          exact ⟨_, h1, h2⟩
        · have h1 := h1.2 c7
          have h2 := h2.2 c7
          obtain ⟨s3, h1, h2⟩ := uX1_endGiving d1 r2 s1 h1 h2
          exact ⟨_, h1, h2⟩
theorem uX2_doStep_j141 (rf : Int32 → Int32 → qx_St → (qx_St → Prop) → Prop) (hrf : ∀ (p1 p2 : Int32) (σ : qx_St) (post1 post2 : qx_St → Prop), rf p1 p2 σ post1 → rf p1 p2 σ post2 → ∃ s, post1 s ∧ post2 s) (d1 : Nat) (d2 : Nat) (p3 : Int32) {post1 post2 : qx_St → Prop} (a3 : Int32) (a4 : Int32) (a5 : Int32) (a6 : Int32) (σ : qx_St) (h1 : wX2_doStep_j141 rf d1 d2 p3 post1 a3 a4 a5 a6 σ) (h2 : wX2_doStep_j141 rf d1 d2 p3 post2 a3 a4 a5 a6 σ) : ∃ s, post1 s ∧ post2 s := by
  unfold wX2_doStep_j141 at h1 h2
  rcases Classical.em (a5 < (19 : Int32)) with c10 | c10
  · have h1 := h1.1 c10
    have h2 := h2.1 c10
    obtain ⟨s3, h1, h2⟩ := uX2_act d1 a5 a6 a3 σ h1 h2
    exact ⟨_, h1, h2⟩
  · have h1 := h1.2 c10
    have h2 := h2.2 c10
    rcases Classical.em ((21 : Int32) < a5) with c9 | c9
    · have h1 := h1.1 c9
      have h2 := h2.1 c9
      obtain ⟨s5, h1, h2⟩ := uX2_act d1 a5 a6 a3 σ h1 h2
      exact ⟨_, h1, h2⟩
    · have h1 := h1.2 c9
      have h2 := h2.2 c9
      have h1 := h1.2
      have h2 := h2.2
      obtain ⟨s7, h1, h2⟩ := uX2_callOther rf hrf d1 a5 a6 (σ 20 d2 a4.toNatClampNeg) a3 σ h1 h2
      exact ⟨_, h1, h2⟩
theorem uX2_doStep_j116 (rf : Int32 → Int32 → qx_St → (qx_St → Prop) → Prop) (hrf : ∀ (p1 p2 : Int32) (σ : qx_St) (post1 post2 : qx_St → Prop), rf p1 p2 σ post1 → rf p1 p2 σ post2 → ∃ s, post1 s ∧ post2 s) (d1 : Nat) (d2 : Nat) (p3 : Int32) {post1 post2 : qx_St → Prop} (a3 : Int32) (a4 : Int32) (a5 : Int32) (a6 : Int32) (σ : qx_St) (h1 : wX2_doStep_j116 rf d1 d2 p3 post1 a3 a4 a5 a6 σ) (h2 : wX2_doStep_j116 rf d1 d2 p3 post2 a3 a4 a5 a6 σ) : ∃ s, post1 s ∧ post2 s := by
  unfold wX2_doStep_j116 at h1 h2
  rcases Classical.em (a5 < (14 : Int32)) with c14 | c14
  · have h1 := h1.1 c14
    have h2 := h2.1 c14
    exact uX2_doStep_j141 rf hrf d1 d2 p3 a3 a4 a5 a6 σ h1 h2
  · have h1 := h1.2 c14
    have h2 := h2.2 c14
    rcases Classical.em ((18 : Int32) < a5) with c13 | c13
    · have h1 := h1.1 c13
      have h2 := h2.1 c13
      exact uX2_doStep_j141 rf hrf d1 d2 p3 a3 a4 a5 a6 σ h1 h2
    · have h1 := h1.2 c13
      have h2 := h2.2 c13
      obtain ⟨s11, h1, h2⟩ := uX2_arrange d1 a5 a6 σ h1 h2
      exact ⟨_, h1, h2⟩
theorem uX2_doStep_j70 (rf : Int32 → Int32 → qx_St → (qx_St → Prop) → Prop) (hrf : ∀ (p1 p2 : Int32) (σ : qx_St) (post1 post2 : qx_St → Prop), rf p1 p2 σ post1 → rf p1 p2 σ post2 → ∃ s, post1 s ∧ post2 s) (d1 : Nat) (d2 : Nat) (p3 : Int32) {post1 post2 : qx_St → Prop} (a3 : Int32) (a4 : Int32) (a5 : Int32) (a6 : Int32) (σ : qx_St) (h1 : wX2_doStep_j70 rf d1 d2 p3 post1 a3 a4 a5 a6 σ) (h2 : wX2_doStep_j70 rf d1 d2 p3 post2 a3 a4 a5 a6 σ) : ∃ s, post1 s ∧ post2 s := by
  unfold wX2_doStep_j70 at h1 h2
  rcases Classical.em ((6 : Int32) < a5) with c23 | c23
  · have h1 := h1.1 c23
    have h2 := h2.1 c23
    rcases Classical.em (a5 < (8 : Int32)) with c18 | c18
    · have h1 := h1.1 c18
      have h2 := h2.1 c18
      exact uX2_doStep_j116 rf hrf d1 d2 p3 a3 a4 a5 a6 σ h1 h2
    · have h1 := h1.2 c18
      have h2 := h2.2 c18
      rcases Classical.em ((13 : Int32) < a5) with c17 | c17
      · have h1 := h1.1 c17
        have h2 := h2.1 c17
        exact uX2_doStep_j116 rf hrf d1 d2 p3 a3 a4 a5 a6 σ h1 h2
      · have h1 := h1.2 c17
        have h2 := h2.2 c17
        obtain ⟨s15, h1, h2⟩ := uX2_combine d1 a5 σ h1 h2
        exact ⟨_, h1, h2⟩
  · have h1 := h1.2 c23
    have h2 := h2.2 c23
    obtain ⟨r20, s19, h1, h2⟩ := uX2_numberFor d1 a5 a6 σ h1 h2
    obtain ⟨s21, h1, h2⟩ := uX1_put d1 r20 s19 h1 h2
    exact ⟨_, h1, h2⟩
theorem uX2_doStep (rf : Int32 → Int32 → qx_St → (qx_St → Prop) → Prop) (hrf : ∀ (p1 p2 : Int32) (σ : qx_St) (post1 post2 : qx_St → Prop), rf p1 p2 σ post1 → rf p1 p2 σ post2 → ∃ s, post1 s ∧ post2 s) (d1 : Nat) (d2 : Nat) (p3 : Int32) {post1 post2 : qx_St → Prop} (σ : qx_St) (h1 : wX2_doStep rf d1 d2 p3 σ post1) (h2 : wX2_doStep rf d1 d2 p3 σ post2) : ∃ s, post1 s ∧ post2 s := by
  unfold wX2_doStep at h1 h2
  have h1 := h1.2
  have h2 := h2.2
  have h1 := h1.2
  have h2 := h2.2
  obtain ⟨r2, s1, h1, h2⟩ := uX0_fitsStack (σ 18 d2 ((σ 12 d1 10) - (1 : Int32)).toNatClampNeg) (σ 12 d1 1) σ h1 h2
  rcases Classical.em (r2 = 0) with c32 | c32
  · have h1 := h1.1 c32
    have h2 := h2.1 c32
    obtain ⟨s30, h1, h2⟩ := uX1_endThrowing d1 (8 : Int32) s1 h1 h2
    exact ⟨_, h1, h2⟩
  · have h1 := h1.2 c32
    have h2 := h2.2 c32
    rcases Classical.em ((s1 12 d1 7) = 0) with c29 | c29
    · have h1 := h1.1 c29
      have h2 := h2.1 c29
      exact uX2_doStep_j70 rf hrf d1 d2 p3 p3 ((σ 12 d1 10) - (1 : Int32)) (σ 18 d2 ((σ 12 d1 10) - (1 : Int32)).toNatClampNeg) (σ 19 d2 ((σ 12 d1 10) - (1 : Int32)).toNatClampNeg) s1 h1 h2
    · have h1 := h1.2 c29
      have h2 := h2.2 c29
      obtain ⟨r25, s24, h1, h2⟩ := uX0_writes (σ 18 d2 ((σ 12 d1 10) - (1 : Int32)).toNatClampNeg) s1 h1 h2
      rcases Classical.em (r25 = 0) with c28 | c28
      · have h1 := h1.1 c28
        have h2 := h2.1 c28
        exact uX2_doStep_j70 rf hrf d1 d2 p3 p3 ((σ 12 d1 10) - (1 : Int32)) (σ 18 d2 ((σ 12 d1 10) - (1 : Int32)).toNatClampNeg) (σ 19 d2 ((σ 12 d1 10) - (1 : Int32)).toNatClampNeg) s24 h1 h2
      · have h1 := h1.2 c28
        have h2 := h2.2 c28
        obtain ⟨s26, h1, h2⟩ := uX1_endThrowing d1 (2 : Int32) s24 h1 h2
        exact ⟨_, h1, h2⟩
theorem uX6_putBack (d0 : Nat) {post1 post2 : qx_St → Prop} (σ : qx_St) (h1 : wX6_putBack d0 σ post1) (h2 : wX6_putBack d0 σ post2) : ∃ s, post1 s ∧ post2 s := by
  unfold wX6_putBack at h1 h2
  obtain ⟨s1, e2⟩ : ∃ z, z = qx_sa σ 4 0 (va_cpy (σ 15 d0) (σ 4 0) ((0 : Int32)).toNatClampNeg ((0 : Int32)).toNatClampNeg ((64 : Int32)).toNatClampNeg) := ⟨_, rfl⟩
  have h1 := h1 s1 e2
  have h2 := h2 s1 e2
  obtain ⟨s3, e4⟩ : ∃ z, z = qx_sa s1 5 0 (va_cpy (s1 16 d0) (s1 5 0) ((0 : Int32)).toNatClampNeg ((0 : Int32)).toNatClampNeg ((13 : Int32)).toNatClampNeg) := ⟨_, rfl⟩
  have h1 := h1 s3 e4
  have h2 := h2 s3 e4
  obtain ⟨s5, e6⟩ : ∃ z, z = qx_st s3 3 0 3 (s3 14 d0 2) := ⟨_, rfl⟩
  have h1 := h1 s5 e6
  have h2 := h2 s5 e6
  obtain ⟨s7, e8⟩ : ∃ z, z = qx_st s5 3 0 4 (s5 14 d0 3) := ⟨_, rfl⟩
  have h1 := h1 s7 e8
  have h2 := h2 s7 e8
  exact ⟨_, h1, h2⟩
theorem uX5_writeRow (p1 : Int32) (d2 : Nat) (p3 : Int32) {post1 post2 : qx_St → Prop} (σ : qx_St) (h1 : wX5_writeRow p1 d2 p3 σ post1) (h2 : wX5_writeRow p1 d2 p3 σ post2) : ∃ s, post1 s ∧ post2 s := by
  unfold wX5_writeRow at h1 h2
  rcases Classical.em (p1 < (40 : Int32)) with c20 | c20
  · have h1 := h1.1 c20
    have h2 := h2.1 c20
    have h1 := h1.2
    have h2 := h2.2
    obtain ⟨s1, e2⟩ : ∃ z, z = qx_st σ 8 0 (p1 * (7 : Int32)).toNatClampNeg (σ 12 d2 2) := ⟨_, rfl⟩
    have h1 := h1 s1 e2
    have h2 := h2 s1 e2
    have h1 := h1.2
    have h2 := h2.2
    obtain ⟨s3, e4⟩ : ∃ z, z = qx_st s1 8 0 ((p1 * (7 : Int32)) + (1 : Int32)).toNatClampNeg (s1 12 d2 3) := ⟨_, rfl⟩
    have h1 := h1 s3 e4
    have h2 := h2 s3 e4
    have h1 := h1.2
    have h2 := h2.2
    obtain ⟨s5, e6⟩ : ∃ z, z = qx_st s3 8 0 ((p1 * (7 : Int32)) + (2 : Int32)).toNatClampNeg p3 := ⟨_, rfl⟩
    have h1 := h1 s5 e6
    have h2 := h2 s5 e6
    obtain ⟨r8, s7, h1, h2⟩ := uX1_used d2 s5 h1 h2
    have h1 := h1.2
    have h2 := h2.2
    obtain ⟨s9, e10⟩ : ∃ z, z = qx_st s7 8 0 ((p1 * (7 : Int32)) + (3 : Int32)).toNatClampNeg r8 := ⟨_, rfl⟩
    have h1 := h1 s9 e10
    have h2 := h2 s9 e10
    have h1 := h1.2
    have h2 := h2.2
    obtain ⟨s11, e12⟩ : ∃ z, z = qx_st s9 8 0 ((p1 * (7 : Int32)) + (4 : Int32)).toNatClampNeg (s9 12 d2 12) := ⟨_, rfl⟩
    have h1 := h1 s11 e12
    have h2 := h2 s11 e12
    have h1 := h1.2
    have h2 := h2.2
    obtain ⟨s13, e14⟩ : ∃ z, z = qx_st s11 8 0 ((p1 * (7 : Int32)) + (5 : Int32)).toNatClampNeg (s11 12 d2 13) := ⟨_, rfl⟩
    have h1 := h1 s13 e14
    have h2 := h2 s13 e14
    rcases Classical.em ((s13 12 d2 7) = 0) with c19 | c19
    · have h1 := h1.1 c19
      have h2 := h2.1 c19
      have h1 := h1.2
      have h2 := h2.2
      obtain ⟨s15, e16⟩ : ∃ z, z = qx_st s13 8 0 ((p1 * (7 : Int32)) + (6 : Int32)).toNatClampNeg (0 : Int32) := ⟨_, rfl⟩
      have h1 := h1 s15 e16
      have h2 := h2 s15 e16
      exact ⟨_, h1, h2⟩
    · have h1 := h1.2 c19
      have h2 := h2.2 c19
      have h1 := h1.2
      have h2 := h2.2
      obtain ⟨s17, e18⟩ : ∃ z, z = qx_st s13 8 0 ((p1 * (7 : Int32)) + (6 : Int32)).toNatClampNeg (1 : Int32) := ⟨_, rfl⟩
      have h1 := h1 s17 e18
      have h2 := h2 s17 e18
      exact ⟨_, h1, h2⟩
  · have h1 := h1.2 c20
    have h2 := h2.2 c20
    exact ⟨_, h1, h2⟩
theorem uX2_runFrame_j159 (rf : Int32 → Int32 → qx_St → (qx_St → Prop) → Prop) (hrf : ∀ (p1 p2 : Int32) (σ : qx_St) (post1 post2 : qx_St → Prop), rf p1 p2 σ post1 → rf p1 p2 σ post2 → ∃ s, post1 s ∧ post2 s) (p1 : Int32) (p2 : Int32) {post1 post2 : qx_St → Prop} (a1 : Int32) (a2 : Int32) (c3 : Nat) (c4 : Nat) (c5 : Nat) (a6 : Int32) (a7 : Int32) (σ : qx_St) (h1 : wX2_runFrame_j159 rf p1 p2 post1 a1 a2 c3 c4 c5 a6 a7 σ) (h2 : wX2_runFrame_j159 rf p1 p2 post2 a1 a2 c3 c4 c5 a6 a7 σ) : ∃ s, post1 s ∧ post2 s := by
  unfold wX2_runFrame_j159 at h1 h2
  obtain ⟨r10, s9, h1, h2⟩ := uX1_hasThrown c3 σ h1 h2
  rcases Classical.em (r10 = 0) with c17 | c17
  · have h1 := h1.1 c17
    have h2 := h2.1 c17
    obtain ⟨s11, h1, h2⟩ := uX5_writeRow a6 c3 a2 s9 h1 h2
    exact ⟨_, h1, h2⟩
  · have h1 := h1.2 c17
    have h2 := h2.2 c17
    obtain ⟨s13, h1, h2⟩ := uX6_putBack c5 s9 h1 h2
    obtain ⟨s15, h1, h2⟩ := uX5_writeRow a6 c3 a2 s13 h1 h2
    exact ⟨_, h1, h2⟩
theorem uX2_runFrame_l74 (rf : Int32 → Int32 → qx_St → (qx_St → Prop) → Prop) (hrf : ∀ (p1 p2 : Int32) (σ : qx_St) (post1 post2 : qx_St → Prop), rf p1 p2 σ post1 → rf p1 p2 σ post2 → ∃ s, post1 s ∧ post2 s) (p1 : Int32) (p2 : Int32) {post1 post2 : qx_St → Prop} : ∀ (n1 n2 : Nat) (a1 : Int32) (a2 : Int32) (c3 : Nat) (c4 : Nat) (c5 : Nat) (a6 : Int32) (a7 : Int32) (σ : qx_St), wX2_runFrame_l74 rf p1 p2 post1 n1 a1 a2 c3 c4 c5 a6 a7 σ → wX2_runFrame_l74 rf p1 p2 post2 n2 a1 a2 c3 c4 c5 a6 a7 σ → ∃ s, post1 s ∧ post2 s := by
  intro n1
  induction n1 with
  | zero => intro n2 a1 a2 c3 c4 c5 a6 a7 σ h1 h2; exact h1.elim
  | succ n1 ih =>
    intro n2 a1 a2 c3 c4 c5 a6 a7 σ h1 h2
    cases n2 with
    | zero => exact h2.elim
    | succ n2 =>
      unfold wX2_runFrame_l74 at h1 h2
      rcases Classical.em ((1001 : Int32) ≤ a7) with c31 | c31
      · have h1 := h1.1 c31
        have h2 := h2.1 c31
        exact uX2_runFrame_j159 rf hrf p1 p2 a1 a2 c3 c4 c5 a6 a7 σ h1 h2
      · have h1 := h1.2 c31
        have h2 := h2.2 c31
        rcases Classical.em ((σ 12 c3 11) = 0) with c30 | c30
        · have h1 := h1.1 c30
          have h2 := h2.1 c30
          rcases Classical.em ((σ 12 c3 10) < (σ 17 c4 3)) with c29 | c29
          · have h1 := h1.1 c29
            have h2 := h2.1 c29
            rcases Classical.em (0 < (σ 12 c3 9)) with c26 | c26
            · have h1 := h1.1 c26
              have h2 := h2.1 c26
              obtain ⟨s18, e19⟩ : ∃ z, z = qx_st σ 12 c3 9 ((σ 12 c3 9) - (1 : Int32)) := ⟨_, rfl⟩
              have h1 := h1 s18 e19
              have h2 := h2 s18 e19
              obtain ⟨s20, e21⟩ : ∃ z, z = qx_st s18 12 c3 10 ((s18 12 c3 10) + (1 : Int32)) := ⟨_, rfl⟩
              have h1 := h1 s20 e21
              have h2 := h2 s20 e21
              obtain ⟨s22, h1, h2⟩ := uX2_doStep rf hrf c3 c4 a2 s20 h1 h2
              exact ih n2 a1 a2 c3 c4 c5 a6 (a7 + 1) s22 h1 h2
            · have h1 := h1.2 c26
              have h2 := h2.2 c26
              obtain ⟨s24, h1, h2⟩ := uX1_endThrowing c3 (6 : Int32) σ h1 h2
              exact ih n2 a1 a2 c3 c4 c5 a6 (a7 + 1) s24 h1 h2
          · have h1 := h1.2 c29
            have h2 := h2.2 c29
            obtain ⟨s27, h1, h2⟩ := uX1_endGiving c3 (0 : Int32) σ h1 h2
            exact ih n2 a1 a2 c3 c4 c5 a6 (a7 + 1) s27 h1 h2
        · have h1 := h1.2 c30
          have h2 := h2.2 c30
          exact uX2_runFrame_j159 rf hrf p1 p2 a1 a2 c3 c4 c5 a6 a7 σ h1 h2
theorem uX2_runFrame (rf : Int32 → Int32 → qx_St → (qx_St → Prop) → Prop) (hrf : ∀ (p1 p2 : Int32) (σ : qx_St) (post1 post2 : qx_St → Prop), rf p1 p2 σ post1 → rf p1 p2 σ post2 → ∃ s, post1 s ∧ post2 s) (p1 : Int32) (p2 : Int32) {post1 post2 : qx_St → Prop} (σ : qx_St) (h1 : wX2_runFrame rf p1 p2 σ post1) (h2 : wX2_runFrame rf p1 p2 σ post2) : ∃ s, post1 s ∧ post2 s := by
  unfold wX2_runFrame at h1 h2
  have h1 := h1.2
  have h2 := h2.2
  obtain ⟨r2, s1, h1, h2⟩ := uX4_memberOf (σ 12 (p2 - (1 : Int32)).toNatClampNeg 2) (σ 12 (p2 - (1 : Int32)).toNatClampNeg 3) σ h1 h2
  have h1 := h1.2
  have h2 := h2.2
  have h1 := h1.2
  have h2 := h2.2
  obtain ⟨r4, s3, h1, h2⟩ := uX5_enter p2 s1 h1 h2
  obtain ⟨s5, h1, h2⟩ := uX6_keep ((p2 - (1 : Int32)).toNatClampNeg) s3 h1 h2
  obtain ⟨s7, h1, h2⟩ := uX8_move p1 (s5 12 (p2 - (1 : Int32)).toNatClampNeg 2) (s5 12 (p2 - (1 : Int32)).toNatClampNeg 5) s5 h1 h2
  obtain ⟨n1, h1⟩ := h1
  obtain ⟨n2, h2⟩ := h2
  exact uX2_runFrame_l74 rf hrf p1 p2 n1 n2 p1 p2 ((p2 - (1 : Int32)).toNatClampNeg) r2 ((p2 - (1 : Int32)).toNatClampNeg) r4 (0 : Int32) s7 h1 h2
theorem uRF : ∀ (k : Nat) (p1 p2 : Int32) (σ : qx_St) (post1 post2 : qx_St → Prop), wRF k p1 p2 σ post1 → wRF k p1 p2 σ post2 → ∃ s, post1 s ∧ post2 s
  | 0, _, _, _, _, _, h1, _ => h1.elim
  | k + 1, p1, p2, σ, post1, post2, h1, h2 => uX2_runFrame (wRF k) (uRF k) p1 p2 σ h1 h2
