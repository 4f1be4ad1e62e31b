/-! The reference's does, whole. -/
theorem s_does {σ : SS} {P : SH} {fs u : Int64} {S : SG} (c : RI σ P fs S) (p : PI P fs S) :
    ∃ τ, m_Md_does 81 u (lay σ) = some ((pDo P u S).1, lay τ) ∧ Mod rL σ τ ∧ RI τ P fs (pDo P u S).2 := by
  obtain ⟨h2, h5, h7, h9, h11, h15, hm, hr, l2⟩ := id c
  obtain ⟨p1, p2, p3, p4, p5, p6⟩ := p
  by_cases h3 : S.1 = 300
  · have e : pDo P u S = (-4, S) := by unfold pDo; rw [if_pos h3]
    rw [e]
    refine ⟨σ, ?_, Mod.rf, c⟩
    unfold m_Md_does
    simp (disch := first | assumption | rfl | decide | omega) only [↓ckd_lay, ↓bd_gI, ↓bd_gL, ↓bd_pI, ↓bd_pL, ↓bd_pZ, ↓bd_now, ↓bd_next, ↓bd_ldR3, ↓bd_ldR4, ↓ap_ite, ↓ap_rt, ↓ap_lt, ↓rz_0, ↓rz_1, rz_bi, ↓gr_81_0, ↓gr_81_1, ↓gr_81_2, ↓gr_81_3, ↓gr_81_4, ↓gr_81_7, ↓gr_81_8, ↓gr_81_9, ↓gr_81_11, ↓gr_81_14, ↓gr_81_17, ↓gr_81_18, ↓gr_81_20, ↓gr_81_21, ↓gr_81_25, ↓gr_81_26, ↓gr_81_27, ↓gr_81_28, ↓gr_81_29, ↓gr_81_31, ↓gr_81_32, ↓gr_81_33, ↓gr_81_34, ↓gr_81_36, ↓gr_81_39, h15, h3, ne_300, if_true]
  · have hz := RunOk.z30 p1.1.1 p4
    have hT3 : S.1 < 300 := by omega
    obtain ⟨τ1, e1, m1, n1, s1⟩ := s_take (σ := σ) (by rw [h9]; exact hz) h11
    rw [h9] at n1
    rw [h7] at s1
    have c1 : RShp τ1 P := h2.mod2 m1 (by decide)
    obtain ⟨τ2, e2, m2, n2, mk, sd2, td2⟩ := s_tries (u := u) c1 p1.1
    rw [n1, s1] at e2 n2 mk td2
    rw [s1] at sd2
    have m12 : Mod rwL σ τ2 := (m1.mono (by decide)).tr m2
    have c2 : RShp τ2 P := c1.mod2 m2 (by decide)
    have hz2 : Z30 (τ2.2.1 95) := by rw [n2]; exact Z30.out p1.1.1 hz
    by_cases ho : (pOut nR P u S.2.1 S.2.2.1).1 = true
    · have e : pDo P u S = (nI (pTold nR P u S.2.1 S.2.2.1), pNext P u S) := by unfold pDo; rw [if_neg h3, if_pos ho]
      rw [e]
      obtain ⟨τ3, e3, m3, n3, s3⟩ := s_lay (σ := τ2) (by rw [m12.l (by decide), h9]; exact hz) hz2
      have m13 : Mod rL σ τ3 := (m12.mono (by decide)).tr (m3.mono (by decide))
      have c3 : RShp τ3 P := c2.mod2 m3 (by decide)
      have ht3 : τ3.1 (fa 81 16) 0 = nI S.1 := by rw [m3.i (by decide), m12.i (by decide)]; exact h15
      have htd : τ3.1 (fa 81 23) 0 = nI (pTold nR P u S.2.1 S.2.2.1) := by rw [m3.i (by decide)]; exact td2
      have htl := told_lt (u := u) (sd := S.2.2.1) (N := S.2.1) p1.1.1
      have h16 := p1.1.1.2.2.1
      have hlen := pOut_len (near := nR) (u := u) (N := S.2.1) (sd := S.2.2.1) p1.1.1
      obtain ⟨τ4, e4, m4, t4, k4, w1, w2⟩ := s_does80 (σ0 := sL (sL (sL τ3 92 (va_up (τ3.2.1 92) S.1 u)) 93 (va_up (τ3.2.1 93) (7 * S.1) u)) 93 (va_up (va_up (τ3.2.1 93) (7 * S.1) u) (7 * S.1 + 1) (τ3.2.1 90 (pTold nR P u S.2.1 S.2.2.1)))) (T := S.1) (S := P.2.2.2.1) (l := (pOut nR P u S.2.1 S.2.2.1).2.2) c3.2.2.2.1 p1.1.1.1 hlen (by rw [sL_1, sL_1, sL_1, m3.i (by decide), m3.i (by decide)]; exact mk) ht3 hT3 5 0 FU (sL (sL (sL τ3 92 (va_up (τ3.2.1 92) S.1 u)) 93 (va_up (τ3.2.1 93) (7 * S.1) u)) 93 (va_up (va_up (τ3.2.1 93) (7 * S.1) u) (7 * S.1 + 1) (τ3.2.1 90 (pTold nR P u S.2.1 S.2.2.1)))) (by omega) (by unfold FU; omega) Mod.rf
      have mm : Mod [92, 93] τ3 (sL (sL (sL τ3 92 (va_up (τ3.2.1 92) S.1 u)) 93 (va_up (τ3.2.1 93) (7 * S.1) u)) 93 (va_up (va_up (τ3.2.1 93) (7 * S.1) u) (7 * S.1 + 1) (τ3.2.1 90 (pTold nR P u S.2.1 S.2.2.1)))) := ((Mod.L (by simp)).tr (Mod.L (by simp))).tr (Mod.L (by simp))
      have m34 : Mod [92, 93, 94, fa 81 19, fa 81 16] τ3 τ4 := (mm.mono (by decide)).tr (m4.mono (by decide))
      refine ⟨τ4, ?_, m13.tr (m34.mono (by decide)), ?_⟩
      · unfold m_Md_does
        simp (disch := first | assumption | rfl | decide | omega) only [↓ckd_lay, ↓bd_gI, ↓bd_gL, ↓bd_pI, ↓bd_pL, ↓bd_pZ, ↓bd_now, ↓bd_next, ↓bd_ldR3, ↓bd_ldR4, ↓ap_ite, ↓ap_rt, ↓ap_lt, ↓rz_0, ↓rz_1, rz_bi, ↓gr_81_0, ↓gr_81_1, ↓gr_81_2, ↓gr_81_3, ↓gr_81_4, ↓gr_81_7, ↓gr_81_8, ↓gr_81_9, ↓gr_81_11, ↓gr_81_14, ↓gr_81_17, ↓gr_81_18, ↓gr_81_20, ↓gr_81_21, ↓gr_81_25, ↓gr_81_26, ↓gr_81_27, ↓gr_81_28, ↓gr_81_29, ↓gr_81_31, ↓gr_81_32, ↓gr_81_33, ↓gr_81_34, ↓gr_81_36, ↓gr_81_39, h15, h3, ne_300, if_false]
        rw [bd_eq e1, bd_eq e2, ap_ite, if_neg (by rw [bi_0]; exact fun q => q ho), bd_eq e3]
        simp (disch := first | assumption | rfl | decide | omega) only [↓ckd_lay, ↓bd_gI, ↓bd_gL, ↓bd_pI, ↓bd_pL, ↓bd_pZ, ↓bd_now, ↓bd_next, ↓bd_ldR3, ↓bd_ldR4, ↓ap_ite, ↓ap_rt, ↓ap_lt, ↓rz_0, ↓rz_1, rz_bi, ↓gr_81_0, ↓gr_81_1, ↓gr_81_2, ↓gr_81_3, ↓gr_81_4, ↓gr_81_7, ↓gr_81_8, ↓gr_81_9, ↓gr_81_11, ↓gr_81_14, ↓gr_81_17, ↓gr_81_18, ↓gr_81_20, ↓gr_81_21, ↓gr_81_25, ↓gr_81_26, ↓gr_81_27, ↓gr_81_28, ↓gr_81_29, ↓gr_81_31, ↓gr_81_32, ↓gr_81_33, ↓gr_81_34, ↓gr_81_36, ↓gr_81_39, ht3, htd, ↓la_90, ↓st_90, ↓la_92, ↓st_92, ↓la_93, ↓st_93, na_0, na_1, na_2, na_3, na_4, na_5, na_6, na_7, na_8, na_10, na_11, na_12, na_13, na_15, na_16, na_30, na_60, na_300, an_0, an_1, an_2, an_3, an_4, an_5, an_6, an_7, an_8, an_10, an_11, an_12, an_13, an_15, an_16, an_30, an_60, an_300, nm_0, nm_1, nm_2, nm_3, nm_4, nm_5, nm_6, nm_7, nm_8, nm_10, nm_11, nm_12, nm_13, nm_15, nm_16, nm_30, nm_60, nm_300, mn_0, mn_1, mn_2, mn_3, mn_4, mn_5, mn_6, mn_7, mn_8, mn_10, mn_11, mn_12, mn_13, mn_15, mn_16, mn_30, mn_60, mn_300, nI_add, pk_mul, sL_1, sL_ne, sL_same]
        rw [sL_1, sL_1, sL_1, htd] at e4
        exact e4
      · refine ⟨c3.mod2 m34 (by decide), ?_, ?_, ?_, ?_, t4, ?_, ?_, k4⟩
        · rw [m34.l (by decide), m13.l (by decide)]; exact h5
        · rw [m34.l (by decide), s3]; exact sd2
        · rw [m34.l (by decide), n3]; exact n2
        · rw [m34.l (by decide), m3.l (by decide)]; exact hz2
        · intro t ht
          have ht' : t < S.1 + 1 := ht
          rw [m4.l (by decide), sL_ne (by decide), sL_ne (by decide), sL_same, m3.l (by decide), m12.l (by decide)]
          show va_up (σ.2.1 92) S.1 u t = va_up S.2.2.2.1 S.1 u t
          by_cases q : t = S.1
          · rw [q, up_same, up_same]
          · rw [up_ne q, up_ne q]; exact hm t (by omega)
        · intro t ht w hw
          have ht' : t < S.1 + 1 := ht
          have h5' := p1.1.1.1
          have e90 : τ3.2.1 90 = P.2.2.2.2.1 := c3.2.2.2.2.1
          have e93 : τ3.2.1 93 = σ.2.1 93 := by rw [m3.l (by decide), m12.l (by decide)]
          rw [sL_same, e90, e93] at w1
          show _ = pRc _ _ _ _ _ _ _
          by_cases q : t = S.1
          · subst q
            by_cases q0 : w = 0
            · rw [w1 _ (by omega), up_ne (by omega), q0]
              unfold pRc
              rw [Nat.add_zero, up_same, if_pos rfl]
            · by_cases q1 : w = 1
              · rw [w1 _ (by omega), q1, up_same]
                unfold pRc
                rw [if_neg (by omega), if_pos rfl]
              · have := w2 (w - 2) (by omega) (by omega) (by omega)
                rw [show 7 * S.1 + 2 + (w - 2) = 7 * S.1 + w by omega] at this
                rw [this, sL_ne (by decide), sL_ne (by decide), sL_ne (by decide), n3, n2]
                unfold pRc
                have e6 : 6 * (w - 2) = 6 * (7 * S.1 + w - 7 * S.1 - 2) := by omega
                rw [if_neg (by omega), if_neg (by omega), if_pos (by omega), e6]
          · rw [w1 _ (by omega), up_ne (by omega), up_ne (by omega), hr t (by omega) w hw]
            unfold pRc
            rw [if_neg (by omega), if_neg (by omega), if_neg (by omega)]
    · have e : pDo P u S = (-6, S) := by unfold pDo; rw [if_neg h3, if_neg ho]
      rw [e]
      refine ⟨τ2, ?_, m12.mono (by decide), ?_⟩
      · unfold m_Md_does
        simp (disch := first | assumption | rfl | decide | omega) only [↓ckd_lay, ↓bd_gI, ↓bd_gL, ↓bd_pI, ↓bd_pL, ↓bd_pZ, ↓bd_now, ↓bd_next, ↓bd_ldR3, ↓bd_ldR4, ↓ap_ite, ↓ap_rt, ↓ap_lt, ↓rz_0, ↓rz_1, rz_bi, ↓gr_81_0, ↓gr_81_1, ↓gr_81_2, ↓gr_81_3, ↓gr_81_4, ↓gr_81_7, ↓gr_81_8, ↓gr_81_9, ↓gr_81_11, ↓gr_81_14, ↓gr_81_17, ↓gr_81_18, ↓gr_81_20, ↓gr_81_21, ↓gr_81_25, ↓gr_81_26, ↓gr_81_27, ↓gr_81_28, ↓gr_81_29, ↓gr_81_31, ↓gr_81_32, ↓gr_81_33, ↓gr_81_34, ↓gr_81_36, ↓gr_81_39, h15, h3, ne_300, if_false]
        rw [bd_eq e1, bd_eq e2, ap_ite, if_pos (by rw [bi_0]; exact ho), ap_rt]
      · refine ⟨c2, ?_, ?_, ?_, hz2, ?_, ?_, ?_, ?_⟩
        · rw [m12.l (by decide)]; exact h5
        · rw [m12.l (by decide)]; exact h7
        · rw [m12.l (by decide)]; exact h9
        · rw [m12.i (by decide)]; exact h15
        · rw [m12.l (by decide)]; exact hm
        · rw [m12.l (by decide)]; exact hr
        · rw [m12.i (by decide), m12.i (by decide)]; exact l2
