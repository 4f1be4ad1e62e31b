/-! hold: the call. -/
theorem Rst.hold {σ τ : SS} {L : List Nat} (h : Rst σ) (hM : Mdp L σ τ) (hL : ∀ o ∈ L, (fReel o || fFind o || fW o || fReach o || fWorst o) = false) (hh : RHold τ) : Rst τ := by
  have hh2 : ∀ o ∈ L, fReel o = false ∧ fFind o = false ∧ fW o = false ∧ fReach o = false ∧ fWorst o = false := fun o ho => by
    have := hL o ho
    simpa [Bool.or_eq_false_iff, and_assoc] using this
  obtain ⟨h3, h4, h5, h6, h7, h8⟩ := h
  exact ⟨RReel.mod (σ := (σ.1, σ.2.1, τ.2.2)) h3 hM.m (fun o ho => (hh2 o ho).1), RFind.mod (σ := (σ.1, σ.2.1, τ.2.2)) h4 hM.m (fun o ho => (hh2 o ho).2.1), RW.mod (σ := (σ.1, σ.2.1, τ.2.2)) h5 hM.m (fun o ho => (hh2 o ho).2.2.1), hh, RReach.mod (σ := (σ.1, σ.2.1, τ.2.2)) h7 hM.m (fun o ho => (hh2 o ho).2.2.2.1), RWorst.mod (σ := (σ.1, σ.2.1, τ.2.2)) h8 hM.m (fun o ho => (hh2 o ho).2.2.2.2)⟩
theorem d_hold {σ : SS} {u : Int64} {m : Int32} (h : Rel σ) : Duo (m_Ob_hold 1 u m) (m_Md_hold 81 u m) σ := by
  have a1 : (m < 1) ↔ ¬ (1 ≤ m.toInt) := by
    rw [Int32.lt_iff_toInt_lt, show (1 : Int32).toInt = 1 from rfl]; omega
  have a2 : (m ≤ 400) ↔ (m.toInt ≤ 400) := by
    rw [Int32.le_iff_toInt_le, show (400 : Int32).toInt = 400 from rfl]
  have a3 : ((1 : Int64) ≤ m.toInt64 ∧ m.toInt64 ≤ 400) ↔ (1 ≤ m.toInt ∧ m.toInt ≤ 400) := by
    simp only [Int64.le_iff_toInt_le, Int32.toInt_toInt64, show (1 : Int64).toInt = 1 from rfl, show (400 : Int64).toInt = 400 from rfl]
  by_cases hu : smpB u = true
  · have hs := (smpB_iff u).mp hu
    by_cases hm : 1 ≤ m.toInt ∧ m.toInt ≤ 400
    · obtain ⟨M, hM, rfl⟩ := nI_ex (n := 401) (x := m) (by omega) (by rw [Int32.le_iff_toInt_le, show (0 : Int32).toInt = 0 from rfl]; omega) (by rw [Int32.lt_iff_toInt_lt, show (nI 401).toInt = 401 from rfl]; omega)
      obtain ⟨⟨P, fs, a, b, S, c, r, p, z⟩, rs⟩ := h.cut2
      obtain ⟨h1, h2, h5, h7, h9, h11, h15, hmm, hr, l2⟩ := id c
      obtain ⟨p1, p2, p3, p4, p5, p6⟩ := id p
      have hT := c.tw.2
      have hlb := hT.2.2.2.2.2.2
      have hF : FitP P := p1.1.1
      have hnow : σ.2.2.1 = a := by rw [h1.1]
      have hnext : σ.2.2.2 = b := by rw [h1.1]
      have hz := RunOk.z30 hF p4
      obtain ⟨τ1, e1, m1, n1, s1⟩ := s_becomeLike (σ := σ) hT c.tw.1 h11 (by rw [h9]; exact hz)
      rw [h9] at n1
      rw [h7] at s1
      have c1 : CShp τ1 P := h2.mod hT (m1.mono (by simp))
      obtain ⟨τ2, e2, m2, ok2⟩ := s_empty (σ := τ1) (wd P)
      have c2 : CShp τ2 P := c1.mod2 m2 (by decide)
      obtain ⟨v3, τ3, e3, m3, w3, k3, f3⟩ := s_find (σ := τ2) hT c2 hF ok2
      have c3 : CShp τ3 P := c2.mod2 m3 (by decide)
      have n2 : τ2.2.1 (b + 1) = S.2.1 := by rw [m2.l (by unfold fa; simp; omega)]; exact n1
      have s2 : τ2.2.1 (fa b 4) 0 = S.2.2.1 := by rw [m2.l (by unfold fa; simp; omega)]; exact s1
      rw [n2, s2] at k3
      have fr : Fresh τ3 (wd P) 0 := by
        rcases f3 with ⟨-, g⟩ | ⟨e, he, -⟩
        · exact g
        · exact absurd he (Nat.not_lt_zero e)
      have n3 : τ3.2.1 (b + 1) = S.2.1 := by rw [m3.l (by unfold fa; simp; omega)]; exact n2
      have s3 : τ3.2.1 (fa b 4) 0 = S.2.2.1 := by rw [m3.l (by unfold fa; simp; omega)]; exact s2
      have ch : CH τ3 P b u S.2.1 S.2.2.1 0 := ⟨n3, s3, RunOk.ng p4, hz, ok2.mod m3 (by decide), fr, w3, k3, fun e he => absurd he (Nat.not_lt_zero e), fun e he => absurd he (Nat.not_lt_zero e)⟩
      obtain ⟨v, σ', F, f1, f2, f4, f5, f6⟩ := s_hold hT p1 hs (show M ≤ 400 by omega) M 0 FU τ3 (by omega) (by unfold FU; omega) c3 ch (by rw [n3]; exact hz)
      have m13 : Mod (hcL b) σ τ3 := (m1.mono (by unfold hcL; simp)).tr ((m2.mono (by unfold hcL; simp)).tr (m3.mono (by unfold hcL; simp)))
      have mC : Mod (hcL b) σ σ' := m13.tr f2
      have hd3 : hdl τ3 = hdl σ := by
        have aux : ∀ o ∈ [fa 27 3, fa 27 4, fa 27 5], τ3.1 o = σ.1 o ∧ τ3.2.1 o = σ.2.1 o := fun o ho => by
          have l1 : 200 ≤ o ∧ o < 1950 ∧ 1500 < o := by revert ho; unfold fa; simp; omega
          have y1 := m3.1 o (by unfold fa; simp; omega)
          have y2 := m2.1 o (by unfold fa; simp; omega)
          have y3 := m1.1 o (by unfold fa; simp; omega)
          exact ⟨y1.1.trans (y2.1.trans y3.1), y1.2.trans (y2.2.trans y3.2)⟩
        unfold hdl
        rw [(aux (fa 27 3) (by simp)).1, (aux (fa 27 4) (by simp)).1, (aux (fa 27 5) (by simp)).2]
      have cE : CI σ' P fs a b S := c.next2 mC (by rcases h1.2 with ⟨rfl, rfl⟩ | ⟨rfl, rfl⟩ <;> decide) f4
      have mP : Mdp (twL 75 ++ hcL 78) σ σ' := by
        rcases h1.2 with ⟨rfl, rfl⟩ | ⟨rfl, rfl⟩
        · exact (mC.mono (by decide)).p
        · exact (mC.mono (by decide)).p
      have r1 : RI σ' P fs S := r.mod mP (by decide)
      obtain ⟨g1, g2, g3, g4, g5, g6, g7, g8, g9⟩ := id r1
      obtain ⟨υ1, y1, y2, y3, y4⟩ := s_take (σ := σ') (by rw [g4]; exact hz) g5
      rw [g4] at y3
      rw [g3] at y4
      have t1 : RShp υ1 P := g1.mod2 y2 (by decide)
      obtain ⟨υ2, x1, x2, x3, x4⟩ := s_standsGo (σ0 := υ1) (t := 0) (td := 0) t1 hF (by omega) (fun w => absurd rfl w) (by omega) 5 0 FU υ1 (by omega) (by unfold FU; omega) Mod.rf (fun k hk => by omega) (fun q _ => rfl)
      rw [y3, y4, if_pos rfl] at x3
      have t2 : RShp υ2 P := t1.mod2 x2 (by decide)
      have z2 : Z30 (υ2.2.1 95) := by rw [x2.l (by decide), y3]; exact hz
      have rh : RH υ2 P u S.2.1 S.2.2.1 0 := ⟨t2, by rw [x2.l (by decide)]; exact y3, by rw [x2.l (by decide)]; exact y4, hz, fun e he k hk => by
        have : e = 0 := by omega
        subst this
        exact x3 k hk⟩
      obtain ⟨υ, w1, w2, w4, w5⟩ := f6 υ2 rh z2
      have mR : Mod hrL σ' υ := (y2.mono (by decide)).tr ((x2.mono (by decide)).tr w2)
      have rE : RI υ P fs S := r1.trial2 mR (by decide) w4
      have hR0 : hdR υ2 = hdR σ := by
        show (υ2.2.1 100 0, υ2.2.1 100 1, υ2.2.1 100 2) = _
        rw [x2.l (by decide), y2.l (by decide), (mP 100 (by decide)).2]
      have rhold : RHold υ := by
        have b1 : hdl υ = hdl σ' := by
          show (υ.1 (fa 27 3) 0, υ.1 (fa 27 4) 0, υ.2.1 (fa 27 5) 0) = _
          rw [mR.i (by decide), mR.i (by decide), mR.l (by decide)]
        have b2 : hdR υ = hdX (hdl υ) := by
          rw [b1, w5, f5, hd3, hR0]
          cases F with
          | none =>
            obtain ⟨-, -, -, q4, -⟩ := rs
            show (σ.2.1 100 0, σ.2.1 100 1, σ.2.1 100 2) = ((σ.1 (fa 27 3) 0).toInt64, (σ.1 (fa 27 4) 0).toInt64, σ.2.1 (fa 27 5) 0)
            rw [q4.1, q4.2.1, q4.2.2]
          | some x => rfl
        have b3 : (υ.2.1 100 0, υ.2.1 100 1, υ.2.1 100 2) = ((υ.1 (fa 27 3) 0).toInt64, (υ.1 (fa 27 4) 0).toInt64, υ.2.1 (fa 27 5) 0) := b2
        injection b3 with b4 b5
        injection b5 with b5 b6
        exact ⟨b4.symm, b5.symm, b6.symm⟩
      have mE : Mdp (twL 75 ++ (hcL 78 ++ hrL)) σ υ := (mP.mono (by decide)).tr (mR.mono (by decide)).p
      refine ⟨v, σ', υ, ?_, ?_, Rel.mk2 (cE.mod mR (by decide)) rE p (z.mdp mE (by decide)) (rs.hold mE (by decide) rhold)⟩
      · unfold m_Ob_hold
        rw [ckd_lay (ci := 8) (o := 1) rfl (by decide), q_isSample, ap_ite, if_neg (by rw [bi_0]; exact fun q => q hu), ap_ite, if_neg (fun w => a1.mp w hm.1), ap_ite, if_pos (a2.mpr hm.2)]
        have hnext1 : τ1.2.2.2 = b := by rw [m1.2]; exact hnext
        simp (disch := first | assumption | rfl | decide | omega) only [↓ckd_lay, ↓bd_gI, ↓bd_gL, ↓bd_pI, ↓bd_pL, ↓bd_pZ, ↓bd_now, ↓bd_next, ↓bd_ldR3, ↓bd_ldR4, ↓ap_ite, ↓ap_rt, ↓ap_lt, ↓rz_0, ↓rz_1, rz_bi, ↓gr_1_0, ↓gr_1_1, ↓gr_1_2, ↓gr_1_3, ↓gr_1_4, ↓gr_1_5, ↓gr_1_6, ↓gr_15_0, ↓gr_15_1, ↓gr_15_2, ↓gr_15_3, ↓gr_20_0, ↓gr_20_1, ↓gr_23_0, ↓gr_23_1, ↓gr_23_2, ↓gr_27_0, ↓gr_27_1, ↓gr_27_2, ↓gr_29_0, ↓gr_29_1, ↓gr_29_2, ↓gr_29_3, ↓gr_29_4, ↓gr_33_0, ↓gr_33_1, ↓gr_now, ↓gr_next, hnow, hnext]
        rw [bd_eq e1]
        simp (disch := first | assumption | rfl | decide | omega) only [↓ckd_lay, ↓bd_gI, ↓bd_gL, ↓bd_pI, ↓bd_pL, ↓bd_pZ, ↓bd_now, ↓bd_next, ↓bd_ldR3, ↓bd_ldR4, ↓ap_ite, ↓ap_rt, ↓ap_lt, ↓rz_0, ↓rz_1, rz_bi, ↓gr_1_0, ↓gr_1_1, ↓gr_1_2, ↓gr_1_3, ↓gr_1_4, ↓gr_1_5, ↓gr_1_6, ↓gr_15_0, ↓gr_15_1, ↓gr_15_2, ↓gr_15_3, ↓gr_20_0, ↓gr_20_1, ↓gr_23_0, ↓gr_23_1, ↓gr_23_2, ↓gr_27_0, ↓gr_27_1, ↓gr_27_2, ↓gr_29_0, ↓gr_29_1, ↓gr_29_2, ↓gr_29_3, ↓gr_29_4, ↓gr_33_0, ↓gr_33_1, ↓gr_now, ↓gr_next, hnext1]
        have eg : m_Hd_goRound 27 b u (nI M) (lay τ1) = some (v, lay σ') := by
          unfold m_Hd_goRound
          simp (disch := first | assumption | rfl | decide | omega) only [↓ckd_lay, ↓bd_gI, ↓bd_gL, ↓bd_pI, ↓bd_pL, ↓bd_pZ, ↓bd_now, ↓bd_next, ↓bd_ldR3, ↓bd_ldR4, ↓ap_ite, ↓ap_rt, ↓ap_lt, ↓rz_0, ↓rz_1, rz_bi, ↓gr_1_0, ↓gr_1_1, ↓gr_1_2, ↓gr_1_3, ↓gr_1_4, ↓gr_1_5, ↓gr_1_6, ↓gr_15_0, ↓gr_15_1, ↓gr_15_2, ↓gr_15_3, ↓gr_20_0, ↓gr_20_1, ↓gr_23_0, ↓gr_23_1, ↓gr_23_2, ↓gr_27_0, ↓gr_27_1, ↓gr_27_2, ↓gr_29_0, ↓gr_29_1, ↓gr_29_2, ↓gr_29_3, ↓gr_29_4, ↓gr_33_0, ↓gr_33_1, ↓gr_now, ↓gr_next]
          rw [bd_eq e2, gr_27_1, bd_eq e3]
          exact f1
        rw [bd_eq eg, ap_rt]
      · unfold m_Md_hold
        rw [ckd_lay (ci := 9) (o := 81) rfl (by decide), q_isSampleM, ap_ite, if_neg (by rw [bi_0]; exact fun q => q hu), q_in, ap_ite, if_neg (by rw [bi_0, a3]; exact fun q => q hm), bd_eq y1]
        have es : m_Md_stands 81 0 (lay υ1) = some ((), lay υ2) := by
          unfold m_Md_stands
          rw [ckd_lay (ci := 9) (o := 81) rfl (by decide)]
          exact x1
        rw [bd_eq es]
        exact w1
    · refine Duo.same h (-2) ?_ ?_
      · unfold m_Ob_hold
        rw [ckd_lay (ci := 8) (o := 1) rfl (by decide), q_isSample, ap_ite, if_neg (by rw [bi_0]; exact fun q => q hu), ap_ite]
        by_cases q1 : m < 1
        · rw [if_pos q1, ap_rt]
        · rw [if_neg q1, ap_ite, if_neg (fun w => hm ⟨Classical.not_not.mp (fun z => q1 (a1.mpr z)), a2.mp w⟩), ap_rt]
      · unfold m_Md_hold
        rw [ckd_lay (ci := 9) (o := 81) rfl (by decide), q_isSampleM, ap_ite, if_neg (by rw [bi_0]; exact fun q => q hu), q_in, ap_ite, if_pos (by rw [bi_0, a3]; exact hm), ap_rt]
  · refine Duo.same h (-2) ?_ ?_
    · unfold m_Ob_hold
      rw [ckd_lay (ci := 8) (o := 1) rfl (by decide), q_isSample, ap_ite, if_pos (by rw [bi_0]; exact hu), ap_rt]
    · unfold m_Md_hold
      rw [ckd_lay (ci := 9) (o := 81) rfl (by decide), q_isSampleM, ap_ite, if_pos (by rw [bi_0]; exact hu), ap_rt]
