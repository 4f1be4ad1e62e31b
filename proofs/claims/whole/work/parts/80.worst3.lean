/-! worst: the call. -/
theorem Rst.worst {σ τ : SS} {L : List Nat} (h : Rst σ) (hM : Mdp L σ τ) (hL : ∀ o ∈ L, (fReel o || fFind o || fW o || fHold o || fReach o) = false) (hh : RWorst τ) : Rst τ := by
  have hh2 : ∀ o ∈ L, fReel o = false ∧ fFind o = false ∧ fW o = false ∧ fHold o = false ∧ fReach o = false := fun o ho => by
    have := hL o ho
    simpa [Bool.or_eq_false_iff, and_assoc] using this
  obtain ⟨h3, h4, h5, h6, h7, h8⟩ := h
  exact ⟨RReel.mod (σ := (σ.1, σ.2.1, τ.2.2)) h3 hM.m (fun o ho => (hh2 o ho).1), RFind.mod (σ := (σ.1, σ.2.1, τ.2.2)) h4 hM.m (fun o ho => (hh2 o ho).2.1), RW.mod (σ := (σ.1, σ.2.1, τ.2.2)) h5 hM.m (fun o ho => (hh2 o ho).2.2.1), RHold.mod (σ := (σ.1, σ.2.1, τ.2.2)) h6 hM.m (fun o ho => (hh2 o ho).2.2.2.1), RReach.mod (σ := (σ.1, σ.2.1, τ.2.2)) h7 hM.m (fun o ho => (hh2 o ho).2.2.2.2), hh⟩
theorem s_w81 {σ : SS} {w : Int32} (hw : ¬ w = 0) : m_Ob_worst_81 1 w (lay σ) = some (-9223372036854775808, lay (sI σ (fa 33 2) (fun _ => w))) := by
  unfold m_Ob_worst_81
  simp (disch := first | assumption | rfl | decide | omega) only [↓ckd_lay, ↓bd_gI, ↓bd_gL, ↓bd_pI, ↓bd_pL, ↓bd_pZ, ↓bd_now, ↓bd_next, ↓bd_ldR3, ↓bd_ldR4, ↓ap_ite, ↓ap_rt, ↓ap_lt, ↓rz_0, ↓rz_1, rz_bi, ↓gr_1_0, ↓gr_1_1, ↓gr_1_2, ↓gr_1_3, ↓gr_1_4, ↓gr_1_5, ↓gr_1_6, ↓gr_15_0, ↓gr_15_1, ↓gr_15_2, ↓gr_15_3, ↓gr_20_0, ↓gr_20_1, ↓gr_23_0, ↓gr_23_1, ↓gr_23_2, ↓gr_27_0, ↓gr_27_1, ↓gr_27_2, ↓gr_29_0, ↓gr_29_1, ↓gr_29_2, ↓gr_29_3, ↓gr_29_4, ↓gr_33_0, ↓gr_33_1, ↓gr_now, ↓gr_next, hw, if_false]
theorem s_refuses {σ : SS} {w : Int32} : m_Md_refuses 81 w (lay σ) = some (-9223372036854775808, lay (sI σ (fa 81 37) (fun _ => w))) := by
  unfold m_Md_refuses
  simp (disch := first | assumption | rfl | decide | omega) only [↓ckd_lay, ↓bd_gI, ↓bd_gL, ↓bd_pI, ↓bd_pL, ↓bd_pZ, ↓bd_now, ↓bd_next, ↓bd_ldR3, ↓bd_ldR4, ↓ap_ite, ↓ap_rt, ↓ap_lt, ↓rz_0, ↓rz_1, rz_bi]
theorem Duo.no {f g : M Int64} {σ : SS} {w : Int32} (h : Rel σ) (hw : ¬ w = 0) (e1 : f (lay σ) = m_Ob_worst_81 1 w (lay σ)) (e2 : ∀ τ, Mod [fa 33 2] σ τ → g (lay τ) = bd (m_Md_refuses 81 w) (fun v => rt v) (lay τ)) : Duo f g σ := by
  have m1 : Mod [fa 33 2] σ (sI σ (fa 33 2) (fun _ => w)) := Mod.I (by simp)
  have m2 : Mod [fa 81 37] (sI σ (fa 33 2) (fun _ => w)) (sI (sI σ (fa 33 2) (fun _ => w)) (fa 81 37) (fun _ => w)) := Mod.I (by simp)
  have mm : Mod [fa 33 2, fa 81 37] σ (sI (sI σ (fa 33 2) (fun _ => w)) (fa 81 37) (fun _ => w)) := (m1.mono (by simp)).tr (m2.mono (by simp))
  obtain ⟨⟨P, fs, a, b, S, c, r, p, z⟩, rs⟩ := h.cut2
  obtain ⟨-, -, -, -, -, -, n, rr, q1, q2, q3, q4, q5, q6⟩ := id rs
  have hW : RWorst (sI (sI σ (fa 33 2) (fun _ => w)) (fa 81 37) (fun _ => w)) := by
    refine ⟨?_, n, rr, q1, q2, ?_, ?_, ?_, ?_⟩
    · rw [sI_ne (by decide), sI_row, sI_row]
    · rw [mm.i (by decide)]; exact q3
    · rw [mm.i (by decide)]; exact q4
    · rw [mm.i (by decide)]; exact q5
    · exact q6
  refine ⟨-9223372036854775808, _, _, e1.trans (s_w81 hw), ?_, Rel.mk2 (c.mod mm (by decide)) (r.mod mm.p (by decide)) p (z.mdp mm.p (by decide)) (rs.worst mm.p (by decide) hW)⟩
  rw [e2 _ m1, bd_eq s_refuses, ap_rt]
theorem d_worst {σ : SS} {m : Int32} {lo hi : Int64} (h : Rel σ) : Duo (m_Ob_worst 1 m lo hi) (m_Md_worst 81 m lo hi) σ := by
  have a1 : (m < 1) ↔ ¬ (1 ≤ m.toInt) := by
    rw [Int32.lt_iff_toInt_lt, show (1 : Int32).toInt = 1 from rfl]; omega
  have a2 : (12 < m) ↔ ¬ (m.toInt ≤ 12) := by
    rw [Int32.lt_iff_toInt_lt, show (12 : Int32).toInt = 12 from rfl]; omega
  have a3 : ((1 : Int64) ≤ m.toInt64 ∧ m.toInt64 ≤ 12) ↔ (1 ≤ m.toInt ∧ m.toInt ≤ 12) := by
    simp only [Int64.le_iff_toInt_le, Int32.toInt_toInt64, show (1 : Int64).toInt = 1 from rfl, show (12 : Int64).toInt = 12 from rfl]
  obtain ⟨⟨P, fs, a, b, S, c, r, p, z⟩, rs⟩ := h.cut2
  obtain ⟨h1, h2, h5, h7, h9, h11, h15, hmm, hrr, l2⟩ := id c
  obtain ⟨p1, p2, p3, p4, p5, p6⟩ := id p
  have hF : FitP P := p1.1.1
  have hS5 := hF.1
  have h9' := hF.2.2.2
  by_cases hm : 1 ≤ m.toInt ∧ m.toInt ≤ 12
  case neg =>
    refine Duo.no h (w := -2) (by decide) ?_ (fun τ _ => ?_)
    · unfold m_Ob_worst
      rw [ckd_lay (ci := 8) (o := 1) rfl (by decide), ap_ite]
      by_cases q1 : m < 1
      · rw [if_pos q1]
      · rw [if_neg q1, ap_ite, if_pos (a2.mpr (fun w => hm ⟨Classical.not_not.mp (fun z => q1 (a1.mpr z)), w⟩))]
    · unfold m_Md_worst
      rw [ckd_lay (ci := 9) (o := 81) rfl (by decide), q_in, ap_ite, if_pos (by rw [bi_0, a3]; exact hm)]
  by_cases hlo : smpB lo = true
  case neg =>
    refine Duo.no h (w := -2) (by decide) ?_ (fun τ _ => ?_)
    · unfold m_Ob_worst
      rw [ckd_lay (ci := 8) (o := 1) rfl (by decide), ap_ite, if_neg (fun w => a1.mp w hm.1), ap_ite, if_neg (fun w => a2.mp w hm.2), q_isSample, ap_ite, if_pos (by rw [bi_0]; exact hlo)]
    · unfold m_Md_worst
      rw [ckd_lay (ci := 9) (o := 81) rfl (by decide), q_in, ap_ite, if_neg (by rw [bi_0, a3]; exact fun w => w hm), q_isSampleM, ap_ite, if_pos (by rw [bi_0]; exact hlo)]
  by_cases hhi : smpB hi = true
  case neg =>
    refine Duo.no h (w := -2) (by decide) ?_ (fun τ _ => ?_)
    · unfold m_Ob_worst
      rw [ckd_lay (ci := 8) (o := 1) rfl (by decide), ap_ite, if_neg (fun w => a1.mp w hm.1), ap_ite, if_neg (fun w => a2.mp w hm.2), q_isSample, ap_ite, if_neg (by rw [bi_0]; exact fun w => w hlo), q_isSample, ap_ite, if_pos (by rw [bi_0]; exact hhi)]
    · unfold m_Md_worst
      rw [ckd_lay (ci := 9) (o := 81) rfl (by decide), q_in, ap_ite, if_neg (by rw [bi_0, a3]; exact fun w => w hm), q_isSampleM, ap_ite, if_neg (by rw [bi_0]; exact fun w => w hlo), q_isSampleM, ap_ite, if_pos (by rw [bi_0]; exact hhi)]
  have slo := (smpB_iff lo).mp hlo
  have shi := (smpB_iff hi).mp hhi
  have stC : m_Ob_worst 1 m lo hi (lay σ) = (if nI P.2.2.2.1 = 0 then (m_Ob_worst_81 1 (-7 : Int32)) else (bd (gR 8 1 1) (fun v5 => bd (gI 5 v5 6) (fun v6 => if v6 = 0 then (bd (gR 8 1 5) (fun v7 => bd (m_Ws_goThroughAll v7 m lo hi) (fun v8 => if v8 = 0 then (m_Ob_worst_81 1 (-6 : Int32)) else (m_Ob_worst_81 1 (0 : Int32))))) else (m_Ob_worst_81 1 (-7 : Int32))))) : M Int64) (lay σ) := by
    unfold m_Ob_worst
    rw [ckd_lay (ci := 8) (o := 1) rfl (by decide), ap_ite, if_neg (fun w => a1.mp w hm.1), ap_ite, if_neg (fun w => a2.mp w hm.2), q_isSample, ap_ite, if_neg (by rw [bi_0]; exact fun w => w hlo), q_isSample, ap_ite, if_neg (by rw [bi_0]; exact fun w => w hhi), gr_1_1, bd_gI (ci := 5) (o := 15) (k := 4) rfl rfl (by decide), h2.2.2.2.1]
  have stR : ∀ τ, RShp τ P → m_Md_worst 81 m lo hi (lay τ) = (if nI P.2.2.2.1 = 0 then (bd (m_Md_refuses 81 (-7 : Int32)) (fun v7 => rt v7)) else (bd (gI 9 81 12) (fun v8 => if v8 ≤ 0 then (l_Md_worst_66 FU 81 m lo hi (-1 : Int64) (0 : Int32) (0 : Int32)) else (bd (m_Md_refuses 81 (-7 : Int32)) (fun v9 => rt v9)))) : M Int64) (lay τ) := fun τ t => by
    unfold m_Md_worst
    rw [ckd_lay (ci := 9) (o := 81) rfl (by decide), q_in, ap_ite, if_neg (by rw [bi_0, a3]; exact fun w => w hm), q_isSampleM, ap_ite, if_neg (by rw [bi_0]; exact fun w => w hlo), q_isSampleM, ap_ite, if_neg (by rw [bi_0]; exact fun w => w hhi), bd_gI (ci := 9) (o := 81) (k := 6) rfl rfl (by decide), t.2.2.2.1]
  by_cases hS : P.2.2.2.1 = 0
  · refine Duo.no h (w := -7) (by decide) ?_ (fun τ m1 => ?_)
    · rw [stC, ap_ite, if_pos ((ne_0 (by omega)).mpr hS)]
    · rw [stR τ (r.1.mod2 m1 (by decide)), ap_ite, if_pos ((ne_0 (by omega)).mpr hS)]
  by_cases h0 : P.2.2.2.2.2.2 = 0
  case neg =>
    refine Duo.no h (w := -7) (by decide) ?_ (fun τ m1 => ?_)
    · rw [stC, ap_ite, if_neg (fun w => hS ((ne_0 (by omega)).mp w)), gr_1_1, bd_gI (ci := 5) (o := 15) (k := 6) rfl rfl (by decide), h2.2.2.2.2.2.2, ap_ite, if_neg (fun w => h0 ((ne_0 (by omega)).mp w))]
    · have t := r.1.mod2 m1 (by decide)
      rw [stR τ t, ap_ite, if_neg (fun w => hS ((ne_0 (by omega)).mp w)), bd_gI (ci := 9) (o := 81) (k := 12) rfl rfl (by decide), t.2.2.2.2.2.2, ap_ite, if_neg (fun w => h0 (by have := (nl_0 (by omega)).mp w; omega))]
  obtain ⟨n, hn, rfl⟩ := nI_ex (n := 13) (x := m) (by omega) (by rw [Int32.le_iff_toInt_le, show (0 : Int32).toInt = 0 from rfl]; omega) (by rw [Int32.lt_iff_toInt_lt, show (nI 13).toInt = 13 from rfl]; omega)
  have hT : IsTw 35 := tw_w 0 (by decide)
  have pw := Nat.pow_pos (a := 2) (n := n) (by decide)
  have h12 : 2 ^ n ≤ 4096 := Nat.pow_le_pow_right (n := 2) (j := 12) (by decide) (show n ≤ 12 by omega)
  obtain ⟨σ1, e1, m1, n1, s1⟩ := s_beginAgain (σ := σ) hT (z 0 (by decide))
  have mT : Mod wcT σ σ1 := m1.mono (by decide)
  have c1 : CShp σ1 P := h2.mod hT (m1.mono (by decide))
  have z1 : TZ σ1 := fun d hd => by
    by_cases q : d = 0
    · rw [q]
      show Z30 (σ1.2.1 (35 + 1))
      rw [n1]
      exact fun _ _ => rfl
    · rw [m1.l (by unfold fa; simp; omega)]; exact z d hd
  obtain ⟨ok, σ', Mx, B, y1, y2, y3, y4, y5, y6, y7⟩ := s_worst (n := n) (lo := lo) (hi := hi) (fs := fs) p1 h0 (by omega) (by omega) slo shi (2 ^ n) 0 FU σ1 (-1) 0 (by omega) (by unfold FU; omega) (by omega) c1 z1 ⟨fun _ => ⟨n1, s1.trans h5⟩, fun w => by omega⟩
  have eg : m_Ws_goThroughAll 33 (nI n) lo hi (lay σ) = some (bi (ok = true), lay σ') := by
    unfold m_Ws_goThroughAll
    rw [ckd_lay (ci := 7) (o := 33) rfl (by decide), ap_lt, gr_33_0, bd_gI (ci := 5) (o := 15) (k := 4) rfl rfl (by decide), h2.2.2.2.1, ap_lt, gr_33_1, show (0 : Int32) = nI 0 from rfl, bd_ldR4 (by decide), ns_1 _ (by omega), nm_6, nI_add, wa_pow n (by omega), show (P.2.2.2.1 - 1) * 6 + 0 = 6 * (P.2.2.2.1 - 1) by omega]
    rw [show 35 + 3 * 0 = 35 from rfl, bd_eq e1]
    exact y1
  have m02 : Mod wcL σ σ' := (mT.mono (fun o ho => List.mem_append_left _ ho)).tr y2
  have stC2 : m_Ob_worst 1 (nI n) lo hi (lay σ) = (if bi (ok = true) = 0 then (m_Ob_worst_81 1 (-6 : Int32)) else (m_Ob_worst_81 1 (0 : Int32)) : M Int64) (lay σ') := by
    rw [stC, ap_ite, if_neg (fun w => hS ((ne_0 (by omega)).mp w)), gr_1_1, bd_gI (ci := 5) (o := 15) (k := 6) rfl rfl (by decide), h2.2.2.2.2.2.2, ap_ite, if_pos ((ne_0 (by omega)).mpr h0), gr_1_5, bd_eq eg]
  have go : ∀ w : Int32, ∃ υ, m_Md_worst 81 (nI n) lo hi (lay (sI σ' (fa 33 2) (fun _ => w))) = some (if ok = true then Mx else -9223372036854775808, lay υ) ∧ Mod wrL (sI σ' (fa 33 2) (fun _ => w)) υ ∧ Z30 (υ.2.1 95) ∧ (ok = true → υ.1 (fa 81 37) 0 = 0 ∧ υ.1 (fa 81 38) 0 = nI n ∧ ∀ j, j < n → υ.2.1 106 j = if wbit B n j = true then hi else lo) ∧ (¬ ok = true → υ.1 (fa 81 37) 0 = -6 ∧ Mod (rwL ++ [fa 81 37]) (sI σ' (fa 33 2) (fun _ => w)) υ) := fun w => by
    have mw : Mod (wcL ++ [fa 33 2]) σ (sI σ' (fa 33 2) (fun _ => w)) := (m02.mono (fun o ho => List.mem_append_left _ ho)).tr (Mod.I (by simp))
    have r1 : RI (sI σ' (fa 33 2) (fun _ => w)) P fs S := r.mod mw.p (by decide)
    obtain ⟨υ, w1, w2⟩ := y7 _ r1.1 r1.2.1 r1.2.2.2.2.1
    refine ⟨υ, ?_, w2⟩
    rw [stR _ r1.1, ap_ite, if_neg (fun w => hS ((ne_0 (by omega)).mp w)), bd_gI (ci := 9) (o := 81) (k := 12) rfl rfl (by decide), r1.1.2.2.2.2.2.2, ap_ite, if_pos ((nl_0 (by omega)).mpr (by omega))]
    exact w1
  have fin : ∀ (w : Int32) (υ : SS) (v : Int64), m_Ob_worst 1 (nI n) lo hi (lay σ) = some (v, lay (sI σ' (fa 33 2) (fun _ => w))) → m_Md_worst 81 (nI n) lo hi (lay (sI σ' (fa 33 2) (fun _ => w))) = some (v, lay υ) → Mod wrL (sI σ' (fa 33 2) (fun _ => w)) υ → Z30 (υ.2.1 95) → RWorst υ → Duo (m_Ob_worst 1 (nI n) lo hi) (m_Md_worst 81 (nI n) lo hi) σ := fun w υ v q1 q2 q3 q4 q5 => by
    have mw : Mod (wcL ++ [fa 33 2]) σ (sI σ' (fa 33 2) (fun _ => w)) := (m02.mono (fun o ho => List.mem_append_left _ ho)).tr (Mod.I (by simp))
    have zE : TZ (sI σ' (fa 33 2) (fun _ => w)) := y3
    have cE : CI (sI σ' (fa 33 2) (fun _ => w)) P fs a b S := c.mod mw (by decide)
    have rE : RI (sI σ' (fa 33 2) (fun _ => w)) P fs S := r.mod mw.p (by decide)
    have mE : Mdp (wcL ++ (fa 33 2 :: wrL)) σ υ := (mw.mono (by decide)).p.tr (q3.mono (by decide)).p
    exact ⟨v, _, υ, q1, q2, Rel.mk2 (cE.mod q3 (by decide)) (rE.trial2 q3 (by decide) q4) p (zE.mdp q3.p (by decide)) (rs.worst mE (by decide) q5)⟩
  by_cases hok : ok = true
  · obtain ⟨x1, x2, x3, x4, x5⟩ := y5 hok
    obtain ⟨υ, w1, w2, w3, w4, -⟩ := go 0
    obtain ⟨v1, v2, v3⟩ := w4 hok
    rw [if_pos hok] at w1
    refine fin 0 υ Mx ?_ w1 w2 w3 ⟨?_, n, B, by omega, y4, ?_, v2, ?_, fun i hi => ?_⟩
    · rw [stC2, ap_ite, if_neg (by rw [bi_0]; exact fun w => w hok)]
      unfold m_Ob_worst_81
      simp (disch := first | assumption | rfl | decide | omega) only [↓ckd_lay, ↓bd_gI, ↓bd_gL, ↓bd_pI, ↓bd_pL, ↓bd_pZ, ↓bd_now, ↓bd_next, ↓bd_ldR3, ↓bd_ldR4, ↓ap_ite, ↓ap_rt, ↓ap_lt, ↓rz_0, ↓rz_1, rz_bi, ↓gr_1_0, ↓gr_1_1, ↓gr_1_2, ↓gr_1_3, ↓gr_1_4, ↓gr_1_5, ↓gr_1_6, ↓gr_15_0, ↓gr_15_1, ↓gr_15_2, ↓gr_15_3, ↓gr_20_0, ↓gr_20_1, ↓gr_23_0, ↓gr_23_1, ↓gr_23_2, ↓gr_27_0, ↓gr_27_1, ↓gr_27_2, ↓gr_29_0, ↓gr_29_1, ↓gr_29_2, ↓gr_29_3, ↓gr_29_4, ↓gr_33_0, ↓gr_33_1, ↓gr_now, ↓gr_next, if_true, sI_2, x1]
    · rw [v1, w2.i (by decide), sI_row]
    · rw [w2.i (by decide), sI_ne (by decide)]; exact x2
    · rw [w2.i (by decide), sI_ne (by decide)]; exact x3
    · rw [v3 i hi, w2.l (by decide), w2.l (by decide), sI_2, x4, x5]
  · have mN : Mod wcT σ σ' := mT.tr (y6 hok)
    obtain ⟨υ, w1, w2, w3, -, w5⟩ := go (-6)
    obtain ⟨v1, v2⟩ := w5 hok
    rw [if_neg hok] at w1
    obtain ⟨-, -, -, -, -, -, n', rr, q1, q2, q3, q4, q5, q6⟩ := id rs
    refine fin (-6) υ (-9223372036854775808) ?_ w1 w2 w3 ⟨?_, n', rr, q1, q2, ?_, ?_, ?_, fun i hi => ?_⟩
    · rw [stC2, ap_ite, if_pos (by rw [bi_0]; exact hok)]
      exact s_w81 (by decide)
    · rw [v1, w2.i (by decide), sI_row]
    · rw [w2.i (by decide), sI_ne (by decide), mN.i (by decide)]; exact q3
    · rw [v2.i (by decide), sI_ne (by decide), mN.i (by decide)]; exact q4
    · rw [w2.i (by decide), sI_ne (by decide), mN.i (by decide)]; exact q5
    · rw [v2.l (by decide), w2.l (by decide), w2.l (by decide), sI_2, mN.l (by decide), mN.l (by decide), mN.l (by decide)]
      exact q6 i hi
