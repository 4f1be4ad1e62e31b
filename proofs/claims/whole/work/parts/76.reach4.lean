/-! reach: the call. -/
def noT (ks : Nat → Int32) : Nat → Nat → Bool
  | 0, _ => true
  | r + 1, s => if ks s = 3 then false else noT ks r (s + 1)
theorem noT_iff {ks : Nat → Int32} : ∀ (r s : Nat), noT ks r s = true ↔ ∀ i, s ≤ i → i < s + r → ¬ ks i = 3
  | 0, s => ⟨fun _ i h1 h2 => by omega, fun _ => rfl⟩
  | r + 1, s => by
    unfold noT
    by_cases q : ks s = 3
    · rw [if_pos q]
      exact ⟨fun h => (by cases h), fun h => absurd q (h s (by omega) (by omega))⟩
    · rw [if_neg q, noT_iff r (s + 1)]
      refine ⟨fun h i h1 h2 => ?_, fun h i h1 h2 => h i (by omega) (by omega)⟩
      by_cases z : i = s
      · rw [z]; exact q
      · exact h i (by omega) (by omega)
def rchB (P : SH) : Bool := decide (1 ≤ P.2.2.2.1 ∧ P.2.2.2.1 ≤ 2 ∧ P.2.2.2.2.2.2 = 0) && noT P.1 P.2.2.2.1 0
theorem rchB_iff {P : SH} : rchB P = true ↔ ReachP P := by
  unfold rchB ReachP
  rw [Bool.and_eq_true, decide_eq_true_eq, noT_iff]
  constructor
  · rintro ⟨⟨h1, h2, h3⟩, h4⟩
    exact ⟨h1, h2, h3, fun s hs => h4 s (by omega) (by omega)⟩
  · rintro ⟨h1, h2, h3, h4⟩
    exact ⟨⟨h1, h2, h3⟩, fun s _ hs => h4 s (by omega)⟩
theorem s_isReachGo {σ : SS} {P : SH} (hs : CShp σ P) (hF : FitP P) : ∀ (r s n : Nat), s + r = P.2.2.2.1 → r < n → l_Ob_isReachable_36 n 1 (nI s) (lay σ) = some (bi (noT P.1 r s = true), lay σ)
  | r, s, 0, h, hn => by omega
  | 0, s, n + 1, h, hn => by
    have h5 := hF.1
    have hq : P.2.2.2.1 ≤ s := by omega
    show b_Ob_isReachable_36 (l_Ob_isReachable_36 n) 1 (nI s) (lay σ) = _
    unfold b_Ob_isReachable_36
    simp (disch := first | assumption | rfl | decide | omega) only [↓ckd_lay, ↓bd_gI, ↓bd_gL, ↓bd_pI, ↓bd_pL, ↓bd_pZ, ↓bd_now, ↓bd_next, ↓bd_ldR3, ↓bd_ldR4, ↓ap_ite, ↓ap_rt, ↓ap_lt, ↓rz_0, ↓rz_1, rz_bi, ↓gr_1_0, ↓gr_1_1, ↓gr_1_2, ↓gr_1_3, ↓gr_1_4, ↓gr_1_5, ↓gr_1_6, ↓gr_15_0, ↓gr_15_1, ↓gr_15_2, ↓gr_15_3, ↓gr_20_0, ↓gr_20_1, ↓gr_23_0, ↓gr_23_1, ↓gr_23_2, ↓gr_27_0, ↓gr_27_1, ↓gr_27_2, ↓gr_29_0, ↓gr_29_1, ↓gr_29_2, ↓gr_29_3, ↓gr_29_4, ↓gr_33_0, ↓gr_33_1, ↓gr_now, ↓gr_next, hs.2.2.2.1, le_nn, hq, if_true]
    rfl
  | r + 1, s, n + 1, h, hn => by
    have h5 := hF.1
    have hq : ¬ P.2.2.2.1 ≤ s := by omega
    show b_Ob_isReachable_36 (l_Ob_isReachable_36 n) 1 (nI s) (lay σ) = _
    unfold b_Ob_isReachable_36
    simp (disch := first | assumption | rfl | decide | omega) only [↓ckd_lay, ↓bd_gI, ↓bd_gL, ↓bd_pI, ↓bd_pL, ↓bd_pZ, ↓bd_now, ↓bd_next, ↓bd_ldR3, ↓bd_ldR4, ↓ap_ite, ↓ap_rt, ↓ap_lt, ↓rz_0, ↓rz_1, rz_bi, ↓gr_1_0, ↓gr_1_1, ↓gr_1_2, ↓gr_1_3, ↓gr_1_4, ↓gr_1_5, ↓gr_1_6, ↓gr_15_0, ↓gr_15_1, ↓gr_15_2, ↓gr_15_3, ↓gr_20_0, ↓gr_20_1, ↓gr_23_0, ↓gr_23_1, ↓gr_23_2, ↓gr_27_0, ↓gr_27_1, ↓gr_27_2, ↓gr_29_0, ↓gr_29_1, ↓gr_29_2, ↓gr_29_3, ↓gr_29_4, ↓gr_33_0, ↓gr_33_1, ↓gr_now, ↓gr_next, hs.2.2.2.1, le_nn, hq, if_false, ↓la_16, ↓st_16, hs.1, na_1]
    rw [s_isReachGo hs hF r (s + 1) n (by omega) (by omega)]
    by_cases q : P.1 s = 3
    · rw [if_pos q]
      have : noT P.1 (r + 1) s = false := if_pos q
      rw [this]
      rfl
    · rw [if_neg q]
      have : noT P.1 (r + 1) s = noT P.1 r (s + 1) := if_neg q
      rw [this]
theorem s_isReach {σ : SS} {P : SH} (hs : CShp σ P) (hF : FitP P) : m_Ob_isReachable 1 (lay σ) = some (bi (rchB P = true), lay σ) := by
  have h5 := hF.1
  have h9 := hF.2.2.2
  unfold m_Ob_isReachable
  simp (disch := first | assumption | rfl | decide | omega) only [↓ckd_lay, ↓bd_gI, ↓bd_gL, ↓bd_pI, ↓bd_pL, ↓bd_pZ, ↓bd_now, ↓bd_next, ↓bd_ldR3, ↓bd_ldR4, ↓ap_ite, ↓ap_rt, ↓ap_lt, ↓rz_0, ↓rz_1, rz_bi, ↓gr_1_0, ↓gr_1_1, ↓gr_1_2, ↓gr_1_3, ↓gr_1_4, ↓gr_1_5, ↓gr_1_6, ↓gr_15_0, ↓gr_15_1, ↓gr_15_2, ↓gr_15_3, ↓gr_20_0, ↓gr_20_1, ↓gr_23_0, ↓gr_23_1, ↓gr_23_2, ↓gr_27_0, ↓gr_27_1, ↓gr_27_2, ↓gr_29_0, ↓gr_29_1, ↓gr_29_2, ↓gr_29_3, ↓gr_29_4, ↓gr_33_0, ↓gr_33_1, ↓gr_now, ↓gr_next, hs.2.2.2.1, hs.2.2.2.2.2.2, ln_0, ln_1, ln_2, ln_3, ln_4, ln_5, ln_6, ln_7, ln_8, ln_10, ln_11, ln_12, ln_13, ln_15, ln_16, ln_30, ln_60, ln_256, ln_300, ln_400, ln_500, ln_1023, ln_1024, nl_0, nl_1, nl_2, nl_3, nl_4, nl_5, nl_6, nl_7, nl_8, nl_10, nl_11, nl_12, nl_13, nl_15, nl_16, nl_30, nl_60, nl_256, nl_300, nl_400, nl_500, nl_1023, nl_1024, tn_0, tn_1, tn_2, tn_3, tn_4, tn_5, tn_6, tn_7, tn_8, tn_10, tn_11, tn_12, tn_13, tn_15, tn_16, tn_30, tn_60, tn_256, tn_300, tn_400, tn_500, tn_1023, tn_1024, nt_0, nt_1, nt_2, nt_3, nt_4, nt_5, nt_6, nt_7, nt_8, nt_10, nt_11, nt_12, nt_13, nt_15, nt_16, nt_30, nt_60, nt_256, nt_300, nt_400, nt_500, nt_1023, nt_1024, ne_0, ne_1, ne_2, ne_3, ne_4, ne_5, ne_6, ne_7, ne_8, ne_10, ne_11, ne_12, ne_13, ne_15, ne_16, ne_30, ne_60, ne_256, ne_300, ne_400, ne_500, ne_1023, ne_1024, le_nn, lt_nn, eq_nn]
  by_cases q1 : P.2.2.2.1 < 1
  · rw [if_pos q1]
    have : rchB P = false := by unfold rchB; rw [decide_eq_false (fun w => by omega), Bool.false_and]
    rw [this]
    rfl
  · rw [if_neg q1]
    by_cases q2 : 2 < P.2.2.2.1
    · rw [if_pos q2]
      have : rchB P = false := by unfold rchB; rw [decide_eq_false (fun w => by omega), Bool.false_and]
      rw [this]
      rfl
    · rw [if_neg q2]
      by_cases q3 : P.2.2.2.2.2.2 = 0
      · rw [if_pos q3]
        have : rchB P = noT P.1 P.2.2.2.1 0 := by unfold rchB; rw [decide_eq_true ⟨by omega, by omega, q3⟩, Bool.true_and]
        rw [this]
        exact s_isReachGo hs hF P.2.2.2.1 0 FU (by omega) (by unfold FU; omega)
      · rw [if_neg q3]
        have : rchB P = false := by unfold rchB; rw [decide_eq_false (fun w => q3 w.2.2), Bool.false_and]
        rw [this]
        rfl
theorem s_mayGo {σ : SS} {P : SH} (hs : RShp σ P) (hF : FitP P) : ∀ (r s n : Nat) (b : Bool), s + r = P.2.2.2.1 → r < n → l_Md_mayReach_30 n 81 (bi (b = true)) (nI s) (lay σ) = some (bi ((b && noT P.1 r s) = true), lay σ)
  | r, s, 0, b, h, hn => by omega
  | 0, s, n + 1, b, h, hn => by
    have h5 := hF.1
    have hq : P.2.2.2.1 ≤ s := by omega
    show b_Md_mayReach_30 (l_Md_mayReach_30 n) 81 (bi (b = true)) (nI s) (lay σ) = _
    unfold b_Md_mayReach_30
    simp (disch := first | assumption | rfl | decide | omega) only [↓ckd_lay, ↓bd_gI, ↓bd_gL, ↓bd_pI, ↓bd_pL, ↓bd_pZ, ↓bd_now, ↓bd_next, ↓bd_ldR3, ↓bd_ldR4, ↓ap_ite, ↓ap_rt, ↓ap_lt, ↓rz_0, ↓rz_1, rz_bi, ↓gr_81_0, ↓gr_81_1, ↓gr_81_2, ↓gr_81_3, ↓gr_81_4, ↓gr_81_7, ↓gr_81_8, ↓gr_81_9, ↓gr_81_11, ↓gr_81_14, ↓gr_81_17, ↓gr_81_18, ↓gr_81_20, ↓gr_81_21, ↓gr_81_25, ↓gr_81_26, ↓gr_81_27, ↓gr_81_28, ↓gr_81_29, ↓gr_81_31, ↓gr_81_32, ↓gr_81_33, ↓gr_81_34, ↓gr_81_36, ↓gr_81_39, hs.2.2.2.1, le_nn, hq, if_true]
    unfold noT
    rw [Bool.and_true]
  | r + 1, s, n + 1, b, h, hn => by
    have h5 := hF.1
    have hq : ¬ P.2.2.2.1 ≤ s := by omega
    show b_Md_mayReach_30 (l_Md_mayReach_30 n) 81 (bi (b = true)) (nI s) (lay σ) = _
    unfold b_Md_mayReach_30
    simp (disch := first | assumption | rfl | decide | omega) only [↓ckd_lay, ↓bd_gI, ↓bd_gL, ↓bd_pI, ↓bd_pL, ↓bd_pZ, ↓bd_now, ↓bd_next, ↓bd_ldR3, ↓bd_ldR4, ↓ap_ite, ↓ap_rt, ↓ap_lt, ↓rz_0, ↓rz_1, rz_bi, ↓gr_81_0, ↓gr_81_1, ↓gr_81_2, ↓gr_81_3, ↓gr_81_4, ↓gr_81_7, ↓gr_81_8, ↓gr_81_9, ↓gr_81_11, ↓gr_81_14, ↓gr_81_17, ↓gr_81_18, ↓gr_81_20, ↓gr_81_21, ↓gr_81_25, ↓gr_81_26, ↓gr_81_27, ↓gr_81_28, ↓gr_81_29, ↓gr_81_31, ↓gr_81_32, ↓gr_81_33, ↓gr_81_34, ↓gr_81_36, ↓gr_81_39, hs.2.2.2.1, le_nn, hq, if_false, ↓la_87, ↓st_87, hs.1, na_1]
    by_cases q : P.1 s = 3
    · have e := s_mayGo hs hF r (s + 1) n false (by omega) (by omega)
      rw [Bool.false_and] at e
      rw [if_pos q, bi_a0]
      have : noT P.1 (r + 1) s = false := if_pos q
      rw [this, Bool.and_false]
      exact e
    · rw [if_neg q, bi_a1, s_mayGo hs hF r (s + 1) n b (by omega) (by omega)]
      have : noT P.1 (r + 1) s = noT P.1 r (s + 1) := if_neg q
      rw [this]
theorem s_may {σ : SS} {P : SH} (hs : RShp σ P) (hF : FitP P) : m_Md_mayReach 81 (lay σ) = some (bi (rchB P = true), lay σ) := by
  have h5 := hF.1
  have h9 := hF.2.2.2
  have e0 := s_mayGo hs hF P.2.2.2.1 0 FU false (by omega) (by unfold FU; omega)
  have e1 := s_mayGo hs hF P.2.2.2.1 0 FU true (by omega) (by unfold FU; omega)
  rw [Bool.false_and] at e0
  rw [Bool.true_and] at e1
  have a3 : ((1 : Int64) ≤ (nI P.2.2.2.1).toInt64 ∧ (nI P.2.2.2.1).toInt64 ≤ 2) ↔ (1 ≤ P.2.2.2.1 ∧ P.2.2.2.1 ≤ 2) := by
    simp only [Int64.le_iff_toInt_le, Int32.toInt_toInt64, show (1 : Int64).toInt = 1 from rfl, show (2 : Int64).toInt = 2 from rfl, nI_toInt (show P.2.2.2.1 < 2 ^ 31 by omega)]
    omega
  unfold m_Md_mayReach
  rw [ckd_lay (ci := 9) (o := 81) rfl (by decide), bd_gI (ci := 9) (o := 81) (k := 6) rfl rfl (by decide), hs.2.2.2.1, q_in, ap_ite]
  by_cases q1 : 1 ≤ P.2.2.2.1 ∧ P.2.2.2.1 ≤ 2
  · rw [if_neg (by rw [bi_0, a3]; exact fun w => w q1), bd_gI (ci := 9) (o := 81) (k := 12) rfl rfl (by decide), hs.2.2.2.2.2.2, ap_ite]
    by_cases q3 : P.2.2.2.2.2.2 = 0
    · rw [if_pos ((ne_0 (by omega)).mpr q3)]
      have : rchB P = noT P.1 P.2.2.2.1 0 := by unfold rchB; rw [decide_eq_true ⟨q1.1, q1.2, q3⟩, Bool.true_and]
      rw [this]
      exact e1
    · rw [if_neg (fun w => q3 ((ne_0 (by omega)).mp w))]
      have : rchB P = false := by unfold rchB; rw [decide_eq_false (fun w => q3 w.2.2), Bool.false_and]
      rw [this]
      exact e0
  · rw [if_pos (by rw [bi_0, a3]; exact q1)]
    have : rchB P = false := by unfold rchB; rw [decide_eq_false (fun w => q1 ⟨w.1, w.2.1⟩), Bool.false_and]
    rw [this]
    exact e0
theorem Rst.reach {σ τ : SS} {L : List Nat} (h : Rst σ) (hM : Mdp L σ τ) (hL : ∀ o ∈ L, (fReel o || fFind o || fW o || fHold o || fWorst o) = false) (hh : RReach τ) : Rst τ := by
  have hh2 : ∀ o ∈ L, fReel o = false ∧ fFind o = false ∧ fW o = false ∧ fHold o = false ∧ fWorst o = false := fun o ho => by
    have := hL o ho
    simpa [Bool.or_eq_false_iff, and_assoc] using this
  obtain ⟨h3, h4, h5, h6, h7, h8⟩ := h
  exact ⟨RReel.mod (σ := (σ.1, σ.2.1, τ.2.2)) h3 hM.m (fun o ho => (hh2 o ho).1), RFind.mod (σ := (σ.1, σ.2.1, τ.2.2)) h4 hM.m (fun o ho => (hh2 o ho).2.1), RW.mod (σ := (σ.1, σ.2.1, τ.2.2)) h5 hM.m (fun o ho => (hh2 o ho).2.2.1), RHold.mod (σ := (σ.1, σ.2.1, τ.2.2)) h6 hM.m (fun o ho => (hh2 o ho).2.2.2.1), hh, RWorst.mod (σ := (σ.1, σ.2.1, τ.2.2)) h8 hM.m (fun o ho => (hh2 o ho).2.2.2.2)⟩
theorem d_reach {σ : SS} {lo hi m : Int64} (h : Rel σ) : Duo (m_Ob_reach 1 lo hi m) (m_Md_reach 81 lo hi m) σ := by
  by_cases hlo : smpB lo = true
  case neg =>
    refine Duo.same h (-2) ?_ ?_
    · unfold m_Ob_reach
      rw [ckd_lay (ci := 8) (o := 1) rfl (by decide), q_isSample, ap_ite, if_pos (by rw [bi_0]; exact hlo), ap_rt]
    · unfold m_Md_reach
      rw [ckd_lay (ci := 9) (o := 81) rfl (by decide), q_isSampleM, ap_ite, if_pos (by rw [bi_0]; exact hlo), ap_rt]
  by_cases hhi : smpB hi = true
  case neg =>
    refine Duo.same h (-2) ?_ ?_
    · unfold m_Ob_reach
      rw [ckd_lay (ci := 8) (o := 1) rfl (by decide), q_isSample, ap_ite, if_neg (by rw [bi_0]; exact fun q => q hlo), q_isSample, ap_ite, if_pos (by rw [bi_0]; exact hhi), ap_rt]
    · unfold m_Md_reach
      rw [ckd_lay (ci := 9) (o := 81) rfl (by decide), q_isSampleM, ap_ite, if_neg (by rw [bi_0]; exact fun q => q hlo), q_isSampleM, ap_ite, if_pos (by rw [bi_0]; exact hhi), ap_rt]
  have slo := (smpB_iff lo).mp hlo
  have shi := (smpB_iff hi).mp hhi
  have ed : (hi - lo).toInt = hi.toInt - lo.toInt := by
    unfold smp at slo shi
    exact toInt_sub64 (by omega) (by omega)
  have a1 : (hi < lo) ↔ ¬ (lo.toInt ≤ hi.toInt) := by rw [Int64.lt_iff_toInt_lt]; omega
  have a2 : (hi - lo ≤ 6) ↔ (hi.toInt - lo.toInt ≤ 6) := by rw [Int64.le_iff_toInt_le, ed, show (6 : Int64).toInt = 6 from rfl]
  have a3 : ((0 : Int64) ≤ hi - lo ∧ hi - lo ≤ 6) ↔ (lo.toInt ≤ hi.toInt ∧ hi.toInt - lo.toInt ≤ 6) := by
    rw [a2, Int64.le_iff_toInt_le, ed, show (0 : Int64).toInt = 0 from rfl]; omega
  have b1 : (m < 1) ↔ ¬ (1 ≤ m.toInt) := by rw [Int64.lt_iff_toInt_lt, show (1 : Int64).toInt = 1 from rfl]; omega
  have b2 : (m ≤ 1000000000000000) ↔ (m.toInt ≤ 1000000000000000) := by rw [Int64.le_iff_toInt_le, show (1000000000000000 : Int64).toInt = 1000000000000000 from rfl]
  have b3 : ((1 : Int64) ≤ m ∧ m ≤ 1000000000000000) ↔ (1 ≤ m.toInt ∧ m.toInt ≤ 1000000000000000) := by
    rw [b2, Int64.le_iff_toInt_le, show (1 : Int64).toInt = 1 from rfl]
  have stC : m_Ob_reach 1 lo hi m (lay σ) = (if hi < lo then (rt (-2 : Int32)) else (if (hi - lo) ≤ (6 : Int64) then (if m < (1 : Int64) then (rt (-2 : Int32)) else (if m ≤ (1000000000000000 : Int64) then (bd (m_Ob_isReachable 1) (fun v3 => if v3 = 0 then (rt (-7 : Int32)) else (bd (gR 8 1 8) (fun v4 => bd (gR 8 1 7) (fun v5 => bd (m_Tw_becomeLike v4 v5) (fun _ => bd (gR 8 1 4) (fun v6 => bd (gR 8 1 8) (fun v7 => bd (m_Rc_findStands v6 v7 lo hi m) (fun v8 => rt v8))))))))) else (rt (-2 : Int32)))) else (rt (-2 : Int32))) : M Int32) (lay σ) := by
    unfold m_Ob_reach
    rw [ckd_lay (ci := 8) (o := 1) rfl (by decide), q_isSample, ap_ite, if_neg (by rw [bi_0]; exact fun q => q hlo), q_isSample, ap_ite, if_neg (by rw [bi_0]; exact fun q => q hhi)]
  by_cases hr : lo.toInt ≤ hi.toInt ∧ hi.toInt - lo.toInt ≤ 6
  case neg =>
    refine Duo.same h (-2) ?_ ?_
    · rw [stC, ap_ite]
      by_cases q1 : hi < lo
      · rw [if_pos q1, ap_rt]
      · rw [if_neg q1, ap_ite, if_neg (fun w => hr ⟨Classical.not_not.mp (fun z => q1 (a1.mpr z)), a2.mp w⟩), ap_rt]
    · unfold m_Md_reach
      rw [ckd_lay (ci := 9) (o := 81) rfl (by decide), q_isSampleM, ap_ite, if_neg (by rw [bi_0]; exact fun q => q hlo), q_isSampleM, ap_ite, if_neg (by rw [bi_0]; exact fun q => q hhi), q_in, ap_ite, if_pos (by rw [bi_0, a3]; exact hr), ap_rt]
  by_cases hm : 1 ≤ m.toInt ∧ m.toInt ≤ 1000000000000000
  case neg =>
    refine Duo.same h (-2) ?_ ?_
    · rw [stC, ap_ite, if_neg (fun w => a1.mp w hr.1), ap_ite, if_pos (a2.mpr hr.2), ap_ite]
      by_cases q1 : m < 1
      · rw [if_pos q1, ap_rt]
      · rw [if_neg q1, ap_ite, if_neg (fun w => hm ⟨Classical.not_not.mp (fun z => q1 (b1.mpr z)), b2.mp w⟩), ap_rt]
    · unfold m_Md_reach
      rw [ckd_lay (ci := 9) (o := 81) rfl (by decide), q_isSampleM, ap_ite, if_neg (by rw [bi_0]; exact fun q => q hlo), q_isSampleM, ap_ite, if_neg (by rw [bi_0]; exact fun q => q hhi), q_in, ap_ite, if_neg (by rw [bi_0, a3]; exact fun q => q hr), q_in, ap_ite, if_pos (by rw [bi_0, b3]; exact hm), ap_rt]
  obtain ⟨⟨P, fs, a, b, S, c, r, p, z⟩, rs⟩ := h.cut2
  obtain ⟨h1, h2, h5, h7, h9, h11, h15, hmm, hrr, l2⟩ := id c
  obtain ⟨p1, p2, p3, p4, p5, p6⟩ := id p
  have hF : FitP P := p1.1.1
  have hS5 := hF.1
  have stC2 : m_Ob_reach 1 lo hi m (lay σ) = (if bi (rchB P = true) = 0 then (rt (-7 : Int32)) else (bd (gR 8 1 8) (fun v4 => bd (gR 8 1 7) (fun v5 => bd (m_Tw_becomeLike v4 v5) (fun _ => bd (gR 8 1 4) (fun v6 => bd (gR 8 1 8) (fun v7 => bd (m_Rc_findStands v6 v7 lo hi m) (fun v8 => rt v8))))))) : M Int32) (lay σ) := by
    rw [stC, ap_ite, if_neg (fun w => a1.mp w hr.1), ap_ite, if_pos (a2.mpr hr.2), ap_ite, if_neg (fun w => b1.mp w hm.1), ap_ite, if_pos (b2.mpr hm.2), bd_eq (s_isReach h2 hF)]
  by_cases hR : rchB P = true
  case neg =>
    refine Duo.same h (-7) ?_ ?_
    · rw [stC2, ap_ite, if_pos (by rw [bi_0]; exact hR), ap_rt]
    · unfold m_Md_reach
      rw [ckd_lay (ci := 9) (o := 81) rfl (by decide), q_isSampleM, ap_ite, if_neg (by rw [bi_0]; exact fun q => q hlo), q_isSampleM, ap_ite, if_neg (by rw [bi_0]; exact fun q => q hhi), q_in, ap_ite, if_neg (by rw [bi_0, a3]; exact fun q => q hr), q_in, ap_ite, if_neg (by rw [bi_0, b3]; exact fun q => q hm), bd_eq (s_may r.1 hF), ap_ite, if_pos (by rw [bi_0]; exact hR), ap_rt]
  have hRP : ReachP P := rchB_iff.mp hR
  have hT := c.tw.2
  have h6 := hT.1
  have hlb := hT.2.2.2.2.2.2
  have hnow : σ.2.2.1 = a := by rw [h1.1]
  have hnext : σ.2.2.2 = b := by rw [h1.1]
  have hz := RunOk.z30 hF p4
  obtain ⟨τ1, e1, m1, n1, s1⟩ := s_becomeLike (σ := σ) hT c.tw.1 h11 (by rw [h9]; exact hz)
  rw [h9] at n1
  rw [h7] at s1
  have c1 : CShp τ1 P := h2.mod hT (m1.mono (by simp))
  have m1' : Mod [fa 29 5] τ1 (sI τ1 (fa 29 5) (fun _ => 0)) := Mod.I (by simp)
  obtain ⟨τ2, e2, m2, ok2⟩ := s_empty (σ := sI τ1 (fa 29 5) (fun _ => 0)) (wd P)
  have c2 : CShp τ2 P := (c1.mod2 m1' (by decide)).mod2 m2 (by decide)
  obtain ⟨v3, τ3, e3, m3, w3, k3, f3⟩ := s_find (σ := τ2) hT c2 hF ok2
  have m13 : Mod [fa 29 5, 25, fa 23 5, 26, fa 23 4, fa 23 3] τ1 τ3 := (m1'.mono (by decide)).tr ((m2.mono (by decide)).tr (m3.mono (by decide)))
  have c3 : CShp τ3 P := c1.mod2 m13 (by decide)
  have n2 : τ2.2.1 (b + 1) = S.2.1 := by rw [m2.l (by unfold fa; simp; omega)]; exact n1
  have s2 : τ2.2.1 (fa b 4) 0 = S.2.2.1 := by rw [m2.l (by unfold fa; simp; omega)]; exact s1
  rw [n2, s2] at k3
  have fr : Fresh τ3 (wd P) 0 := by
    rcases f3 with ⟨-, g⟩ | ⟨e, he, -⟩
    · exact g
    · exact absurd he (Nat.not_lt_zero e)
  have hw := wd_le hF
  obtain ⟨τ4, e4, m4, ok4, o4, k4⟩ := s_add (ok2.mod m3 (by decide)) fr hw w3 (by omega) (by omega)
  have m14 : Mod [fa 29 5, 24, 25, fa 23 5, 26, fa 23 4, fa 23 3] τ1 τ4 := (m13.mono (by decide)).tr (m4.mono (by decide))
  obtain ⟨Q, hQd⟩ : ∃ Q : RQ, Q = (1, (fun _ => S.2.1 0), (fun _ => if P.2.2.2.1 ≤ 1 then 0 else S.2.1 6), (fun _ => 0), (fun _ => 0)) := ⟨_, rfl⟩
  have agN : Ag 0 P.2.2.2.1 S.2.1 (stN S.2.1 (S.2.1 0) (if P.2.2.2.1 ≤ 1 then 0 else S.2.1 6)) := fun s _ hs => by
    have s01 : s = 0 ∨ s = 1 := by have := hRP.2.1; omega
    rw [stN_o (k := 6 * s + 1) (by omega) (by omega)]
    refine ⟨?_, rfl⟩
    rcases s01 with rfl | rfl
    · rw [show 6 * 0 = 0 from rfl, stN_0]
    · rw [show 6 * 1 = 6 from rfl, stN_6, if_neg (by omega)]
  have agM : Ag 0 P.2.2.2.1 (stN S.2.1 (S.2.1 0) (if P.2.2.2.1 ≤ 1 then 0 else S.2.1 6)) S.2.1 := fun s h1 h2 => ⟨(agN s h1 h2).1.symm, (agN s h1 h2).2.symm⟩
  have qi : QI P S.2.1 Q := by
    rw [hQd]
    exact ⟨Nat.le_refl _, by show 1 ≤ 500; omega, fun e he => NG.ag agM (RunOk.ng p4), fun h1 e he => by show (if P.2.2.2.1 ≤ 1 then (0 : Int64) else S.2.1 6) = 0; rw [if_pos h1], fun e h0 (he : e < 1) => by omega⟩
  have zb : Z30 (τ4.2.1 (b + 1)) := by rw [m14.l (by unfold fa; simp; omega), n1]; exact hz
  have cr : CR τ4 P b S.2.1 S.2.2.1 Q := by
    rw [hQd]
    refine ⟨ok4, by rw [m4.i (by decide)]; exact w3, fun e (he : e < 1) i hi => ?_, fun e h0 (he : e < 1) => by omega, zb, c1.mod2 m14 (by decide)⟩
    have : e = 0 := by omega
    subst this
    rw [k4 i hi, k3 i hi]
    exact std_ag hRP agN i hi
  have h50 : τ4.1 (fa 29 5) 0 = nI 0 := by
    rw [m4.i (by decide), m3.i (by decide), m2.i (by decide)]
    exact sI_row
  obtain ⟨D, hD⟩ : ∃ D : Nat, hi.toInt = lo.toInt + D := ⟨(hi.toInt - lo.toInt).toNat, by omega⟩
  obtain ⟨v, σ', w, ρ, y1, y2, y3, y4, y5, y6, y7⟩ := b_out (D := D) (sd := S.2.2.1) hT p1 hRP hm.1 slo shi hD (by omega) hz 500 0 FU Q τ4 (by omega) (by unfold FU; omega) qi cr h50
  have mC : Mod (kcL b) σ σ' := (m1.mono (by unfold kcL; simp)).tr ((m14.mono (by unfold kcL; simp)).tr y2)
  have cE : CI σ' P fs a b S := c.next2 mC (by rcases h1.2 with ⟨rfl, rfl⟩ | ⟨rfl, rfl⟩ <;> decide) y3
  have mP : Mdp (twL 75 ++ kcL 78) σ σ' := by
    rcases h1.2 with ⟨rfl, rfl⟩ | ⟨rfl, rfl⟩
    · exact (mC.mono (by decide)).p
    · exact (mC.mono (by decide)).p
  have r1 : RI σ' P fs S := r.mod mP (by decide)
  obtain ⟨g1, g2, g3, g4, g5, g6, g7, g8, g9⟩ := id r1
  obtain ⟨υ1, hυ1⟩ : ∃ υ1, υ1 = sI (sL (sL (sI (sI σ' (fa 81 35) (fun _ => 0)) (fa 81 30) (fun _ => 1)) 101 (va_up (σ'.2.1 101) 0 (S.2.1 0))) 102 (va_up (σ'.2.1 102) 0 (if P.2.2.2.1 ≤ 1 then 0 else S.2.1 6))) 103 (va_up (σ'.1 103) 0 (-1)) := ⟨_, rfl⟩
  have mu : Mod [fa 81 35, fa 81 30, 101, 102, 103] σ' υ1 := by rw [hυ1]; exact ((((Mod.I (by simp)).tr (Mod.I (by simp))).tr (Mod.L (by simp))).tr (Mod.L (by simp))).tr (Mod.I (by simp))
  have rr : RR υ1 P S.2.1 S.2.2.1 Q := by
    refine ⟨g1.mod2 mu (by decide), by rw [mu.l (by decide)]; exact g4, by rw [mu.l (by decide)]; exact g3, hz, by rw [mu.l (by decide)]; exact g5, ?_, ?_, ?_, ?_⟩
    · rw [hυ1, sI_ne (by decide), sL_1, sL_1, sI_row, hQd]
      rfl
    · rw [hQd, hυ1]
      intro e (he : e < 1)
      have : e = 0 := by omega
      subst this
      rw [sI_2, sL_ne (by decide), sL_same, up_same, sL_same, up_same]
      exact ⟨rfl, rfl⟩
    · rw [hυ1, sI_same, up_same]
    · rw [hQd]
      intro e h0 (he : e < 1)
      omega
  have h35 : υ1.1 (fa 81 35) 0 = nI 0 := by rw [hυ1, sI_ne (by decide), sL_1, sL_1, sI_ne (by decide)]; exact sI_row
  obtain ⟨υ, w1, w2, w4, w5, w6⟩ := y7 υ1 rr h35
  have mR : Mod krL σ' υ := (mu.mono (by decide)).tr w2
  have rE : RI υ P fs S := r1.trial2 mR (by decide) w4
  have rch : RReach υ := ⟨w, y4, by rw [mR.i (by decide)]; exact y5, w5, fun i hi => by rw [mR.l (by decide), y6 i hi, w6 i hi]⟩
  have mE : Mdp (twL 75 ++ (kcL 78 ++ krL)) σ υ := (mP.mono (by decide)).tr (mR.mono (by decide)).p
  refine ⟨v, σ', υ, ?_, ?_, Rel.mk2 (cE.mod mR (by decide)) rE p (z.mdp mE (by decide)) (rs.reach mE (by decide) rch)⟩
  · have hnext1 : τ1.2.2.2 = b := by rw [m1.2]; exact hnext
    have eg : m_Rc_findStands 29 b lo hi m (lay τ1) = some (v, lay σ') := by
      unfold m_Rc_findStands
      simp (disch := first | assumption | rfl | decide | omega) only [↓ckd_lay, ↓bd_gI, ↓bd_gL, ↓bd_pI, ↓bd_pL, ↓bd_pZ, ↓bd_now, ↓bd_next, ↓bd_ldR3, ↓bd_ldR4, ↓ap_ite, ↓ap_rt, ↓ap_lt, ↓rz_0, ↓rz_1, rz_bi, ↓gr_1_0, ↓gr_1_1, ↓gr_1_2, ↓gr_1_3, ↓gr_1_4, ↓gr_1_5, ↓gr_1_6, ↓gr_15_0, ↓gr_15_1, ↓gr_15_2, ↓gr_15_3, ↓gr_20_0, ↓gr_20_1, ↓gr_23_0, ↓gr_23_1, ↓gr_23_2, ↓gr_27_0, ↓gr_27_1, ↓gr_27_2, ↓gr_29_0, ↓gr_29_1, ↓gr_29_2, ↓gr_29_3, ↓gr_29_4, ↓gr_33_0, ↓gr_33_1, ↓gr_now, ↓gr_next]
      rw [bd_eq e2, gr_29_1, bd_eq e3, gr_29_1, bd_eq e4]
      exact y1
    rw [stC2, ap_ite, if_neg (by rw [bi_0]; exact fun q => q hR)]
    simp (disch := first | assumption | rfl | decide | omega) only [↓ckd_lay, ↓bd_gI, ↓bd_gL, ↓bd_pI, ↓bd_pL, ↓bd_pZ, ↓bd_now, ↓bd_next, ↓bd_ldR3, ↓bd_ldR4, ↓ap_ite, ↓ap_rt, ↓ap_lt, ↓rz_0, ↓rz_1, rz_bi, ↓gr_1_0, ↓gr_1_1, ↓gr_1_2, ↓gr_1_3, ↓gr_1_4, ↓gr_1_5, ↓gr_1_6, ↓gr_15_0, ↓gr_15_1, ↓gr_15_2, ↓gr_15_3, ↓gr_20_0, ↓gr_20_1, ↓gr_23_0, ↓gr_23_1, ↓gr_23_2, ↓gr_27_0, ↓gr_27_1, ↓gr_27_2, ↓gr_29_0, ↓gr_29_1, ↓gr_29_2, ↓gr_29_3, ↓gr_29_4, ↓gr_33_0, ↓gr_33_1, ↓gr_now, ↓gr_next, hnow, hnext]
    rw [bd_eq e1]
    simp (disch := first | assumption | rfl | decide | omega) only [↓ckd_lay, ↓bd_gI, ↓bd_gL, ↓bd_pI, ↓bd_pL, ↓bd_pZ, ↓bd_now, ↓bd_next, ↓bd_ldR3, ↓bd_ldR4, ↓ap_ite, ↓ap_rt, ↓ap_lt, ↓rz_0, ↓rz_1, rz_bi, ↓gr_1_0, ↓gr_1_1, ↓gr_1_2, ↓gr_1_3, ↓gr_1_4, ↓gr_1_5, ↓gr_1_6, ↓gr_15_0, ↓gr_15_1, ↓gr_15_2, ↓gr_15_3, ↓gr_20_0, ↓gr_20_1, ↓gr_23_0, ↓gr_23_1, ↓gr_23_2, ↓gr_27_0, ↓gr_27_1, ↓gr_27_2, ↓gr_29_0, ↓gr_29_1, ↓gr_29_2, ↓gr_29_3, ↓gr_29_4, ↓gr_33_0, ↓gr_33_1, ↓gr_now, ↓gr_next, hnext1]
    rw [bd_eq eg, ap_rt]
  · unfold m_Md_reach
    rw [ckd_lay (ci := 9) (o := 81) rfl (by decide), q_isSampleM, ap_ite, if_neg (by rw [bi_0]; exact fun q => q hlo), q_isSampleM, ap_ite, if_neg (by rw [bi_0]; exact fun q => q hhi), q_in, ap_ite, if_neg (by rw [bi_0, a3]; exact fun q => q hr), q_in, ap_ite, if_neg (by rw [bi_0, b3]; exact fun q => q hm), bd_eq (s_may g1 hF), ap_ite, if_neg (by rw [bi_0]; exact fun q => q hR)]
    have l0 : (0 : Int32) = nI 0 := rfl
    have l6 : (6 : Int32) = nI 6 := rfl
    by_cases q : P.2.2.2.1 ≤ 1
    · rw [if_pos q] at hυ1
      simp (disch := first | assumption | rfl | decide | omega) only [↓ckd_lay, ↓bd_gI, ↓bd_gL, ↓bd_pI, ↓bd_pL, ↓bd_pZ, ↓bd_now, ↓bd_next, ↓bd_ldR3, ↓bd_ldR4, ↓ap_ite, ↓ap_rt, ↓ap_lt, ↓rz_0, ↓rz_1, rz_bi, ↓gr_81_0, ↓gr_81_1, ↓gr_81_2, ↓gr_81_3, ↓gr_81_4, ↓gr_81_7, ↓gr_81_8, ↓gr_81_9, ↓gr_81_11, ↓gr_81_14, ↓gr_81_17, ↓gr_81_18, ↓gr_81_20, ↓gr_81_21, ↓gr_81_25, ↓gr_81_26, ↓gr_81_27, ↓gr_81_28, ↓gr_81_29, ↓gr_81_31, ↓gr_81_32, ↓gr_81_33, ↓gr_81_34, ↓gr_81_36, ↓gr_81_39, sI_2, sL_1, sI_ne, g1.2.2.2.1, nl_1, q, if_true, l0, ↓la_91, ↓st_91, ↓la_101, ↓st_101, ↓la_102, ↓st_102, ↓la_103, ↓st_103, g4, sL_ne]
      rw [← l0, ← hυ1]
      exact w1
    · rw [if_neg q] at hυ1
      simp (disch := first | assumption | rfl | decide | omega) only [↓ckd_lay, ↓bd_gI, ↓bd_gL, ↓bd_pI, ↓bd_pL, ↓bd_pZ, ↓bd_now, ↓bd_next, ↓bd_ldR3, ↓bd_ldR4, ↓ap_ite, ↓ap_rt, ↓ap_lt, ↓rz_0, ↓rz_1, rz_bi, ↓gr_81_0, ↓gr_81_1, ↓gr_81_2, ↓gr_81_3, ↓gr_81_4, ↓gr_81_7, ↓gr_81_8, ↓gr_81_9, ↓gr_81_11, ↓gr_81_14, ↓gr_81_17, ↓gr_81_18, ↓gr_81_20, ↓gr_81_21, ↓gr_81_25, ↓gr_81_26, ↓gr_81_27, ↓gr_81_28, ↓gr_81_29, ↓gr_81_31, ↓gr_81_32, ↓gr_81_33, ↓gr_81_34, ↓gr_81_36, ↓gr_81_39, sI_2, sL_1, sI_ne, g1.2.2.2.1, nl_1, q, if_false, l0, l6, ↓la_91, ↓st_91, ↓la_101, ↓st_101, ↓la_102, ↓st_102, ↓la_103, ↓st_103, g4, sL_ne]
      rw [← l0, ← hυ1]
      exact w1
