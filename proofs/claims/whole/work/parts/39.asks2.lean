/-! More asks: held, worstAt, count, weight, record, forge, lot. -/
theorem swt_n {α : Type} {j : Nat} {ks : List (M α)} {kd k : M α} (hj : j < 2 ^ 31) (hk : ks[j]? = some k) : swt (nI j).toInt 0 ks kd = k := swt_i j (by rw [nI_toInt hj]; omega) hk
theorem swt_b {α : Type} {i : Int32} {n : Nat} {ks : List (M α)} {kd : M α} (hn : n < 2 ^ 31) (hl : ks.length = n) (h : ¬ (0 ≤ i ∧ i < nI n)) : swt i.toInt 0 ks kd = kd := by
  refine swt_o ?_
  simp only [Int32.le_iff_toInt_le, Int32.lt_iff_toInt_lt, show (0 : Int32).toInt = 0 from rfl, nI_toInt hn] at h
  rw [hl]
  omega
theorem d_held {σ : SS} {i : Int32} (h : Rel σ) : Duo (m_Ob_held 1 i) (m_Md_held 81 i) σ := by
  obtain ⟨-, -, -, -, ⟨h1, h2, h3⟩, -⟩ := id h
  by_cases hi : 0 ≤ i ∧ i < nI 3
  · obtain ⟨j, hj, rfl⟩ := nI_ex (by omega) hi.1 hi.2
    refine Duo.same h (σ.2.1 100 j) ?_ ?_
    · unfold m_Ob_held
      rw [ckd_lay (ci := 8) (o := 1) rfl (by decide)]
      match j, hj with
      | 0, _ => rw [swt_n (by decide) rfl]; simp (disch := first | assumption | rfl | decide | omega) only [↓ckd_lay, ↓bd_gI, ↓bd_gL, ↓bd_pI, ↓bd_pL, ↓bd_pZ, ↓bd_now, ↓bd_next, ↓bd_ldR3, ↓bd_ldR4, ↓ap_ite, ↓ap_rt, ↓ap_lt, ↓rz_0, ↓rz_1, rz_bi, ↓gr_1_0, ↓gr_1_1, ↓gr_1_2, ↓gr_1_3, ↓gr_1_4, ↓gr_1_5, ↓gr_1_6, ↓gr_15_0, ↓gr_15_1, ↓gr_15_2, ↓gr_15_3, ↓gr_20_0, ↓gr_20_1, ↓gr_23_0, ↓gr_23_1, ↓gr_23_2, ↓gr_27_0, ↓gr_27_1, ↓gr_27_2, ↓gr_29_0, ↓gr_29_1, ↓gr_29_2, ↓gr_29_3, ↓gr_29_4, ↓gr_33_0, ↓gr_33_1, ↓gr_now, ↓gr_next, h1]
      | 1, _ => rw [swt_n (by decide) rfl]; simp (disch := first | assumption | rfl | decide | omega) only [↓ckd_lay, ↓bd_gI, ↓bd_gL, ↓bd_pI, ↓bd_pL, ↓bd_pZ, ↓bd_now, ↓bd_next, ↓bd_ldR3, ↓bd_ldR4, ↓ap_ite, ↓ap_rt, ↓ap_lt, ↓rz_0, ↓rz_1, rz_bi, ↓gr_1_0, ↓gr_1_1, ↓gr_1_2, ↓gr_1_3, ↓gr_1_4, ↓gr_1_5, ↓gr_1_6, ↓gr_15_0, ↓gr_15_1, ↓gr_15_2, ↓gr_15_3, ↓gr_20_0, ↓gr_20_1, ↓gr_23_0, ↓gr_23_1, ↓gr_23_2, ↓gr_27_0, ↓gr_27_1, ↓gr_27_2, ↓gr_29_0, ↓gr_29_1, ↓gr_29_2, ↓gr_29_3, ↓gr_29_4, ↓gr_33_0, ↓gr_33_1, ↓gr_now, ↓gr_next, h2]
      | 2, _ => rw [swt_n (by decide) rfl]; simp (disch := first | assumption | rfl | decide | omega) only [↓ckd_lay, ↓bd_gI, ↓bd_gL, ↓bd_pI, ↓bd_pL, ↓bd_pZ, ↓bd_now, ↓bd_next, ↓bd_ldR3, ↓bd_ldR4, ↓ap_ite, ↓ap_rt, ↓ap_lt, ↓rz_0, ↓rz_1, rz_bi, ↓gr_1_0, ↓gr_1_1, ↓gr_1_2, ↓gr_1_3, ↓gr_1_4, ↓gr_1_5, ↓gr_1_6, ↓gr_15_0, ↓gr_15_1, ↓gr_15_2, ↓gr_15_3, ↓gr_20_0, ↓gr_20_1, ↓gr_23_0, ↓gr_23_1, ↓gr_23_2, ↓gr_27_0, ↓gr_27_1, ↓gr_27_2, ↓gr_29_0, ↓gr_29_1, ↓gr_29_2, ↓gr_29_3, ↓gr_29_4, ↓gr_33_0, ↓gr_33_1, ↓gr_now, ↓gr_next, h3]
    · unfold m_Md_held
      simp (disch := first | assumption | rfl | decide | omega) only [↓ckd_lay, ↓bd_gI, ↓bd_gL, ↓bd_pI, ↓bd_pL, ↓bd_pZ, ↓bd_now, ↓bd_next, ↓bd_ldR3, ↓bd_ldR4, ↓ap_ite, ↓ap_rt, ↓ap_lt, ↓rz_0, ↓rz_1, rz_bi, ↓gr_81_0, ↓gr_81_1, ↓gr_81_2, ↓gr_81_3, ↓gr_81_4, ↓gr_81_7, ↓gr_81_8, ↓gr_81_9, ↓gr_81_11, ↓gr_81_14, ↓gr_81_17, ↓gr_81_18, ↓gr_81_20, ↓gr_81_21, ↓gr_81_25, ↓gr_81_26, ↓gr_81_27, ↓gr_81_28, ↓gr_81_29, ↓gr_81_31, ↓gr_81_32, ↓gr_81_33, ↓gr_81_34, ↓gr_81_36, ↓gr_81_39, ↓q_inC 3, bi_0, hi, and_self, not_true_eq_false, if_false, ↓la_100, ↓st_100]
  · refine Duo.same h (-9223372036854775808) ?_ ?_
    · unfold m_Ob_held
      rw [ckd_lay (ci := 8) (o := 1) rfl (by decide), swt_b (n := 3) (by decide) rfl hi, ap_rt]
    · unfold m_Md_held
      simp (disch := first | assumption | rfl | decide | omega) only [↓ckd_lay, ↓bd_gI, ↓bd_gL, ↓bd_pI, ↓bd_pL, ↓bd_pZ, ↓bd_now, ↓bd_next, ↓bd_ldR3, ↓bd_ldR4, ↓ap_ite, ↓ap_rt, ↓ap_lt, ↓rz_0, ↓rz_1, rz_bi, ↓gr_81_0, ↓gr_81_1, ↓gr_81_2, ↓gr_81_3, ↓gr_81_4, ↓gr_81_7, ↓gr_81_8, ↓gr_81_9, ↓gr_81_11, ↓gr_81_14, ↓gr_81_17, ↓gr_81_18, ↓gr_81_20, ↓gr_81_21, ↓gr_81_25, ↓gr_81_26, ↓gr_81_27, ↓gr_81_28, ↓gr_81_29, ↓gr_81_31, ↓gr_81_32, ↓gr_81_33, ↓gr_81_34, ↓gr_81_36, ↓gr_81_39, ↓q_inC 3, bi_0, hi, not_false_eq_true, if_true]
theorem d_count {σ : SS} {i : Int32} (h : Rel σ) : Duo (m_Ob_count 1 i) (m_Md_count 81 i) σ := by
  obtain ⟨⟨P, a, b, T, N, sd, fs, hC, ⟨l, hl, m1, m2⟩⟩, -, hF, -, -, -, hW⟩ := id h
  have hT : IsTw a := hC.tw.1
  have h6 := hT.1
  have hnow : σ.2.2.1 = a := by rw [hC.1.1]
  obtain ⟨-, ⟨c1, c2, -⟩, -, -, -, ⟨-, t1, t2⟩, -⟩ := hC
  by_cases hi : 0 ≤ i ∧ i < nI 6
  · obtain ⟨j, hj, rfl⟩ := nI_ex (by omega) hi.1 hi.2
    unfold m_Ob_count m_Md_count
    have hF' : σ.1 (fa 1 9) 0 = σ.1 (fa 81 5) 0 := hF
    have hW' := hW.1
    match j, hj with
    | 0, _ => exact Duo.same h (nI P.2.2.2.1) (by rw [ckd_lay (ci := 8) (o := 1) rfl (by decide), swt_n (by decide) rfl]; simp (disch := first | assumption | rfl | decide | omega) only [↓ckd_lay, ↓bd_gI, ↓bd_gL, ↓bd_pI, ↓bd_pL, ↓bd_pZ, ↓bd_now, ↓bd_next, ↓bd_ldR3, ↓bd_ldR4, ↓ap_ite, ↓ap_rt, ↓ap_lt, ↓rz_0, ↓rz_1, rz_bi, ↓gr_1_0, ↓gr_1_1, ↓gr_1_2, ↓gr_1_3, ↓gr_1_4, ↓gr_1_5, ↓gr_1_6, ↓gr_15_0, ↓gr_15_1, ↓gr_15_2, ↓gr_15_3, ↓gr_20_0, ↓gr_20_1, ↓gr_23_0, ↓gr_23_1, ↓gr_23_2, ↓gr_27_0, ↓gr_27_1, ↓gr_27_2, ↓gr_29_0, ↓gr_29_1, ↓gr_29_2, ↓gr_29_3, ↓gr_29_4, ↓gr_33_0, ↓gr_33_1, ↓gr_now, ↓gr_next, c1.2.2.2.1]) (by rw [ckd_lay (ci := 9) (o := 81) rfl (by decide), swt_n (by decide) rfl]; simp (disch := first | assumption | rfl | decide | omega) only [↓ckd_lay, ↓bd_gI, ↓bd_gL, ↓bd_pI, ↓bd_pL, ↓bd_pZ, ↓bd_now, ↓bd_next, ↓bd_ldR3, ↓bd_ldR4, ↓ap_ite, ↓ap_rt, ↓ap_lt, ↓rz_0, ↓rz_1, rz_bi, c2.2.2.2.1])
    | 1, _ => exact Duo.same h (nI P.2.2.2.2.2.1) (by rw [ckd_lay (ci := 8) (o := 1) rfl (by decide), swt_n (by decide) rfl]; simp (disch := first | assumption | rfl | decide | omega) only [↓ckd_lay, ↓bd_gI, ↓bd_gL, ↓bd_pI, ↓bd_pL, ↓bd_pZ, ↓bd_now, ↓bd_next, ↓bd_ldR3, ↓bd_ldR4, ↓ap_ite, ↓ap_rt, ↓ap_lt, ↓rz_0, ↓rz_1, rz_bi, ↓gr_1_0, ↓gr_1_1, ↓gr_1_2, ↓gr_1_3, ↓gr_1_4, ↓gr_1_5, ↓gr_1_6, ↓gr_15_0, ↓gr_15_1, ↓gr_15_2, ↓gr_15_3, ↓gr_20_0, ↓gr_20_1, ↓gr_23_0, ↓gr_23_1, ↓gr_23_2, ↓gr_27_0, ↓gr_27_1, ↓gr_27_2, ↓gr_29_0, ↓gr_29_1, ↓gr_29_2, ↓gr_29_3, ↓gr_29_4, ↓gr_33_0, ↓gr_33_1, ↓gr_now, ↓gr_next, c1.2.2.2.2.2.1]) (by rw [ckd_lay (ci := 9) (o := 81) rfl (by decide), swt_n (by decide) rfl]; simp (disch := first | assumption | rfl | decide | omega) only [↓ckd_lay, ↓bd_gI, ↓bd_gL, ↓bd_pI, ↓bd_pL, ↓bd_pZ, ↓bd_now, ↓bd_next, ↓bd_ldR3, ↓bd_ldR4, ↓ap_ite, ↓ap_rt, ↓ap_lt, ↓rz_0, ↓rz_1, rz_bi, c2.2.2.2.2.2.1])
    | 2, _ => exact Duo.same h (nI T) (by rw [ckd_lay (ci := 8) (o := 1) rfl (by decide), swt_n (by decide) rfl]; simp (disch := first | assumption | rfl | decide | omega) only [↓ckd_lay, ↓bd_gI, ↓bd_gL, ↓bd_pI, ↓bd_pL, ↓bd_pZ, ↓bd_now, ↓bd_next, ↓bd_ldR3, ↓bd_ldR4, ↓ap_ite, ↓ap_rt, ↓ap_lt, ↓rz_0, ↓rz_1, rz_bi, ↓gr_1_0, ↓gr_1_1, ↓gr_1_2, ↓gr_1_3, ↓gr_1_4, ↓gr_1_5, ↓gr_1_6, ↓gr_15_0, ↓gr_15_1, ↓gr_15_2, ↓gr_15_3, ↓gr_20_0, ↓gr_20_1, ↓gr_23_0, ↓gr_23_1, ↓gr_23_2, ↓gr_27_0, ↓gr_27_1, ↓gr_27_2, ↓gr_29_0, ↓gr_29_1, ↓gr_29_2, ↓gr_29_3, ↓gr_29_4, ↓gr_33_0, ↓gr_33_1, ↓gr_now, ↓gr_next, t1]) (by rw [ckd_lay (ci := 9) (o := 81) rfl (by decide), swt_n (by decide) rfl]; simp (disch := first | assumption | rfl | decide | omega) only [↓ckd_lay, ↓bd_gI, ↓bd_gL, ↓bd_pI, ↓bd_pL, ↓bd_pZ, ↓bd_now, ↓bd_next, ↓bd_ldR3, ↓bd_ldR4, ↓ap_ite, ↓ap_rt, ↓ap_lt, ↓rz_0, ↓rz_1, rz_bi, t2])
    | 3, _ => exact Duo.same h (nI l.length) (by rw [ckd_lay (ci := 8) (o := 1) rfl (by decide), swt_n (by decide) rfl]; simp (disch := first | assumption | rfl | decide | omega) only [↓ckd_lay, ↓bd_gI, ↓bd_gL, ↓bd_pI, ↓bd_pL, ↓bd_pZ, ↓bd_now, ↓bd_next, ↓bd_ldR3, ↓bd_ldR4, ↓ap_ite, ↓ap_rt, ↓ap_lt, ↓rz_0, ↓rz_1, rz_bi, ↓gr_1_0, ↓gr_1_1, ↓gr_1_2, ↓gr_1_3, ↓gr_1_4, ↓gr_1_5, ↓gr_1_6, ↓gr_15_0, ↓gr_15_1, ↓gr_15_2, ↓gr_15_3, ↓gr_20_0, ↓gr_20_1, ↓gr_23_0, ↓gr_23_1, ↓gr_23_2, ↓gr_27_0, ↓gr_27_1, ↓gr_27_2, ↓gr_29_0, ↓gr_29_1, ↓gr_29_2, ↓gr_29_3, ↓gr_29_4, ↓gr_33_0, ↓gr_33_1, ↓gr_now, ↓gr_next, hnow, m1.1]) (by rw [ckd_lay (ci := 9) (o := 81) rfl (by decide), swt_n (by decide) rfl]; simp (disch := first | assumption | rfl | decide | omega) only [↓ckd_lay, ↓bd_gI, ↓bd_gL, ↓bd_pI, ↓bd_pL, ↓bd_pZ, ↓bd_now, ↓bd_next, ↓bd_ldR3, ↓bd_ldR4, ↓ap_ite, ↓ap_rt, ↓ap_lt, ↓rz_0, ↓rz_1, rz_bi, m2.1])
    | 4, _ => exact Duo.same h (σ.1 (fa 81 5) 0) (by rw [ckd_lay (ci := 8) (o := 1) rfl (by decide), swt_n (by decide) rfl]; simp (disch := first | assumption | rfl | decide | omega) only [↓ckd_lay, ↓bd_gI, ↓bd_gL, ↓bd_pI, ↓bd_pL, ↓bd_pZ, ↓bd_now, ↓bd_next, ↓bd_ldR3, ↓bd_ldR4, ↓ap_ite, ↓ap_rt, ↓ap_lt, ↓rz_0, ↓rz_1, rz_bi, ↓gr_1_0, ↓gr_1_1, ↓gr_1_2, ↓gr_1_3, ↓gr_1_4, ↓gr_1_5, ↓gr_1_6, ↓gr_15_0, ↓gr_15_1, ↓gr_15_2, ↓gr_15_3, ↓gr_20_0, ↓gr_20_1, ↓gr_23_0, ↓gr_23_1, ↓gr_23_2, ↓gr_27_0, ↓gr_27_1, ↓gr_27_2, ↓gr_29_0, ↓gr_29_1, ↓gr_29_2, ↓gr_29_3, ↓gr_29_4, ↓gr_33_0, ↓gr_33_1, ↓gr_now, ↓gr_next, hF']) (by rw [ckd_lay (ci := 9) (o := 81) rfl (by decide), swt_n (by decide) rfl]; simp (disch := first | assumption | rfl | decide | omega) only [↓ckd_lay, ↓bd_gI, ↓bd_gL, ↓bd_pI, ↓bd_pL, ↓bd_pZ, ↓bd_now, ↓bd_next, ↓bd_ldR3, ↓bd_ldR4, ↓ap_ite, ↓ap_rt, ↓ap_lt, ↓rz_0, ↓rz_1, rz_bi])
    | 5, _ => exact Duo.same h (σ.1 (fa 81 37) 0) (by rw [ckd_lay (ci := 8) (o := 1) rfl (by decide), swt_n (by decide) rfl]; simp (disch := first | assumption | rfl | decide | omega) only [↓ckd_lay, ↓bd_gI, ↓bd_gL, ↓bd_pI, ↓bd_pL, ↓bd_pZ, ↓bd_now, ↓bd_next, ↓bd_ldR3, ↓bd_ldR4, ↓ap_ite, ↓ap_rt, ↓ap_lt, ↓rz_0, ↓rz_1, rz_bi, ↓gr_1_0, ↓gr_1_1, ↓gr_1_2, ↓gr_1_3, ↓gr_1_4, ↓gr_1_5, ↓gr_1_6, ↓gr_15_0, ↓gr_15_1, ↓gr_15_2, ↓gr_15_3, ↓gr_20_0, ↓gr_20_1, ↓gr_23_0, ↓gr_23_1, ↓gr_23_2, ↓gr_27_0, ↓gr_27_1, ↓gr_27_2, ↓gr_29_0, ↓gr_29_1, ↓gr_29_2, ↓gr_29_3, ↓gr_29_4, ↓gr_33_0, ↓gr_33_1, ↓gr_now, ↓gr_next, hW']) (by rw [ckd_lay (ci := 9) (o := 81) rfl (by decide), swt_n (by decide) rfl]; simp (disch := first | assumption | rfl | decide | omega) only [↓ckd_lay, ↓bd_gI, ↓bd_gL, ↓bd_pI, ↓bd_pL, ↓bd_pZ, ↓bd_now, ↓bd_next, ↓bd_ldR3, ↓bd_ldR4, ↓ap_ite, ↓ap_rt, ↓ap_lt, ↓rz_0, ↓rz_1, rz_bi])
  · refine Duo.same h (-2) ?_ ?_
    · unfold m_Ob_count
      rw [ckd_lay (ci := 8) (o := 1) rfl (by decide), swt_b (n := 6) (by decide) rfl hi, ap_rt]
    · unfold m_Md_count
      rw [ckd_lay (ci := 9) (o := 81) rfl (by decide), swt_b (n := 6) (by decide) rfl hi, ap_rt]
theorem s_isOne {rr i n : Nat} {σ : SS} (hr : rr < 4096) (hi : i < n) (hn : n ≤ 12) : m_Ws_isOne (nI rr) (nI i) (nI n) (lay σ) = some (bi (wbit rr n i = true), lay σ) := by
  unfold m_Ws_isOne wbit
  have e1 : (nI n - 1) - nI i = nI (n - 1 - i) := by rw [ns_1 _ (by omega), pk_sub (by omega)]
  have hb := nx_bit (k := rr) (j := n - 1 - i) (by omega) (by omega)
  have hu := nx_ush (k := rr) (j := n - 1 - i) (by omega) (by omega)
  rw [e1]
  rw [hu] at hb ⊢
  have hz : nI (rr >>> (n - 1 - i)) &&& 1 = nI (rr >>> (n - 1 - i) % 2) := by
    rw [lit_1, nx_and, Nat.and_one_is_mod]
  rw [hz] at hb ⊢
  have hlt : rr >>> (n - 1 - i) % 2 < 2 := Nat.mod_lt _ (by decide)
  rw [show ((0 : Int32)) = nI 0 from rfl, nI_eq (by omega) (by omega)] at hb
  simp only [ap_ite, rz_0, rz_1]
  rw [← bi_ite]
  by_cases hq : rr.testBit (n - 1 - i) = true
  · have : ¬ (rr >>> (n - 1 - i) % 2 = 0) := fun z => by rw [hb.mp z] at hq; cases hq
    rw [if_pos hq, if_pos (by rw [lit_1, nI_eq (by omega) (by omega)]; omega)]
  · have h0 : rr >>> (n - 1 - i) % 2 = 0 := hb.mpr (by simpa using hq)
    rw [if_neg hq, h0, if_neg (by decide)]
theorem d_worstAt {σ : SS} {i : Int32} (h : Rel σ) : Duo (m_Ob_worstAt 1 i) (m_Md_worstAt 81 i) σ := by
  obtain ⟨-, -, -, -, -, -, -, n, rr, hn, hr, w1, w2, w3, w4⟩ := id h
  by_cases hi : 0 ≤ i ∧ i < nI n
  · obtain ⟨j, hj, rfl⟩ := nI_ex (by omega) hi.1 hi.2
    refine Duo.same h (σ.2.1 106 j) ?_ ?_
    · unfold m_Ob_worstAt m_Ws_sampleOf
      rw [ckd_lay (ci := 8) (o := 1) rfl (by decide), gr_1_5]
      have e : m_Ws_sampleOf 33 (nI j) (lay σ) = some (σ.2.1 106 j, lay σ) := by
        unfold m_Ws_sampleOf
        simp (disch := first | assumption | rfl | decide | omega) only [↓ckd_lay, ↓bd_gI, ↓bd_gL, ↓bd_pI, ↓bd_pL, ↓bd_pZ, ↓bd_now, ↓bd_next, ↓bd_ldR3, ↓bd_ldR4, ↓ap_ite, ↓ap_rt, ↓ap_lt, ↓rz_0, ↓rz_1, rz_bi, w1, ite_in2, hi, and_self, if_true, w3]
        rw [bd_eq (s_isOne hr hj hn), w4 j hj]
        simp (disch := first | assumption | rfl | decide | omega) only [↓ckd_lay, ↓bd_gI, ↓bd_gL, ↓bd_pI, ↓bd_pL, ↓bd_pZ, ↓bd_now, ↓bd_next, ↓bd_ldR3, ↓bd_ldR4, ↓ap_ite, ↓ap_rt, ↓ap_lt, ↓rz_0, ↓rz_1, rz_bi, bi_0]
        by_cases hb : wbit rr n j = true
        · simp [hb, nI_pos (show j < 2 ^ 31 by omega)]
        · simp [hb, nI_pos (show j < 2 ^ 31 by omega)]
      unfold m_Ws_sampleOf at e
      rw [bd_eq e, ap_rt]
    · unfold m_Md_worstAt
      simp (disch := first | assumption | rfl | decide | omega) only [↓ckd_lay, ↓bd_gI, ↓bd_gL, ↓bd_pI, ↓bd_pL, ↓bd_pZ, ↓bd_now, ↓bd_next, ↓bd_ldR3, ↓bd_ldR4, ↓ap_ite, ↓ap_rt, ↓ap_lt, ↓rz_0, ↓rz_1, rz_bi, ↓gr_81_0, ↓gr_81_1, ↓gr_81_2, ↓gr_81_3, ↓gr_81_4, ↓gr_81_7, ↓gr_81_8, ↓gr_81_9, ↓gr_81_11, ↓gr_81_14, ↓gr_81_17, ↓gr_81_18, ↓gr_81_20, ↓gr_81_21, ↓gr_81_25, ↓gr_81_26, ↓gr_81_27, ↓gr_81_28, ↓gr_81_29, ↓gr_81_31, ↓gr_81_32, ↓gr_81_33, ↓gr_81_34, ↓gr_81_36, ↓gr_81_39, w2, ↓q_inN, bi_0, hi, and_self, not_true_eq_false, if_false, ↓la_106, ↓st_106]
  · refine Duo.same h 0 ?_ ?_
    · unfold m_Ob_worstAt m_Ws_sampleOf
      rw [ckd_lay (ci := 8) (o := 1) rfl (by decide), gr_1_5]
      have e : m_Ws_sampleOf 33 i (lay σ) = some (0, lay σ) := by
        unfold m_Ws_sampleOf
        simp (disch := first | assumption | rfl | decide | omega) only [↓ckd_lay, ↓bd_gI, ↓bd_gL, ↓bd_pI, ↓bd_pL, ↓bd_pZ, ↓bd_now, ↓bd_next, ↓bd_ldR3, ↓bd_ldR4, ↓ap_ite, ↓ap_rt, ↓ap_lt, ↓rz_0, ↓rz_1, rz_bi, w1, ite_in2, hi, if_false]
      unfold m_Ws_sampleOf at e
      rw [bd_eq e, ap_rt]
    · unfold m_Md_worstAt
      simp (disch := first | assumption | rfl | decide | omega) only [↓ckd_lay, ↓bd_gI, ↓bd_gL, ↓bd_pI, ↓bd_pL, ↓bd_pZ, ↓bd_now, ↓bd_next, ↓bd_ldR3, ↓bd_ldR4, ↓ap_ite, ↓ap_rt, ↓ap_lt, ↓rz_0, ↓rz_1, rz_bi, ↓gr_81_0, ↓gr_81_1, ↓gr_81_2, ↓gr_81_3, ↓gr_81_4, ↓gr_81_7, ↓gr_81_8, ↓gr_81_9, ↓gr_81_11, ↓gr_81_14, ↓gr_81_17, ↓gr_81_18, ↓gr_81_20, ↓gr_81_21, ↓gr_81_25, ↓gr_81_26, ↓gr_81_27, ↓gr_81_28, ↓gr_81_29, ↓gr_81_31, ↓gr_81_32, ↓gr_81_33, ↓gr_81_34, ↓gr_81_36, ↓gr_81_39, w2, ↓q_inN, bi_0, hi, not_false_eq_true, if_true]
theorem d_weight {σ : SS} {i w : Int32} (h : Rel σ) : Duo (m_Ob_weight 1 i w) (m_Md_weight 81 i w) σ := by
  have hW : σ.1 74 = σ.1 97 := h.2.2.2.1
  by_cases hi : 0 ≤ i ∧ i < nI 8
  · obtain ⟨j, hj, rfl⟩ := nI_ex (by omega) hi.1 hi.2
    have h8 : nI j < 8 := hi.2
    have hp : ¬ nI j < 0 := nI_pos (by omega)
    refine ⟨σ.1 97 j, sI σ 74 (va_up (σ.1 74) j w), sI (sI σ 74 (va_up (σ.1 74) j w)) 97 (va_up (σ.1 97) j w), ?_, ?_, ?_⟩
    · unfold m_Ob_weight
      simp (disch := first | assumption | rfl | decide | omega) only [↓ckd_lay, ↓bd_gI, ↓bd_gL, ↓bd_pI, ↓bd_pL, ↓bd_pZ, ↓bd_now, ↓bd_next, ↓bd_ldR3, ↓bd_ldR4, ↓ap_ite, ↓ap_rt, ↓ap_lt, ↓rz_0, ↓rz_1, rz_bi, ↓gr_1_0, ↓gr_1_1, ↓gr_1_2, ↓gr_1_3, ↓gr_1_4, ↓gr_1_5, ↓gr_1_6, ↓gr_15_0, ↓gr_15_1, ↓gr_15_2, ↓gr_15_3, ↓gr_20_0, ↓gr_20_1, ↓gr_23_0, ↓gr_23_1, ↓gr_23_2, ↓gr_27_0, ↓gr_27_1, ↓gr_27_2, ↓gr_29_0, ↓gr_29_1, ↓gr_29_2, ↓gr_29_3, ↓gr_29_4, ↓gr_33_0, ↓gr_33_1, ↓gr_now, ↓gr_next, ↓la_74, ↓st_74, hp, h8, if_true, if_false, hW]
    · unfold m_Md_weight
      simp (disch := first | assumption | rfl | decide | omega) only [↓ckd_lay, ↓bd_gI, ↓bd_gL, ↓bd_pI, ↓bd_pL, ↓bd_pZ, ↓bd_now, ↓bd_next, ↓bd_ldR3, ↓bd_ldR4, ↓ap_ite, ↓ap_rt, ↓ap_lt, ↓rz_0, ↓rz_1, rz_bi, ↓gr_81_0, ↓gr_81_1, ↓gr_81_2, ↓gr_81_3, ↓gr_81_4, ↓gr_81_7, ↓gr_81_8, ↓gr_81_9, ↓gr_81_11, ↓gr_81_14, ↓gr_81_17, ↓gr_81_18, ↓gr_81_20, ↓gr_81_21, ↓gr_81_25, ↓gr_81_26, ↓gr_81_27, ↓gr_81_28, ↓gr_81_29, ↓gr_81_31, ↓gr_81_32, ↓gr_81_33, ↓gr_81_34, ↓gr_81_36, ↓gr_81_39, ↓q_inC 8, bi_0, hi, and_self, not_true_eq_false, if_false, ↓la_97, ↓st_97, sI_ne]
    · obtain ⟨⟨P, a, b, T, N, sd, fs, hC, hTr⟩, r1, r2, r3, r4, r5, r6⟩ := h
      have hM : Mod [74, 97] σ (sI (sI σ 74 (va_up (σ.1 74) j w)) 97 (va_up (σ.1 97) j w)) := (Mod.I (by simp)).tr (Mod.I (by simp))
      refine ⟨⟨P, a, b, T, N, sd, fs, hC.mod hM (by decide), hTr.mod (hC.1.2.elim (fun q => Or.inl q.1) (fun q => Or.inr q.1)) hM (by decide)⟩, r1.mod hM (by decide), r2.mod hM (by decide), ?_, r4.mod hM (by decide), r5.mod hM (by decide), r6.mod hM (by decide)⟩
      show _ = _
      rw [sI_same, sI_ne (by decide), sI_same, hW]
  · have e : ∀ {A B : Option (Int32 × AH)}, (if i < 0 then A else if i < 8 then B else A) = if 0 ≤ i ∧ i < nI 8 then B else A := fun {A B} => ite_in2 (n := 8)
    refine Duo.same h (-2147483648) ?_ ?_
    · unfold m_Ob_weight
      simp (disch := first | assumption | rfl | decide | omega) only [↓ckd_lay, ap_ite, e, hi, if_false, ap_rt]
    · unfold m_Md_weight
      simp (disch := first | assumption | rfl | decide | omega) only [↓ckd_lay, ↓bd_gI, ↓bd_gL, ↓bd_pI, ↓bd_pL, ↓bd_pZ, ↓bd_now, ↓bd_next, ↓bd_ldR3, ↓bd_ldR4, ↓ap_ite, ↓ap_rt, ↓ap_lt, ↓rz_0, ↓rz_1, rz_bi, ↓gr_81_0, ↓gr_81_1, ↓gr_81_2, ↓gr_81_3, ↓gr_81_4, ↓gr_81_7, ↓gr_81_8, ↓gr_81_9, ↓gr_81_11, ↓gr_81_14, ↓gr_81_17, ↓gr_81_18, ↓gr_81_20, ↓gr_81_21, ↓gr_81_25, ↓gr_81_26, ↓gr_81_27, ↓gr_81_28, ↓gr_81_29, ↓gr_81_31, ↓gr_81_32, ↓gr_81_33, ↓gr_81_34, ↓gr_81_36, ↓gr_81_39, ↓q_inC 8, bi_0, hi, not_false_eq_true, if_true]
theorem s_isRecorded {i k : Int32} {σ : SS} {T S : Nat} (hT : σ.1 (fa 20 2) 0 = nI T) (hS : σ.1 (fa 15 4) 0 = nI S) (hS5 : S ≤ 5) : m_Ob_isRecorded 1 i k (lay σ) = some (bi ((0 ≤ i ∧ i < nI T) ∧ (0 ≤ k ∧ k < nI (2 + S))), lay σ) := by
  unfold m_Ob_isRecorded
  simp (disch := first | assumption | rfl | decide | omega) only [↓ckd_lay, ↓bd_gI, ↓bd_gL, ↓bd_pI, ↓bd_pL, ↓bd_pZ, ↓bd_now, ↓bd_next, ↓bd_ldR3, ↓bd_ldR4, ↓ap_ite, ↓ap_rt, ↓ap_lt, ↓rz_0, ↓rz_1, rz_bi, ↓gr_1_0, ↓gr_1_1, ↓gr_1_2, ↓gr_1_3, ↓gr_1_4, ↓gr_1_5, ↓gr_1_6, ↓gr_15_0, ↓gr_15_1, ↓gr_15_2, ↓gr_15_3, ↓gr_20_0, ↓gr_20_1, ↓gr_23_0, ↓gr_23_1, ↓gr_23_2, ↓gr_27_0, ↓gr_27_1, ↓gr_27_2, ↓gr_29_0, ↓gr_29_1, ↓gr_29_2, ↓gr_29_3, ↓gr_29_4, ↓gr_33_0, ↓gr_33_1, ↓gr_now, ↓gr_next]
  rw [bd_eq (s_hasStep hT)]
  simp (disch := first | assumption | rfl | decide | omega) only [↓ckd_lay, ↓bd_gI, ↓bd_gL, ↓bd_pI, ↓bd_pL, ↓bd_pZ, ↓bd_now, ↓bd_next, ↓bd_ldR3, ↓bd_ldR4, ↓ap_ite, ↓ap_rt, ↓ap_lt, ↓rz_0, ↓rz_1, rz_bi, ↓gr_1_0, ↓gr_1_1, ↓gr_1_2, ↓gr_1_3, ↓gr_1_4, ↓gr_1_5, ↓gr_1_6, ↓gr_15_0, ↓gr_15_1, ↓gr_15_2, ↓gr_15_3, ↓gr_20_0, ↓gr_20_1, ↓gr_23_0, ↓gr_23_1, ↓gr_23_2, ↓gr_27_0, ↓gr_27_1, ↓gr_27_2, ↓gr_29_0, ↓gr_29_1, ↓gr_29_2, ↓gr_29_3, ↓gr_29_4, ↓gr_33_0, ↓gr_33_1, ↓gr_now, ↓gr_next, hS, na_0, na_1, na_2, na_3, na_4, na_5, na_6, na_7, na_8, na_10, na_11, na_12, na_13, na_15, na_16, na_30, na_60, na_300, an_0, an_1, an_2, an_3, an_4, an_5, an_6, an_7, an_8, an_10, an_11, an_12, an_13, an_15, an_16, an_30, an_60, an_300, nm_0, nm_1, nm_2, nm_3, nm_4, nm_5, nm_6, nm_7, nm_8, nm_10, nm_11, nm_12, nm_13, nm_15, nm_16, nm_30, nm_60, nm_300, mn_0, mn_1, mn_2, mn_3, mn_4, mn_5, mn_6, mn_7, mn_8, mn_10, mn_11, mn_12, mn_13, mn_15, mn_16, mn_30, mn_60, mn_300, nI_add, pk_mul, bi_0, ite_in, bi_ite]
  by_cases h : 0 ≤ i ∧ i < nI T
  · simp [h]
  · simp [h, bi]
theorem s_isRecord {i k : Int32} {σ : SS} {T S : Nat} (hT : σ.1 (fa 81 16) 0 = nI T) (hS : σ.1 (fa 81 6) 0 = nI S) (hT3 : T ≤ 300) (hS5 : S ≤ 5) : m_Md_isRecord 81 i k (lay σ) = some (bi ((0 ≤ i ∧ i < nI T) ∧ (0 ≤ k ∧ k < nI (2 + S))), lay σ) := by
  unfold m_Md_isRecord
  have hc : ((1 : Int32) + nI S).toInt64.toInt = ((2 + S : Nat) : Int) - 1 := by
    rw [an_1, Int32.toInt_toInt64, nI_toInt (by omega)]
    omega
  simp (disch := first | assumption | rfl | decide | omega) only [↓ckd_lay, ↓bd_gI, ↓bd_gL, ↓bd_pI, ↓bd_pL, ↓bd_pZ, ↓bd_now, ↓bd_next, ↓bd_ldR3, ↓bd_ldR4, ↓ap_ite, ↓ap_rt, ↓ap_lt, ↓rz_0, ↓rz_1, rz_bi, ↓gr_81_0, ↓gr_81_1, ↓gr_81_2, ↓gr_81_3, ↓gr_81_4, ↓gr_81_7, ↓gr_81_8, ↓gr_81_9, ↓gr_81_11, ↓gr_81_14, ↓gr_81_17, ↓gr_81_18, ↓gr_81_20, ↓gr_81_21, ↓gr_81_25, ↓gr_81_26, ↓gr_81_27, ↓gr_81_28, ↓gr_81_29, ↓gr_81_31, ↓gr_81_32, ↓gr_81_33, ↓gr_81_34, ↓gr_81_36, ↓gr_81_39, hT, hS, ↓q_inN]
  rw [q_inC (2 + S) (by omega) hc]
  by_cases h : 0 ≤ i ∧ i < nI T
  · rw [if_neg (by rw [bi_0]; exact fun q => q h), ap_ite]
    by_cases hk : 0 ≤ k ∧ k < nI (2 + S)
    · rw [if_neg (by rw [bi_0]; exact fun q => q hk), rz_1]
      simp [bi, h, hk]
    · rw [if_pos (by rw [bi_0]; exact hk), rz_0]
      simp [bi, h, hk]
  · rw [if_pos (by rw [bi_0]; exact h)]
    simp [bi, h]
theorem d_record {σ : SS} {i k : Int32} (h : Rel σ) : Duo (m_Ob_record 1 i k) (m_Md_record 81 i k) σ := by
  obtain ⟨⟨P, a, b, T, N, sd, fs, hC, -⟩, -⟩ := id h
  obtain ⟨-, ⟨c1, c2, ⟨⟨⟨hS5, -⟩, -⟩, -⟩⟩, -, -, -, ⟨hT3, t1, t2⟩, -, -, hr⟩ := hC
  have e1 := s_isRecorded (i := i) (k := k) t1 c1.2.2.2.1 hS5
  have e2 := s_isRecord (i := i) (k := k) t2 c2.2.2.2.1 hT3 hS5
  by_cases hi : (0 ≤ i ∧ i < nI T) ∧ (0 ≤ k ∧ k < nI (2 + P.2.2.2.1))
  · obtain ⟨j, hj, rfl⟩ := nI_ex (by omega) hi.1.1 hi.1.2
    obtain ⟨w, hw, rfl⟩ := nI_ex (by omega) hi.2.1 hi.2.2
    refine Duo.same h (σ.2.1 93 (7 * j + w)) ?_ ?_
    · unfold m_Ob_record
      rw [ckd_lay (ci := 8) (o := 1) rfl (by decide), bd_eq e1]
      simp (disch := first | assumption | rfl | decide | omega) only [↓ckd_lay, ↓bd_gI, ↓bd_gL, ↓bd_pI, ↓bd_pL, ↓bd_pZ, ↓bd_now, ↓bd_next, ↓bd_ldR3, ↓bd_ldR4, ↓ap_ite, ↓ap_rt, ↓ap_lt, ↓rz_0, ↓rz_1, rz_bi, ↓gr_1_0, ↓gr_1_1, ↓gr_1_2, ↓gr_1_3, ↓gr_1_4, ↓gr_1_5, ↓gr_1_6, ↓gr_15_0, ↓gr_15_1, ↓gr_15_2, ↓gr_15_3, ↓gr_20_0, ↓gr_20_1, ↓gr_23_0, ↓gr_23_1, ↓gr_23_2, ↓gr_27_0, ↓gr_27_1, ↓gr_27_2, ↓gr_29_0, ↓gr_29_1, ↓gr_29_2, ↓gr_29_3, ↓gr_29_4, ↓gr_33_0, ↓gr_33_1, ↓gr_now, ↓gr_next, bi_0, hi, and_self, not_true_eq_false, if_false, na_0, na_1, na_2, na_3, na_4, na_5, na_6, na_7, na_8, na_10, na_11, na_12, na_13, na_15, na_16, na_30, na_60, na_300, an_0, an_1, an_2, an_3, an_4, an_5, an_6, an_7, an_8, an_10, an_11, an_12, an_13, an_15, an_16, an_30, an_60, an_300, nm_0, nm_1, nm_2, nm_3, nm_4, nm_5, nm_6, nm_7, nm_8, nm_10, nm_11, nm_12, nm_13, nm_15, nm_16, nm_30, nm_60, nm_300, mn_0, mn_1, mn_2, mn_3, mn_4, mn_5, mn_6, mn_7, mn_8, mn_10, mn_11, mn_12, mn_13, mn_15, mn_16, mn_30, mn_60, mn_300, nI_add, pk_mul, ↓la_21, ↓st_21, Nat.mul_comm j 7, (hr j hj).2 w hw]
    · unfold m_Md_record
      rw [ckd_lay (ci := 9) (o := 81) rfl (by decide), bd_eq e2]
      simp (disch := first | assumption | rfl | decide | omega) only [↓ckd_lay, ↓bd_gI, ↓bd_gL, ↓bd_pI, ↓bd_pL, ↓bd_pZ, ↓bd_now, ↓bd_next, ↓bd_ldR3, ↓bd_ldR4, ↓ap_ite, ↓ap_rt, ↓ap_lt, ↓rz_0, ↓rz_1, rz_bi, ↓gr_81_0, ↓gr_81_1, ↓gr_81_2, ↓gr_81_3, ↓gr_81_4, ↓gr_81_7, ↓gr_81_8, ↓gr_81_9, ↓gr_81_11, ↓gr_81_14, ↓gr_81_17, ↓gr_81_18, ↓gr_81_20, ↓gr_81_21, ↓gr_81_25, ↓gr_81_26, ↓gr_81_27, ↓gr_81_28, ↓gr_81_29, ↓gr_81_31, ↓gr_81_32, ↓gr_81_33, ↓gr_81_34, ↓gr_81_36, ↓gr_81_39, bi_0, hi, and_self, not_true_eq_false, if_false, na_0, na_1, na_2, na_3, na_4, na_5, na_6, na_7, na_8, na_10, na_11, na_12, na_13, na_15, na_16, na_30, na_60, na_300, an_0, an_1, an_2, an_3, an_4, an_5, an_6, an_7, an_8, an_10, an_11, an_12, an_13, an_15, an_16, an_30, an_60, an_300, nm_0, nm_1, nm_2, nm_3, nm_4, nm_5, nm_6, nm_7, nm_8, nm_10, nm_11, nm_12, nm_13, nm_15, nm_16, nm_30, nm_60, nm_300, mn_0, mn_1, mn_2, mn_3, mn_4, mn_5, mn_6, mn_7, mn_8, mn_10, mn_11, mn_12, mn_13, mn_15, mn_16, mn_30, mn_60, mn_300, nI_add, pk_mul, ↓la_93, ↓st_93]
  · refine Duo.same h (-9223372036854775808) ?_ ?_
    · unfold m_Ob_record
      rw [ckd_lay (ci := 8) (o := 1) rfl (by decide), bd_eq e1]
      simp (disch := first | assumption | rfl | decide | omega) only [↓ckd_lay, ↓bd_gI, ↓bd_gL, ↓bd_pI, ↓bd_pL, ↓bd_pZ, ↓bd_now, ↓bd_next, ↓bd_ldR3, ↓bd_ldR4, ↓ap_ite, ↓ap_rt, ↓ap_lt, ↓rz_0, ↓rz_1, rz_bi, bi_0, hi, not_false_eq_true, if_true]
    · unfold m_Md_record
      rw [ckd_lay (ci := 9) (o := 81) rfl (by decide), bd_eq e2]
      simp (disch := first | assumption | rfl | decide | omega) only [↓ckd_lay, ↓bd_gI, ↓bd_gL, ↓bd_pI, ↓bd_pL, ↓bd_pZ, ↓bd_now, ↓bd_next, ↓bd_ldR3, ↓bd_ldR4, ↓ap_ite, ↓ap_rt, ↓ap_lt, ↓rz_0, ↓rz_1, rz_bi, bi_0, hi, not_false_eq_true, if_true]
theorem smp_le (u : Int64) : ((-1000000000000 : Int64) ≤ u ∧ u ≤ 1000000000000) ↔ smp u := by
  unfold smp
  simp only [Int64.le_iff_toInt_le, show (-1000000000000 : Int64).toInt = -1000000000000 from rfl, show (1000000000000 : Int64).toInt = 1000000000000 from rfl]
theorem smp_decide (u : Int64) : smp u ∨ ¬ smp u := Classical.em _
def smpB (u : Int64) : Bool := decide ((-1000000000000 : Int64) ≤ u ∧ u ≤ 1000000000000)
theorem smpB_iff (u : Int64) : smpB u = true ↔ smp u := by unfold smpB; rw [decide_eq_true_eq]; exact smp_le u
theorem s_isSample {u : Int64} {σ : SS} : m_Ob_isSample u (lay σ) = some (bi (smpB u = true), lay σ) := by
  unfold m_Ob_isSample smpB
  simp only [ap_ite, rz_0, rz_1, decide_eq_true_eq]
  rw [← bi_ite]
  simp only [Int64.lt_iff_toInt_lt, Int64.le_iff_toInt_le]
  repeat' split
  all_goals first | rfl | (exfalso; omega)
theorem s_isSampleM {u : Int64} {σ : SS} : m_Md_isSample u (lay σ) = some (bi (smpB u = true), lay σ) := by
  unfold m_Md_isSample smpB
  rw [q_in, rz_bi]
  congr 2
  exact bi_congr (by rw [decide_eq_true_eq])
theorem q_isSample {α : Type} {u : Int64} {σ : SS} {f : Int32 → M α} : bd (m_Ob_isSample u) f (lay σ) = f (bi (smpB u = true)) (lay σ) := bd_eq s_isSample
theorem q_isSampleM {α : Type} {u : Int64} {σ : SS} {f : Int32 → M α} : bd (m_Md_isSample u) f (lay σ) = f (bi (smpB u = true)) (lay σ) := bd_eq s_isSampleM
theorem d_forge {σ : SS} {i k : Int32} {v : Int64} (h : Rel σ) : Duo (m_Ob_forge 1 i k v) (m_Md_forge 81 i k v) σ := by
  obtain ⟨⟨P, a, b, T, N, sd, fs, hC, hTr⟩, r1, r2, r3, r4, r5, r6⟩ := id h
  obtain ⟨hab, ⟨c1, c2, ⟨⟨⟨hS5, hf1⟩, hf2⟩, hf3⟩⟩, g3, g4, g5, ⟨hT3, t1, t2⟩, g7, g8, hr⟩ := id hC
  have e1 := s_isRecorded (i := i) (k := k) t1 c1.2.2.2.1 hS5
  have e2 := s_isRecord (i := i) (k := k) t2 c2.2.2.2.1 hT3 hS5
  by_cases hi : (0 ≤ i ∧ i < nI T) ∧ (0 ≤ k ∧ k < nI (2 + P.2.2.2.1))
  · obtain ⟨j, hj, rfl⟩ := nI_ex (by omega) hi.1.1 hi.1.2
    obtain ⟨w, hw, rfl⟩ := nI_ex (by omega) hi.2.1 hi.2.2
    by_cases hv : w = 0 ∧ ¬ smpB v = true
    · obtain ⟨rfl, hv⟩ := hv
      refine Duo.same h (-2) ?_ ?_
      · unfold m_Ob_forge
        rw [ckd_lay (ci := 8) (o := 1) rfl (by decide), bd_eq e1, ap_ite, if_neg (by rw [bi_0]; exact fun q => q hi), ap_ite, if_pos (by rfl), q_isSample, ap_ite, if_pos (by rw [bi_0]; exact hv), ap_rt]
      · unfold m_Md_forge
        rw [ckd_lay (ci := 9) (o := 81) rfl (by decide), bd_eq e2, ap_ite, if_neg (by rw [bi_0]; exact fun q => q hi), ap_ite, if_pos (by rfl), q_isSampleM, ap_ite, if_pos (by rw [bi_0]; exact hv), ap_rt]
    · have f1 : m_Ob_forge_23 1 (nI j) (nI w) v (lay σ) = some (1, lay (sL σ 21 (va_up (σ.2.1 21) (7 * j + w) v))) := by
        unfold m_Ob_forge_23
        simp (disch := first | assumption | rfl | decide | omega) only [↓ckd_lay, ↓bd_gI, ↓bd_gL, ↓bd_pI, ↓bd_pL, ↓bd_pZ, ↓bd_now, ↓bd_next, ↓bd_ldR3, ↓bd_ldR4, ↓ap_ite, ↓ap_rt, ↓ap_lt, ↓rz_0, ↓rz_1, rz_bi, ↓gr_1_0, ↓gr_1_1, ↓gr_1_2, ↓gr_1_3, ↓gr_1_4, ↓gr_1_5, ↓gr_1_6, ↓gr_15_0, ↓gr_15_1, ↓gr_15_2, ↓gr_15_3, ↓gr_20_0, ↓gr_20_1, ↓gr_23_0, ↓gr_23_1, ↓gr_23_2, ↓gr_27_0, ↓gr_27_1, ↓gr_27_2, ↓gr_29_0, ↓gr_29_1, ↓gr_29_2, ↓gr_29_3, ↓gr_29_4, ↓gr_33_0, ↓gr_33_1, ↓gr_now, ↓gr_next, na_0, na_1, na_2, na_3, na_4, na_5, na_6, na_7, na_8, na_10, na_11, na_12, na_13, na_15, na_16, na_30, na_60, na_300, an_0, an_1, an_2, an_3, an_4, an_5, an_6, an_7, an_8, an_10, an_11, an_12, an_13, an_15, an_16, an_30, an_60, an_300, nm_0, nm_1, nm_2, nm_3, nm_4, nm_5, nm_6, nm_7, nm_8, nm_10, nm_11, nm_12, nm_13, nm_15, nm_16, nm_30, nm_60, nm_300, mn_0, mn_1, mn_2, mn_3, mn_4, mn_5, mn_6, mn_7, mn_8, mn_10, mn_11, mn_12, mn_13, mn_15, mn_16, mn_30, mn_60, mn_300, nI_add, pk_mul, ↓la_21, ↓st_21, Nat.mul_comm j 7]
      have f2 : m_Md_forge_23 81 (nI j) (nI w) v (lay (sL σ 21 (va_up (σ.2.1 21) (7 * j + w) v))) = some (1, lay (sL (sL σ 21 (va_up (σ.2.1 21) (7 * j + w) v)) 93 (va_up (σ.2.1 93) (7 * j + w) v))) := by
        unfold m_Md_forge_23
        simp (disch := first | assumption | rfl | decide | omega) only [↓ckd_lay, ↓bd_gI, ↓bd_gL, ↓bd_pI, ↓bd_pL, ↓bd_pZ, ↓bd_now, ↓bd_next, ↓bd_ldR3, ↓bd_ldR4, ↓ap_ite, ↓ap_rt, ↓ap_lt, ↓rz_0, ↓rz_1, rz_bi, ↓gr_81_0, ↓gr_81_1, ↓gr_81_2, ↓gr_81_3, ↓gr_81_4, ↓gr_81_7, ↓gr_81_8, ↓gr_81_9, ↓gr_81_11, ↓gr_81_14, ↓gr_81_17, ↓gr_81_18, ↓gr_81_20, ↓gr_81_21, ↓gr_81_25, ↓gr_81_26, ↓gr_81_27, ↓gr_81_28, ↓gr_81_29, ↓gr_81_31, ↓gr_81_32, ↓gr_81_33, ↓gr_81_34, ↓gr_81_36, ↓gr_81_39, na_0, na_1, na_2, na_3, na_4, na_5, na_6, na_7, na_8, na_10, na_11, na_12, na_13, na_15, na_16, na_30, na_60, na_300, an_0, an_1, an_2, an_3, an_4, an_5, an_6, an_7, an_8, an_10, an_11, an_12, an_13, an_15, an_16, an_30, an_60, an_300, nm_0, nm_1, nm_2, nm_3, nm_4, nm_5, nm_6, nm_7, nm_8, nm_10, nm_11, nm_12, nm_13, nm_15, nm_16, nm_30, nm_60, nm_300, mn_0, mn_1, mn_2, mn_3, mn_4, mn_5, mn_6, mn_7, mn_8, mn_10, mn_11, mn_12, mn_13, mn_15, mn_16, mn_30, mn_60, mn_300, nI_add, pk_mul, ↓la_93, ↓st_93, sL_ne]
      refine ⟨1, sL σ 21 (va_up (σ.2.1 21) (7 * j + w) v), sL (sL σ 21 (va_up (σ.2.1 21) (7 * j + w) v)) 93 (va_up (σ.2.1 93) (7 * j + w) v), ?_, ?_, ?_⟩
      · unfold m_Ob_forge
        rw [ckd_lay (ci := 8) (o := 1) rfl (by decide), bd_eq e1]
        simp (disch := first | assumption | rfl | decide | omega) only [↓ckd_lay, ↓bd_gI, ↓bd_gL, ↓bd_pI, ↓bd_pL, ↓bd_pZ, ↓bd_now, ↓bd_next, ↓bd_ldR3, ↓bd_ldR4, ↓ap_ite, ↓ap_rt, ↓ap_lt, ↓rz_0, ↓rz_1, rz_bi, bi_0, hi, and_self, not_true_eq_false, if_false, ln_0, ln_1, ln_2, ln_3, ln_4, ln_5, ln_6, ln_7, ln_8, ln_10, ln_11, ln_12, ln_13, ln_15, ln_16, ln_30, ln_60, ln_256, ln_300, ln_400, ln_500, ln_1023, ln_1024, nl_0, nl_1, nl_2, nl_3, nl_4, nl_5, nl_6, nl_7, nl_8, nl_10, nl_11, nl_12, nl_13, nl_15, nl_16, nl_30, nl_60, nl_256, nl_300, nl_400, nl_500, nl_1023, nl_1024, tn_0, tn_1, tn_2, tn_3, tn_4, tn_5, tn_6, tn_7, tn_8, tn_10, tn_11, tn_12, tn_13, tn_15, tn_16, tn_30, tn_60, tn_256, tn_300, tn_400, tn_500, tn_1023, tn_1024, nt_0, nt_1, nt_2, nt_3, nt_4, nt_5, nt_6, nt_7, nt_8, nt_10, nt_11, nt_12, nt_13, nt_15, nt_16, nt_30, nt_60, nt_256, nt_300, nt_400, nt_500, nt_1023, nt_1024, ne_0, ne_1, ne_2, ne_3, ne_4, ne_5, ne_6, ne_7, ne_8, ne_10, ne_11, ne_12, ne_13, ne_15, ne_16, ne_30, ne_60, ne_256, ne_300, ne_400, ne_500, ne_1023, ne_1024, le_nn, lt_nn, eq_nn, ↓q_isSample, f1]
        by_cases hw0 : w = 0
        · have hs : smpB v = true := by by_cases q : smpB v = true <;> simp_all
          simp [hw0, hs]
        · simp [hw0]
      · unfold m_Md_forge
        have e2' := s_isRecord (i := nI j) (k := nI w) (σ := sL σ 21 (va_up (σ.2.1 21) (7 * j + w) v)) t2 c2.2.2.2.1 hT3 hS5
        rw [ckd_lay (ci := 9) (o := 81) rfl (by decide), bd_eq e2']
        simp (disch := first | assumption | rfl | decide | omega) only [↓ckd_lay, ↓bd_gI, ↓bd_gL, ↓bd_pI, ↓bd_pL, ↓bd_pZ, ↓bd_now, ↓bd_next, ↓bd_ldR3, ↓bd_ldR4, ↓ap_ite, ↓ap_rt, ↓ap_lt, ↓rz_0, ↓rz_1, rz_bi, bi_0, hi, and_self, not_true_eq_false, if_false, ln_0, ln_1, ln_2, ln_3, ln_4, ln_5, ln_6, ln_7, ln_8, ln_10, ln_11, ln_12, ln_13, ln_15, ln_16, ln_30, ln_60, ln_256, ln_300, ln_400, ln_500, ln_1023, ln_1024, nl_0, nl_1, nl_2, nl_3, nl_4, nl_5, nl_6, nl_7, nl_8, nl_10, nl_11, nl_12, nl_13, nl_15, nl_16, nl_30, nl_60, nl_256, nl_300, nl_400, nl_500, nl_1023, nl_1024, tn_0, tn_1, tn_2, tn_3, tn_4, tn_5, tn_6, tn_7, tn_8, tn_10, tn_11, tn_12, tn_13, tn_15, tn_16, tn_30, tn_60, tn_256, tn_300, tn_400, tn_500, tn_1023, tn_1024, nt_0, nt_1, nt_2, nt_3, nt_4, nt_5, nt_6, nt_7, nt_8, nt_10, nt_11, nt_12, nt_13, nt_15, nt_16, nt_30, nt_60, nt_256, nt_300, nt_400, nt_500, nt_1023, nt_1024, ne_0, ne_1, ne_2, ne_3, ne_4, ne_5, ne_6, ne_7, ne_8, ne_10, ne_11, ne_12, ne_13, ne_15, ne_16, ne_30, ne_60, ne_256, ne_300, ne_400, ne_500, ne_1023, ne_1024, le_nn, lt_nn, eq_nn, ↓q_isSampleM, f2]
        by_cases hw0 : w = 0
        · have hs : smpB v = true := by by_cases q : smpB v = true <;> simp_all
          simp [hw0, hs]
        · simp [hw0]
      · have hM : Mod [21, 93] σ (sL (sL σ 21 (va_up (σ.2.1 21) (7 * j + w) v)) 93 (va_up (σ.2.1 93) (7 * j + w) v)) := (Mod.L (by simp)).tr (Mod.L (by simp))
        refine ⟨⟨P, a, b, T, N, sd, fs, ?_, hTr.mod (hab.2.elim (fun q => Or.inl q.1) (fun q => Or.inr q.1)) hM (by decide)⟩, r1.mod hM (by decide), r2.mod hM (by decide), r3.mod hM (by decide), r4.mod hM (by decide), r5.mod hM (by decide), r6.mod hM (by decide)⟩
        have hrow : ∀ t, t < T → smp (va_up (σ.2.1 93) (7 * j + w) v (7 * t)) ∧ ∀ w', w' < 2 + P.2.2.2.1 → va_up (σ.2.1 21) (7 * j + w) v (7 * t + w') = va_up (σ.2.1 93) (7 * j + w) v (7 * t + w') := by
          intro t ht
          refine ⟨?_, fun w' hw' => ?_⟩
          · by_cases q : 7 * t = 7 * j + w
            · rw [q, up_same]
              have : w = 0 := by omega
              refine (smpB_iff v).mp ?_
              by_cases q : smpB v = true <;> simp_all
            · rw [up_ne q]; exact (hr t ht).1
          · by_cases q : 7 * t + w' = 7 * j + w
            · rw [q, up_same, up_same]
            · rw [up_ne q, up_ne q]; exact (hr t ht).2 w' hw'
        have g9 : CRec (sL (sL σ 21 (va_up (σ.2.1 21) (7 * j + w) v)) 93 (va_up (σ.2.1 93) (7 * j + w) v)) P T := by
          unfold CRec
          rw [sL_same, sL_ne (by decide), sL_same]
          exact hrow
        rcases hab with ⟨hab1, ⟨rfl, rfl⟩ | ⟨rfl, rfl⟩⟩
        · exact ⟨⟨hab1, Or.inl ⟨rfl, rfl⟩⟩, ⟨c1.mod2 hM (by decide), c2.mod2 hM (by decide), ⟨⟨⟨hS5, hf1⟩, hf2⟩, hf3⟩⟩, CSd.mod g3 hM (by decide), CN.mod g4 hM (by decide), CZ.mod g5 hM (by decide), CT.mod ⟨hT3, t1, t2⟩ hM (by decide), CMd.mod g7 hM (by decide), g8.mod hM (by decide), g9⟩
        · exact ⟨⟨hab1, Or.inr ⟨rfl, rfl⟩⟩, ⟨c1.mod2 hM (by decide), c2.mod2 hM (by decide), ⟨⟨⟨hS5, hf1⟩, hf2⟩, hf3⟩⟩, CSd.mod g3 hM (by decide), CN.mod g4 hM (by decide), CZ.mod g5 hM (by decide), CT.mod ⟨hT3, t1, t2⟩ hM (by decide), CMd.mod g7 hM (by decide), g8.mod hM (by decide), g9⟩
  · refine Duo.same h (-2) ?_ ?_
    · unfold m_Ob_forge
      rw [ckd_lay (ci := 8) (o := 1) rfl (by decide), bd_eq e1]
      simp (disch := first | assumption | rfl | decide | omega) only [↓ckd_lay, ↓bd_gI, ↓bd_gL, ↓bd_pI, ↓bd_pL, ↓bd_pZ, ↓bd_now, ↓bd_next, ↓bd_ldR3, ↓bd_ldR4, ↓ap_ite, ↓ap_rt, ↓ap_lt, ↓rz_0, ↓rz_1, rz_bi, bi_0, hi, not_false_eq_true, if_true]
    · unfold m_Md_forge
      rw [ckd_lay (ci := 9) (o := 81) rfl (by decide), bd_eq e2]
      simp (disch := first | assumption | rfl | decide | omega) only [↓ckd_lay, ↓bd_gI, ↓bd_gL, ↓bd_pI, ↓bd_pL, ↓bd_pZ, ↓bd_now, ↓bd_next, ↓bd_ldR3, ↓bd_ldR4, ↓ap_ite, ↓ap_rt, ↓ap_lt, ↓rz_0, ↓rz_1, rz_bi, bi_0, hi, not_false_eq_true, if_true]
