/-! copy. -/
theorem s_hasRow {σ : SS} {j z : Nat} {x y : Int32} (hj : j < 6) (hz : z ≤ 60) (h3 : σ.1 (fa (3 + 2 * j) 3) 0 = nI z) : m_Rl_hasRow (3 + 2 * j) x y (lay σ) = some (bi (0 ≤ x.toInt ∧ 0 ≤ y.toInt ∧ x.toInt + y.toInt ≤ z), lay σ) := by
  unfold m_Rl_hasRow
  have hk := (kd_rl j hj).1
  have a1 : ∀ w : Int32, (w < 0) ↔ ¬ 0 ≤ w.toInt := fun w => by rw [Int32.lt_iff_toInt_lt, show (0 : Int32).toInt = 0 from rfl]; omega
  have a2 : (nI z < x) ↔ ¬ x.toInt ≤ z := by rw [Int32.lt_iff_toInt_lt, nI_toInt (by omega)]; omega
  rw [ckd_lay hk (by decide)]
  simp (disch := first | assumption | rfl | decide | omega) only [↓ckd_lay, ↓bd_gI, ↓bd_gL, ↓bd_pI, ↓bd_pL, ↓bd_pZ, ↓bd_now, ↓bd_next, ↓bd_ldR3, ↓bd_ldR4, ↓ap_ite, ↓ap_rt, ↓ap_lt, ↓rz_0, ↓rz_1, rz_bi, ↓rgI hj, h3]
  rw [← bi_ite]
  by_cases q1 : 0 ≤ x.toInt
  · rw [if_neg (fun w => (a1 x).mp w q1)]
    by_cases q2 : 0 ≤ y.toInt
    · rw [if_neg (fun w => (a1 y).mp w q2)]
      by_cases q3 : x.toInt ≤ z
      · rw [if_neg (fun w => a2.mp w q3)]
        have es : (nI z - x).toInt = z - x.toInt := by
          rw [Int32.toInt_sub, nI_toInt (by omega), Int.bmod_eq_of_le] <;> omega
        by_cases q4 : x.toInt + y.toInt ≤ z
        · rw [if_neg (by rw [Int32.lt_iff_toInt_lt, es]; omega), if_pos ⟨q1, q2, q4⟩]
        · rw [if_pos (by rw [Int32.lt_iff_toInt_lt, es]; omega), if_neg (fun w => q4 w.2.2)]
      · rw [if_pos (a2.mpr q3), if_neg (fun w => q3 (by omega))]
    · rw [if_pos ((a1 y).mpr q2), if_neg (fun w => q2 w.2.1)]
  · rw [if_pos ((a1 x).mpr q1), if_neg (fun w => q1 w.1)]
theorem Rel.reel2 {σ υ : SS} {L : List Nat} (h : Rel σ) (hM : Mod L σ υ) (hL : ∀ o ∈ L, fReel o = true ∨ o = 86) (hr : RReel υ) : Rel υ := by
  obtain ⟨⟨P, a, b, T, N, sd, fs, hC, hTr⟩, r1, r2, r3, r4, r5, r6⟩ := h
  have g : ∀ o ∈ L, fFind o = false ∧ fW o = false ∧ fHold o = false ∧ fReach o = false ∧ fWorst o = false ∧ fTrace o = false ∧ fCore o = false := fun o ho => by
    rcases hL o ho with q | q
    · exact reel_off o q
    · subst q; decide
  exact ⟨⟨P, a, b, T, N, sd, fs, hC.mod hM (fun o ho => (g o ho).2.2.2.2.2.2), hTr.mod (hC.1.2.elim (fun q => Or.inl q.1) (fun q => Or.inr q.1)) hM (fun o ho => (g o ho).2.2.2.2.2.1)⟩, hr, r2.mod hM (fun o ho => (g o ho).1), r3.mod hM (fun o ho => (g o ho).2.1), r4.mod hM (fun o ho => (g o ho).2.2.1), r5.mod hM (fun o ho => (g o ho).2.2.2.1), r6.mod hM (fun o ho => (g o ho).2.2.2.2.1)⟩
theorem s_copy157 {j x y : Nat} (hj : j < 6) (hy : x + y ≤ 60) : ∀ (r k n : Nat) (σ : SS), k + r = y → r < n → ∃ τ, l_Md_copy_157 n 81 (nI j) (nI x) (nI y) (nI k) (lay σ) = some (1, lay τ) ∧ Mod [85] σ τ ∧ ∀ q, τ.2.1 85 q = if 60 * j + x + k ≤ q ∧ q < 60 * j + x + y then σ.2.1 86 (q - 60 * j - x) else σ.2.1 85 q
  | r, k, 0, σ, h, hn => by omega
  | 0, k, n + 1, σ, h, hn => by
    have hq : y ≤ k := by omega
    refine ⟨σ, ?_, Mod.rf, fun q => by rw [if_neg (by omega)]⟩
    show b_Md_copy_157 (l_Md_copy_157 n) 81 (nI j) (nI x) (nI y) (nI k) (lay σ) = _
    unfold b_Md_copy_157
    simp (disch := first | assumption | rfl | decide | omega) only [↓ckd_lay, ↓bd_gI, ↓bd_gL, ↓bd_pI, ↓bd_pL, ↓bd_pZ, ↓bd_now, ↓bd_next, ↓bd_ldR3, ↓bd_ldR4, ↓ap_ite, ↓ap_rt, ↓ap_lt, ↓rz_0, ↓rz_1, rz_bi, ln_0, ln_1, ln_2, ln_3, ln_4, ln_5, ln_6, ln_7, ln_8, ln_10, ln_11, ln_12, ln_13, ln_15, ln_16, ln_30, ln_60, ln_256, ln_300, ln_400, ln_500, ln_1023, ln_1024, nl_0, nl_1, nl_2, nl_3, nl_4, nl_5, nl_6, nl_7, nl_8, nl_10, nl_11, nl_12, nl_13, nl_15, nl_16, nl_30, nl_60, nl_256, nl_300, nl_400, nl_500, nl_1023, nl_1024, tn_0, tn_1, tn_2, tn_3, tn_4, tn_5, tn_6, tn_7, tn_8, tn_10, tn_11, tn_12, tn_13, tn_15, tn_16, tn_30, tn_60, tn_256, tn_300, tn_400, tn_500, tn_1023, tn_1024, nt_0, nt_1, nt_2, nt_3, nt_4, nt_5, nt_6, nt_7, nt_8, nt_10, nt_11, nt_12, nt_13, nt_15, nt_16, nt_30, nt_60, nt_256, nt_300, nt_400, nt_500, nt_1023, nt_1024, ne_0, ne_1, ne_2, ne_3, ne_4, ne_5, ne_6, ne_7, ne_8, ne_10, ne_11, ne_12, ne_13, ne_15, ne_16, ne_30, ne_60, ne_256, ne_300, ne_400, ne_500, ne_1023, ne_1024, le_nn, lt_nn, eq_nn, hq, if_true]
  | r + 1, k, n + 1, σ, h, hn => by
    have hq : ¬ y ≤ k := by omega
    obtain ⟨τ, e, m, d⟩ := s_copy157 hj hy r (k + 1) n (sL σ 85 (va_up (σ.2.1 85) (60 * j + x + k) (σ.2.1 86 k))) (by omega) (by omega)
    refine ⟨τ, ?_, (Mod.L (by simp)).tr m, fun q => ?_⟩
    · show b_Md_copy_157 (l_Md_copy_157 n) 81 (nI j) (nI x) (nI y) (nI k) (lay σ) = _
      unfold b_Md_copy_157
      simp (disch := first | assumption | rfl | decide | omega) only [↓ckd_lay, ↓bd_gI, ↓bd_gL, ↓bd_pI, ↓bd_pL, ↓bd_pZ, ↓bd_now, ↓bd_next, ↓bd_ldR3, ↓bd_ldR4, ↓ap_ite, ↓ap_rt, ↓ap_lt, ↓rz_0, ↓rz_1, rz_bi, ↓gr_81_0, ↓gr_81_1, ↓gr_81_2, ↓gr_81_3, ↓gr_81_4, ↓gr_81_7, ↓gr_81_8, ↓gr_81_9, ↓gr_81_11, ↓gr_81_14, ↓gr_81_17, ↓gr_81_18, ↓gr_81_20, ↓gr_81_21, ↓gr_81_25, ↓gr_81_26, ↓gr_81_27, ↓gr_81_28, ↓gr_81_29, ↓gr_81_31, ↓gr_81_32, ↓gr_81_33, ↓gr_81_34, ↓gr_81_36, ↓gr_81_39, ln_0, ln_1, ln_2, ln_3, ln_4, ln_5, ln_6, ln_7, ln_8, ln_10, ln_11, ln_12, ln_13, ln_15, ln_16, ln_30, ln_60, ln_256, ln_300, ln_400, ln_500, ln_1023, ln_1024, nl_0, nl_1, nl_2, nl_3, nl_4, nl_5, nl_6, nl_7, nl_8, nl_10, nl_11, nl_12, nl_13, nl_15, nl_16, nl_30, nl_60, nl_256, nl_300, nl_400, nl_500, nl_1023, nl_1024, tn_0, tn_1, tn_2, tn_3, tn_4, tn_5, tn_6, tn_7, tn_8, tn_10, tn_11, tn_12, tn_13, tn_15, tn_16, tn_30, tn_60, tn_256, tn_300, tn_400, tn_500, tn_1023, tn_1024, nt_0, nt_1, nt_2, nt_3, nt_4, nt_5, nt_6, nt_7, nt_8, nt_10, nt_11, nt_12, nt_13, nt_15, nt_16, nt_30, nt_60, nt_256, nt_300, nt_400, nt_500, nt_1023, nt_1024, ne_0, ne_1, ne_2, ne_3, ne_4, ne_5, ne_6, ne_7, ne_8, ne_10, ne_11, ne_12, ne_13, ne_15, ne_16, ne_30, ne_60, ne_256, ne_300, ne_400, ne_500, ne_1023, ne_1024, le_nn, lt_nn, eq_nn, hq, if_false, na_0, na_1, na_2, na_3, na_4, na_5, na_6, na_7, na_8, na_10, na_11, na_12, na_13, na_15, na_16, na_30, na_60, na_300, an_0, an_1, an_2, an_3, an_4, an_5, an_6, an_7, an_8, an_10, an_11, an_12, an_13, an_15, an_16, an_30, an_60, an_300, nm_0, nm_1, nm_2, nm_3, nm_4, nm_5, nm_6, nm_7, nm_8, nm_10, nm_11, nm_12, nm_13, nm_15, nm_16, nm_30, nm_60, nm_300, mn_0, mn_1, mn_2, mn_3, mn_4, mn_5, mn_6, mn_7, mn_8, mn_10, mn_11, mn_12, mn_13, mn_15, mn_16, mn_30, mn_60, mn_300, nI_add, pk_mul, ↓la_85, ↓st_85, ↓la_86, ↓st_86]
      exact e
    · rw [d q, sL_same, sL_ne (by decide)]
      by_cases q1 : q = 60 * j + x + k
      · have e2 : q - 60 * j - x = k := by omega
        rw [if_neg (by omega), if_pos (by omega), q1, up_same, ← q1, e2]
      · rw [up_ne q1]
        by_cases q2 : 60 * j + x + k ≤ q ∧ q < 60 * j + x + y
        · rw [if_pos q2, if_pos (by omega)]
        · rw [if_neg q2, if_neg (by omega)]
theorem s_copy120 {σ : SS} {j x y j' x' : Nat} (hj : j < 6) (hy : x + y ≤ 60) : ∀ (r k n : Nat) (σ' : SS), k + r = y → r < n → Mod [86] σ σ' → (∀ q, q < k → σ'.2.1 86 q = σ.2.1 85 (60 * j + x + q)) → ∃ τ, l_Md_copy_120 n 81 (nI j) (nI x) (nI j') (nI x') (nI y) (nI k) (lay σ') = l_Md_copy_157 FU 81 (nI j') (nI x') (nI y) (nI 0) (lay τ) ∧ Mod [86] σ τ ∧ ∀ q, q < y → τ.2.1 86 q = σ.2.1 85 (60 * j + x + q)
  | r, k, 0, σ', h, hn, hM, hk => by omega
  | 0, k, n + 1, σ', h, hn, hM, hk => by
    have hq : y ≤ k := by omega
    refine ⟨σ', ?_, hM, fun q w => hk q (by omega)⟩
    show b_Md_copy_120 (l_Md_copy_120 n) 81 (nI j) (nI x) (nI j') (nI x') (nI y) (nI k) (lay σ') = _
    unfold b_Md_copy_120
    simp (disch := first | assumption | rfl | decide | omega) only [↓ckd_lay, ↓bd_gI, ↓bd_gL, ↓bd_pI, ↓bd_pL, ↓bd_pZ, ↓bd_now, ↓bd_next, ↓bd_ldR3, ↓bd_ldR4, ↓ap_ite, ↓ap_rt, ↓ap_lt, ↓rz_0, ↓rz_1, rz_bi, ln_0, ln_1, ln_2, ln_3, ln_4, ln_5, ln_6, ln_7, ln_8, ln_10, ln_11, ln_12, ln_13, ln_15, ln_16, ln_30, ln_60, ln_256, ln_300, ln_400, ln_500, ln_1023, ln_1024, nl_0, nl_1, nl_2, nl_3, nl_4, nl_5, nl_6, nl_7, nl_8, nl_10, nl_11, nl_12, nl_13, nl_15, nl_16, nl_30, nl_60, nl_256, nl_300, nl_400, nl_500, nl_1023, nl_1024, tn_0, tn_1, tn_2, tn_3, tn_4, tn_5, tn_6, tn_7, tn_8, tn_10, tn_11, tn_12, tn_13, tn_15, tn_16, tn_30, tn_60, tn_256, tn_300, tn_400, tn_500, tn_1023, tn_1024, nt_0, nt_1, nt_2, nt_3, nt_4, nt_5, nt_6, nt_7, nt_8, nt_10, nt_11, nt_12, nt_13, nt_15, nt_16, nt_30, nt_60, nt_256, nt_300, nt_400, nt_500, nt_1023, nt_1024, ne_0, ne_1, ne_2, ne_3, ne_4, ne_5, ne_6, ne_7, ne_8, ne_10, ne_11, ne_12, ne_13, ne_15, ne_16, ne_30, ne_60, ne_256, ne_300, ne_400, ne_500, ne_1023, ne_1024, le_nn, lt_nn, eq_nn, hq, if_true]
    rfl
  | r + 1, k, n + 1, σ', h, hn, hM, hk => by
    have hq : ¬ y ≤ k := by omega
    have e85 : σ'.2.1 85 = σ.2.1 85 := hM.l (by decide)
    obtain ⟨τ, e, m, d⟩ := s_copy120 (j' := j') (x' := x') hj hy r (k + 1) n (sL σ' 86 (va_up (σ'.2.1 86) k (σ.2.1 85 (60 * j + x + k)))) (by omega) (by omega) (hM.tr (Mod.L (by simp))) (fun q w => by
      rw [sL_same]
      by_cases q1 : q = k
      · rw [q1, up_same]
      · rw [up_ne q1]; exact hk q (by omega))
    refine ⟨τ, ?_, m, d⟩
    show b_Md_copy_120 (l_Md_copy_120 n) 81 (nI j) (nI x) (nI j') (nI x') (nI y) (nI k) (lay σ') = _
    unfold b_Md_copy_120
    simp (disch := first | assumption | rfl | decide | omega) only [↓ckd_lay, ↓bd_gI, ↓bd_gL, ↓bd_pI, ↓bd_pL, ↓bd_pZ, ↓bd_now, ↓bd_next, ↓bd_ldR3, ↓bd_ldR4, ↓ap_ite, ↓ap_rt, ↓ap_lt, ↓rz_0, ↓rz_1, rz_bi, ↓gr_81_0, ↓gr_81_1, ↓gr_81_2, ↓gr_81_3, ↓gr_81_4, ↓gr_81_7, ↓gr_81_8, ↓gr_81_9, ↓gr_81_11, ↓gr_81_14, ↓gr_81_17, ↓gr_81_18, ↓gr_81_20, ↓gr_81_21, ↓gr_81_25, ↓gr_81_26, ↓gr_81_27, ↓gr_81_28, ↓gr_81_29, ↓gr_81_31, ↓gr_81_32, ↓gr_81_33, ↓gr_81_34, ↓gr_81_36, ↓gr_81_39, ln_0, ln_1, ln_2, ln_3, ln_4, ln_5, ln_6, ln_7, ln_8, ln_10, ln_11, ln_12, ln_13, ln_15, ln_16, ln_30, ln_60, ln_256, ln_300, ln_400, ln_500, ln_1023, ln_1024, nl_0, nl_1, nl_2, nl_3, nl_4, nl_5, nl_6, nl_7, nl_8, nl_10, nl_11, nl_12, nl_13, nl_15, nl_16, nl_30, nl_60, nl_256, nl_300, nl_400, nl_500, nl_1023, nl_1024, tn_0, tn_1, tn_2, tn_3, tn_4, tn_5, tn_6, tn_7, tn_8, tn_10, tn_11, tn_12, tn_13, tn_15, tn_16, tn_30, tn_60, tn_256, tn_300, tn_400, tn_500, tn_1023, tn_1024, nt_0, nt_1, nt_2, nt_3, nt_4, nt_5, nt_6, nt_7, nt_8, nt_10, nt_11, nt_12, nt_13, nt_15, nt_16, nt_30, nt_60, nt_256, nt_300, nt_400, nt_500, nt_1023, nt_1024, ne_0, ne_1, ne_2, ne_3, ne_4, ne_5, ne_6, ne_7, ne_8, ne_10, ne_11, ne_12, ne_13, ne_15, ne_16, ne_30, ne_60, ne_256, ne_300, ne_400, ne_500, ne_1023, ne_1024, le_nn, lt_nn, eq_nn, hq, if_false, na_0, na_1, na_2, na_3, na_4, na_5, na_6, na_7, na_8, na_10, na_11, na_12, na_13, na_15, na_16, na_30, na_60, na_300, an_0, an_1, an_2, an_3, an_4, an_5, an_6, an_7, an_8, an_10, an_11, an_12, an_13, an_15, an_16, an_30, an_60, an_300, nm_0, nm_1, nm_2, nm_3, nm_4, nm_5, nm_6, nm_7, nm_8, nm_10, nm_11, nm_12, nm_13, nm_15, nm_16, nm_30, nm_60, nm_300, mn_0, mn_1, mn_2, mn_3, mn_4, mn_5, mn_6, mn_7, mn_8, mn_10, mn_11, mn_12, mn_13, mn_15, mn_16, mn_30, mn_60, mn_300, nI_add, pk_mul, ↓la_85, ↓st_85, ↓la_86, ↓st_86, e85]
    exact e
theorem d_copy {σ : SS} {i x i' x' y : Int32} (h : Rel σ) : Duo (m_Ob_copy 1 i x i' x' y) (m_Md_copy 81 i x i' x' y) σ := by
  by_cases hi : 0 ≤ i ∧ i < 6
  · by_cases hi' : 0 ≤ i' ∧ i' < 6
    · obtain ⟨j, hj, rfl⟩ := nI_ex (n := 6) (by omega) hi.1 hi.2
      obtain ⟨j', hj', rfl⟩ := nI_ex (n := 6) (x := i') (by omega) hi'.1 hi'.2
      have hR : RReel σ := h.2.1
      obtain ⟨h1, h2, h3, ⟨z, hz, hz2⟩, h5, h6⟩ := hR j hj
      obtain ⟨g1, g2, g3, ⟨z', gz, gz2⟩, g5, g6⟩ := hR j' hj'
      have a1 : ∀ w : Int32, (w < 0) ↔ ¬ 0 ≤ w.toInt := fun w => by rw [Int32.lt_iff_toInt_lt, show (0 : Int32).toInt = 0 from rfl]; omega
      -- the class
      have cls : m_Ob_copy 1 (nI j) x (nI j') x' y (lay σ) = if σ.1 82 j = 0 ∨ σ.1 82 j' = 0 then some (-11, lay (sI σ (fa 1 9) (fun _ => 1))) else if σ.1 83 j = σ.1 83 j' then (if (0 ≤ x.toInt ∧ 0 ≤ y.toInt ∧ x.toInt + y.toInt ≤ z) ∧ (0 ≤ x'.toInt ∧ 0 ≤ y.toInt ∧ x'.toInt + y.toInt ≤ z') then bd (acp (4 + 2 * j) x (4 + 2 * j') x' y) (fun _ => rt 1) (lay σ) else some (-12, lay (sI σ (fa 1 9) (fun _ => 2)))) else some (-14, lay (sI σ (fa 1 9) (fun _ => 4))) := by
        unfold m_Ob_copy
        rw [ckd_lay (ci := 8) (o := 1) rfl (by decide), bd_eq s_isReel, ap_ite, if_neg (by rw [bi_0]; exact fun q => q hi), bd_eq s_isReel, ap_ite, if_neg (by rw [bi_0]; exact fun q => q hi')]
        simp (disch := first | assumption | rfl | decide | omega) only [↓ckd_lay, ↓bd_gI, ↓bd_gL, ↓bd_pI, ↓bd_pL, ↓bd_pZ, ↓bd_now, ↓bd_next, ↓bd_ldR3, ↓bd_ldR4, ↓ap_ite, ↓ap_rt, ↓ap_lt, ↓rz_0, ↓rz_1, rz_bi, ↓gr_1_0, ↓gr_1_1, ↓gr_1_2, ↓gr_1_3, ↓gr_1_4, ↓gr_1_5, ↓gr_1_6, ↓gr_15_0, ↓gr_15_1, ↓gr_15_2, ↓gr_15_3, ↓gr_20_0, ↓gr_20_1, ↓gr_23_0, ↓gr_23_1, ↓gr_23_2, ↓gr_27_0, ↓gr_27_1, ↓gr_27_2, ↓gr_29_0, ↓gr_29_1, ↓gr_29_2, ↓gr_29_3, ↓gr_29_4, ↓gr_33_0, ↓gr_33_1, ↓gr_now, ↓gr_next, ↓rgI hj, ↓rgI hj']
        rcases h1 with ⟨q1, q2⟩ | ⟨q1, q2⟩
        · rcases g1 with ⟨w1, w2⟩ | ⟨w1, w2⟩
          · rw [q1, w1, if_pos rfl, if_pos rfl, if_neg (show ¬ (σ.1 82 j = 0 ∨ σ.1 82 j' = 0) by rw [q2, w2]; decide), h2, g2]
            by_cases e : σ.1 83 j = σ.1 83 j'
            · rw [if_pos e, if_pos e, bd_eq (s_hasRow hj hz (h3.trans hz2)), ap_ite]
              by_cases r1 : 0 ≤ x.toInt ∧ 0 ≤ y.toInt ∧ x.toInt + y.toInt ≤ z
              · rw [if_neg (by rw [bi_0]; exact fun q => q r1), bd_eq (s_hasRow hj' gz (g3.trans gz2)), ap_ite]
                by_cases r2 : 0 ≤ x'.toInt ∧ 0 ≤ y.toInt ∧ x'.toInt + y.toInt ≤ z'
                · rw [if_neg (by rw [bi_0]; exact fun q => q r2), if_pos ⟨r1, r2⟩, rg0 hj, rg0 hj']
                · rw [if_pos (by rw [bi_0]; exact r2), if_neg (fun q => r2 q.2), bd_eq s_found, ap_rt]
                  rfl
              · rw [if_pos (by rw [bi_0]; exact r1), if_neg (fun q => r1 q.1), bd_eq s_found, ap_rt]
                rfl
            · rw [if_neg e, if_neg e, bd_eq s_found, ap_rt]
              rfl
          · rw [q1, w1, if_pos rfl, if_neg (show ¬ ((1 : Int32) = 0) by decide), if_pos (Or.inr w2), bd_eq s_found, ap_rt]
            rfl
        · rw [q1, if_neg (show ¬ ((1 : Int32) = 0) by decide), if_pos (Or.inl q2), bd_eq s_found, ap_rt]
          rfl
      have ref : ∀ τ : SS, τ.1 82 = σ.1 82 → τ.1 83 = σ.1 83 → τ.1 84 = σ.1 84 → m_Md_copy 81 (nI j) x (nI j') x' y (lay τ) = if σ.1 82 j = 0 ∨ σ.1 82 j' = 0 then some (-11, lay (sI τ (fa 81 5) (fun _ => 1))) else if σ.1 83 j = σ.1 83 j' then (if (0 ≤ x.toInt ∧ 0 ≤ y.toInt ∧ x.toInt + y.toInt ≤ z) ∧ (0 ≤ x'.toInt ∧ 0 ≤ y.toInt ∧ x'.toInt + y.toInt ≤ z') then l_Md_copy_120 FU 81 (nI j) x (nI j') x' y 0 (lay τ) else some (-12, lay (sI τ (fa 81 5) (fun _ => 2)))) else some (-14, lay (sI τ (fa 81 5) (fun _ => 4))) := by
        intro τ t82 t83 t84
        have sum : ∀ w : Int32, (w.toInt64 + y.toInt64).toInt = w.toInt + y.toInt := fun w => by
          have b1 := w.le_toInt
          have b2 := w.toInt_lt
          have b3 := y.le_toInt
          have b4 := y.toInt_lt
          rw [toInt_add64 (by rw [Int32.toInt_toInt64]; omega) (by rw [Int32.toInt_toInt64]; omega), Int32.toInt_toInt64, Int32.toInt_toInt64]
        unfold m_Md_copy
        rw [ckd_lay (ci := 9) (o := 81) rfl (by decide), bd_eq s_isReelM, ap_ite, if_neg (by rw [bi_0]; exact fun q => q hi), bd_eq s_isReelM, ap_ite, if_neg (by rw [bi_0]; exact fun q => q hi')]
        simp (disch := first | assumption | rfl | decide | omega) only [↓ckd_lay, ↓bd_gI, ↓bd_gL, ↓bd_pI, ↓bd_pL, ↓bd_pZ, ↓bd_now, ↓bd_next, ↓bd_ldR3, ↓bd_ldR4, ↓ap_ite, ↓ap_rt, ↓ap_lt, ↓rz_0, ↓rz_1, rz_bi, ↓gr_81_0, ↓gr_81_1, ↓gr_81_2, ↓gr_81_3, ↓gr_81_4, ↓gr_81_7, ↓gr_81_8, ↓gr_81_9, ↓gr_81_11, ↓gr_81_14, ↓gr_81_17, ↓gr_81_18, ↓gr_81_20, ↓gr_81_21, ↓gr_81_25, ↓gr_81_26, ↓gr_81_27, ↓gr_81_28, ↓gr_81_29, ↓gr_81_31, ↓gr_81_32, ↓gr_81_33, ↓gr_81_34, ↓gr_81_36, ↓gr_81_39, ↓zl82 hj, ↓zl82 hj', ↓la_83, ↓st_83, ↓la_84, ↓st_84, t82, t83, t84]
        by_cases q1 : σ.1 82 j = 0
        · rw [if_pos q1, if_pos (Or.inl q1), bd_eq s_meets, ap_rt]
          rfl
        · by_cases q2 : σ.1 82 j' = 0
          · rw [if_neg q1, if_pos q2, if_pos (Or.inr q2), bd_eq s_meets, ap_rt]
            rfl
          · have q3 : ¬ (σ.1 82 j = 0 ∨ σ.1 82 j' = 0) := fun w => w.elim q1 q2
            rw [if_neg q1, if_neg q2, if_neg q3]
            by_cases e : σ.1 83 j = σ.1 83 j'
            · rw [if_pos e, if_pos e]
              have bad : ∀ {A : Option (Int32 × AH)}, ¬ ((0 ≤ x.toInt ∧ 0 ≤ y.toInt ∧ x.toInt + y.toInt ≤ z) ∧ (0 ≤ x'.toInt ∧ 0 ≤ y.toInt ∧ x'.toInt + y.toInt ≤ z')) → bd (m_Md_meets 81 2) (fun v => rt v) (lay τ) = if (0 ≤ x.toInt ∧ 0 ≤ y.toInt ∧ x.toInt + y.toInt ≤ z) ∧ (0 ≤ x'.toInt ∧ 0 ≤ y.toInt ∧ x'.toInt + y.toInt ≤ z') then A else some (-12, lay (sI τ (fa 81 5) (fun _ => 2))) := fun w => by
                rw [if_neg w, bd_eq s_meets, ap_rt]
                rfl
              by_cases r1 : 0 ≤ x.toInt
              · rw [if_neg (fun w => (a1 x).mp w r1)]
                by_cases r2 : 0 ≤ x'.toInt
                · rw [if_neg (fun w => (a1 x').mp w r2)]
                  by_cases r3 : 0 ≤ y.toInt
                  · rw [if_neg (fun w => (a1 y).mp w r3)]
                    by_cases r4 : x.toInt + y.toInt ≤ z
                    · rw [if_neg (by rw [Int64.lt_iff_toInt_lt, sum, Int32.toInt_toInt64, hz2, nI_toInt (by omega)]; omega)]
                      by_cases r5 : x'.toInt + y.toInt ≤ z'
                      · rw [if_pos (by rw [Int64.le_iff_toInt_le, sum, Int32.toInt_toInt64, gz2, nI_toInt (by omega)]; omega), if_pos ⟨⟨r1, r3, r4⟩, r2, r3, r5⟩]
                      · rw [if_neg (by rw [Int64.le_iff_toInt_le, sum, Int32.toInt_toInt64, gz2, nI_toInt (by omega)]; omega)]
                        exact bad (fun w => r5 w.2.2.2)
                    · rw [if_pos (by rw [Int64.lt_iff_toInt_lt, sum, Int32.toInt_toInt64, hz2, nI_toInt (by omega)]; omega)]
                      exact bad (fun w => r4 w.1.2.2)
                  · rw [if_pos ((a1 y).mpr r3)]
                    exact bad (fun w => r3 w.1.2.1)
                · rw [if_pos ((a1 x').mpr r2)]
                  exact bad (fun w => r2 w.2.1)
              · rw [if_pos ((a1 x).mpr r1)]
                exact bad (fun w => r1 w.1.1)
            · rw [if_neg e, if_neg e, bd_eq s_meets, ap_rt]
              rfl
      by_cases q1 : σ.1 82 j = 0 ∨ σ.1 82 j' = 0
      · refine Duo.found (c := 1) h (-11) (cls.trans (if_pos q1)) (fun τ hτ _ => ?_)
        exact (ref τ (by rw [hτ, sI_ne (by decide)]) (by rw [hτ, sI_ne (by decide)]) (by rw [hτ, sI_ne (by decide)])).trans (if_pos q1)
      · by_cases e : σ.1 83 j = σ.1 83 j'
        · by_cases r : (0 ≤ x.toInt ∧ 0 ≤ y.toInt ∧ x.toInt + y.toInt ≤ z) ∧ (0 ≤ x'.toInt ∧ 0 ≤ y.toInt ∧ x'.toInt + y.toInt ≤ z')
          · have toN : ∀ w : Int32, 0 ≤ w.toInt → w.toInt ≤ 60 → ∃ n : Nat, n ≤ 60 ∧ w = nI n ∧ w.toInt = n := fun w c1 c2 => by
              obtain ⟨n, hn, rfl⟩ := nI_ex (n := 61) (x := w) (by omega) (by rw [Int32.le_iff_toInt_le, show (0 : Int32).toInt = 0 from rfl]; exact c1) (by rw [Int32.lt_iff_toInt_lt, show (nI 61).toInt = 61 from rfl]; omega)
              exact ⟨n, by omega, rfl, nI_toInt (by omega)⟩
            obtain ⟨X, hX, rfl, eX⟩ := toN x r.1.1 (by omega)
            obtain ⟨X', hX', rfl, eX'⟩ := toN x' r.2.1 (by omega)
            obtain ⟨Y, hY, rfl, eY⟩ := toN y r.1.2.1 (by omega)
            have b1 : X + Y ≤ z := by omega
            have b2 : X' + Y ≤ z' := by omega
            have k1 := kd_rl j hj
            have k2 := kd_rl j' hj'
            have mA : Mod [4 + 2 * j'] σ (sL σ (4 + 2 * j') (va_cpy (σ.2.1 (4 + 2 * j)) (σ.2.1 (4 + 2 * j')) X X' Y)) := Mod.L (by simp)
            have ea : m_Ob_copy 1 (nI j) (nI X) (nI j') (nI X') (nI Y) (lay σ) = some (1, lay (sL σ (4 + 2 * j') (va_cpy (σ.2.1 (4 + 2 * j)) (σ.2.1 (4 + 2 * j')) X X' Y))) := by
              rw [cls, if_neg q1, if_pos e, if_pos r, bd_acp k1.2.1 k2.2.1 (by rw [k1.2.2.1]; omega) (by rw [k2.2.2.1]; omega), ap_rt]
            have v4 : (sL σ (4 + 2 * j') (va_cpy (σ.2.1 (4 + 2 * j)) (σ.2.1 (4 + 2 * j')) X X' Y)).2.1 (4 + 2 * j') = va_cpy (σ.2.1 (4 + 2 * j)) (σ.2.1 (4 + 2 * j')) X X' Y := sL_same
            generalize hτ : sL σ (4 + 2 * j') (va_cpy (σ.2.1 (4 + 2 * j)) (σ.2.1 (4 + 2 * j')) X X' Y) = τ at mA ea v4
            have t85 : τ.2.1 85 = σ.2.1 85 := mA.l (by simp; omega)
            obtain ⟨τ1, f1, m1, d1⟩ := s_copy120 (σ := τ) (j := j) (x := X) (y := Y) (j' := j') (x' := X') hj (by omega) Y 0 FU τ (by omega) (by unfold FU; omega) Mod.rf (fun q w => by omega)
            obtain ⟨υ, f2, m2, d2⟩ := s_copy157 (j := j') (x := X') (y := Y) hj' (by omega) Y 0 FU τ1 (by omega) (by unfold FU; omega)
            have mT : Mod [4 + 2 * j', 85, 86] σ υ := (mA.mono (fun o ho => by simp at ho ⊢; omega)).tr ((m1.mono (by simp)).tr (m2.mono (by simp)))
            have mT2 : Mod [85, 86] τ υ := (m1.mono (by simp)).tr (m2.mono (by simp))
            refine ⟨1, τ, υ, ea, ?_, ?_⟩
            · rw [ref τ (mA.i (by simp; omega)) (mA.i (by simp; omega)) (mA.i (by simp; omega)), if_neg q1, if_pos e, if_pos r]
              exact f1.trans f2
            · have rr : RReel υ := by
                intro r' hr
                obtain ⟨c1, c2, c3, c4, c5, c6⟩ := hR r' hr
                rw [mT.i (o := fa (3 + 2 * r') 1) (by unfold fa; simp; omega), mT.i (o := fa (3 + 2 * r') 2) (by unfold fa; simp; omega), mT.i (o := fa (3 + 2 * r') 3) (by unfold fa; simp; omega), mT.i (o := 82) (by simp; omega), mT.i (o := 83) (by simp; omega), mT.i (o := 84) (by simp; omega)]
                refine ⟨c1, c2, c3, c4, c5, fun t ht => ?_⟩
                rw [mT2.l (o := 4 + 2 * r') (by simp; omega), d2, m1.l (o := 85) (by decide), t85]
                by_cases q : r' = j'
                · subst q
                  rw [v4]
                  unfold va_cpy
                  by_cases w : X' ≤ t ∧ t < X' + Y
                  · have c := h6 (X + (t - X')) (by omega)
                    have e1 : 60 * r' + t - 60 * r' - X' = t - X' := by omega
                    rw [if_pos w, if_pos (by omega), e1, d1 (t - X') (by omega), t85, c.1]
                    rw [show 60 * j + X + (t - X') = 60 * j + (X + (t - X')) by omega, ← e]
                    exact ⟨rfl, c.2⟩
                  · rw [if_neg w, if_neg (by omega)]
                    exact c6 t ht
                · rw [if_neg (by omega), mA.l (o := 4 + 2 * r') (by simp; omega)]
                  exact c6 t ht
              exact h.reel2 mT (fun o ho => by
                simp at ho
                unfold fReel
                simp
                omega) rr
          · refine Duo.found (c := 2) h (-12) (by rw [cls, if_neg q1, if_pos e, if_neg r]) (fun τ hτ _ => ?_)
            rw [ref τ (by rw [hτ, sI_ne (by decide)]) (by rw [hτ, sI_ne (by decide)]) (by rw [hτ, sI_ne (by decide)]), if_neg q1, if_pos e, if_neg r]
        · refine Duo.found (c := 4) h (-14) (by rw [cls, if_neg q1, if_neg e]) (fun τ hτ _ => ?_)
          rw [ref τ (by rw [hτ, sI_ne (by decide)]) (by rw [hτ, sI_ne (by decide)]) (by rw [hτ, sI_ne (by decide)]), if_neg q1, if_neg e]
    · refine Duo.same h (-2) ?_ ?_
      · unfold m_Ob_copy
        rw [ckd_lay (ci := 8) (o := 1) rfl (by decide), bd_eq s_isReel, ap_ite, if_neg (by rw [bi_0]; exact fun q => q hi), bd_eq s_isReel, ap_ite, if_pos (by rw [bi_0]; exact hi'), ap_rt]
      · unfold m_Md_copy
        rw [ckd_lay (ci := 9) (o := 81) rfl (by decide), bd_eq s_isReelM, ap_ite, if_neg (by rw [bi_0]; exact fun q => q hi), bd_eq s_isReelM, ap_ite, if_pos (by rw [bi_0]; exact hi'), ap_rt]
  · refine Duo.same h (-2) ?_ ?_
    · unfold m_Ob_copy
      rw [ckd_lay (ci := 8) (o := 1) rfl (by decide), bd_eq s_isReel, ap_ite, if_pos (by rw [bi_0]; exact hi), ap_rt]
    · unfold m_Md_copy
      rw [ckd_lay (ci := 9) (o := 81) rfl (by decide), bd_eq s_isReelM, ap_ite, if_pos (by rw [bi_0]; exact hi), ap_rt]
