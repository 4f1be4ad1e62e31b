/-! sums, level. -/
theorem s_sums77 {i t u : Nat} {k52 : Nat → Int32 → Int32 → Int32 → M Int64} (hi : i ≤ 4) (ht : t < 300) : ∀ (r j n : Nat) (σ : SS), j + r = i + 1 → 1 ≤ j → r < n → ∃ τ, l_Md_sums_77 k52 n 81 (nI i) (nI u) (nI t) (nI j) (lay σ) = k52 81 (nI i) (nI u) (nI (t + 1)) (lay τ) ∧ Mod [98] σ τ ∧ (∀ k, k < j → τ.2.1 98 k = σ.2.1 98 k) ∧ (∀ k, j ≤ k → k ≤ i → τ.2.1 98 k = σ.2.1 98 k + τ.2.1 98 (k - 1))
  | r, j, 0, σ, h, h1, hn => by omega
  | 0, j, n + 1, σ, h, h1, hn => by
    have hq : i < j := by omega
    refine ⟨σ, ?_, Mod.rf, fun _ _ => rfl, fun k q1 q2 => by omega⟩
    show b_Md_sums_77 k52 (l_Md_sums_77 k52 n) 81 (nI i) (nI u) (nI t) (nI j) (lay σ) = _
    unfold b_Md_sums_77
    simp (disch := first | assumption | rfl | decide | omega) only [↓ckd_lay, ↓bd_gI, ↓bd_gL, ↓bd_pI, ↓bd_pL, ↓bd_pZ, ↓bd_now, ↓bd_next, ↓bd_ldR3, ↓bd_ldR4, ↓ap_ite, ↓ap_rt, ↓ap_lt, ↓rz_0, ↓rz_1, rz_bi, ln_0, ln_1, ln_2, ln_3, ln_4, ln_5, ln_6, ln_7, ln_8, ln_10, ln_11, ln_12, ln_13, ln_15, ln_16, ln_30, ln_60, ln_256, ln_300, ln_400, ln_500, ln_1023, ln_1024, nl_0, nl_1, nl_2, nl_3, nl_4, nl_5, nl_6, nl_7, nl_8, nl_10, nl_11, nl_12, nl_13, nl_15, nl_16, nl_30, nl_60, nl_256, nl_300, nl_400, nl_500, nl_1023, nl_1024, tn_0, tn_1, tn_2, tn_3, tn_4, tn_5, tn_6, tn_7, tn_8, tn_10, tn_11, tn_12, tn_13, tn_15, tn_16, tn_30, tn_60, tn_256, tn_300, tn_400, tn_500, tn_1023, tn_1024, nt_0, nt_1, nt_2, nt_3, nt_4, nt_5, nt_6, nt_7, nt_8, nt_10, nt_11, nt_12, nt_13, nt_15, nt_16, nt_30, nt_60, nt_256, nt_300, nt_400, nt_500, nt_1023, nt_1024, ne_0, ne_1, ne_2, ne_3, ne_4, ne_5, ne_6, ne_7, ne_8, ne_10, ne_11, ne_12, ne_13, ne_15, ne_16, ne_30, ne_60, ne_256, ne_300, ne_400, ne_500, ne_1023, ne_1024, le_nn, lt_nn, eq_nn, hq, if_true, na_1]
  | r + 1, j, n + 1, σ, h, h1, hn => by
    have hq : ¬ i < j := by omega
    obtain ⟨τ, e, m, k1, k2⟩ := s_sums77 (u := u) (k52 := k52) hi ht r (j + 1) n (sL σ 98 (va_up (σ.2.1 98) j (σ.2.1 98 j + σ.2.1 98 (j - 1)))) (by omega) (by omega) (by omega)
    refine ⟨τ, ?_, (Mod.L (by simp)).tr m, fun k q => ?_, fun k q1 q2 => ?_⟩
    · show b_Md_sums_77 k52 (l_Md_sums_77 k52 n) 81 (nI i) (nI u) (nI t) (nI j) (lay σ) = _
      unfold b_Md_sums_77
      simp (disch := first | assumption | rfl | decide | omega) only [↓ckd_lay, ↓bd_gI, ↓bd_gL, ↓bd_pI, ↓bd_pL, ↓bd_pZ, ↓bd_now, ↓bd_next, ↓bd_ldR3, ↓bd_ldR4, ↓ap_ite, ↓ap_rt, ↓ap_lt, ↓rz_0, ↓rz_1, rz_bi, ↓gr_81_0, ↓gr_81_1, ↓gr_81_2, ↓gr_81_3, ↓gr_81_4, ↓gr_81_7, ↓gr_81_8, ↓gr_81_9, ↓gr_81_11, ↓gr_81_14, ↓gr_81_17, ↓gr_81_18, ↓gr_81_20, ↓gr_81_21, ↓gr_81_25, ↓gr_81_26, ↓gr_81_27, ↓gr_81_28, ↓gr_81_29, ↓gr_81_31, ↓gr_81_32, ↓gr_81_33, ↓gr_81_34, ↓gr_81_36, ↓gr_81_39, ln_0, ln_1, ln_2, ln_3, ln_4, ln_5, ln_6, ln_7, ln_8, ln_10, ln_11, ln_12, ln_13, ln_15, ln_16, ln_30, ln_60, ln_256, ln_300, ln_400, ln_500, ln_1023, ln_1024, nl_0, nl_1, nl_2, nl_3, nl_4, nl_5, nl_6, nl_7, nl_8, nl_10, nl_11, nl_12, nl_13, nl_15, nl_16, nl_30, nl_60, nl_256, nl_300, nl_400, nl_500, nl_1023, nl_1024, tn_0, tn_1, tn_2, tn_3, tn_4, tn_5, tn_6, tn_7, tn_8, tn_10, tn_11, tn_12, tn_13, tn_15, tn_16, tn_30, tn_60, tn_256, tn_300, tn_400, tn_500, tn_1023, tn_1024, nt_0, nt_1, nt_2, nt_3, nt_4, nt_5, nt_6, nt_7, nt_8, nt_10, nt_11, nt_12, nt_13, nt_15, nt_16, nt_30, nt_60, nt_256, nt_300, nt_400, nt_500, nt_1023, nt_1024, ne_0, ne_1, ne_2, ne_3, ne_4, ne_5, ne_6, ne_7, ne_8, ne_10, ne_11, ne_12, ne_13, ne_15, ne_16, ne_30, ne_60, ne_256, ne_300, ne_400, ne_500, ne_1023, ne_1024, le_nn, lt_nn, eq_nn, hq, if_false, na_1, ns_1, ↓la_98, ↓st_98]
      exact e
    · rw [k1 k (by omega), sL_same, up_ne (by omega)]
    · by_cases q : k = j
      · subst q
        rw [k1 k (by omega), sL_same, up_same, k1 (k - 1) (by omega), sL_same, up_ne (by omega)]
      · rw [k2 k (by omega) q2, sL_same, up_ne q]
theorem s_sums52 {σ : SS} {i u : Nat} (hi1 : 1 ≤ i) (hi4 : i ≤ 4) (hu : u < 300) (hr : ∀ t, t ≤ u → σ.2.1 21 (7 * t + 1) = σ.2.1 93 (7 * t + 1)) : ∀ (r t n : Nat) (σ' : SS) (x1 x2 x3 x4 : Int64), t + r = u + 1 → r < n → Mod [98] σ σ' → σ'.2.1 98 1 = x1 → (2 ≤ i → σ'.2.1 98 2 = x2) → (3 ≤ i → σ'.2.1 98 3 = x3) → (4 ≤ i → σ'.2.1 98 4 = x4) →
    ∃ v τ, l_Lg_runningSum_14 n 20 (nI i) (nI u) x1 x2 x3 x4 (nI t) (lay σ) = some (v, lay σ) ∧ l_Md_sums_52 n 81 (nI i) (nI u) (nI t) (lay σ') = some (v, lay τ) ∧ Mod [98] σ τ
  | r, t, 0, σ', x1, x2, x3, x4, h, hn, hM, h1, h2, h3, h4 => by omega
  | 0, t, n + 1, σ', x1, x2, x3, x4, h, hn, hM, h1, h2, h3, h4 => by
    have hq : u < t := by omega
    refine ⟨σ'.2.1 98 i, σ', ?_, ?_, hM⟩
    · show b_Lg_runningSum_14 (l_Lg_runningSum_14 n) 20 (nI i) (nI u) x1 x2 x3 x4 (nI t) (lay σ) = _
      unfold b_Lg_runningSum_14
      simp (disch := first | assumption | rfl | decide | omega) only [↓ckd_lay, ↓bd_gI, ↓bd_gL, ↓bd_pI, ↓bd_pL, ↓bd_pZ, ↓bd_now, ↓bd_next, ↓bd_ldR3, ↓bd_ldR4, ↓ap_ite, ↓ap_rt, ↓ap_lt, ↓rz_0, ↓rz_1, rz_bi, ln_0, ln_1, ln_2, ln_3, ln_4, ln_5, ln_6, ln_7, ln_8, ln_10, ln_11, ln_12, ln_13, ln_15, ln_16, ln_30, ln_60, ln_256, ln_300, ln_400, ln_500, ln_1023, ln_1024, nl_0, nl_1, nl_2, nl_3, nl_4, nl_5, nl_6, nl_7, nl_8, nl_10, nl_11, nl_12, nl_13, nl_15, nl_16, nl_30, nl_60, nl_256, nl_300, nl_400, nl_500, nl_1023, nl_1024, tn_0, tn_1, tn_2, tn_3, tn_4, tn_5, tn_6, tn_7, tn_8, tn_10, tn_11, tn_12, tn_13, tn_15, tn_16, tn_30, tn_60, tn_256, tn_300, tn_400, tn_500, tn_1023, tn_1024, nt_0, nt_1, nt_2, nt_3, nt_4, nt_5, nt_6, nt_7, nt_8, nt_10, nt_11, nt_12, nt_13, nt_15, nt_16, nt_30, nt_60, nt_256, nt_300, nt_400, nt_500, nt_1023, nt_1024, ne_0, ne_1, ne_2, ne_3, ne_4, ne_5, ne_6, ne_7, ne_8, ne_10, ne_11, ne_12, ne_13, ne_15, ne_16, ne_30, ne_60, ne_256, ne_300, ne_400, ne_500, ne_1023, ne_1024, le_nn, lt_nn, eq_nn, hq, if_true]
      match i, hi1, hi4 with
      | 1, _, _ => rw [show swt (nI 1).toInt 1 [rt x1, rt x2, rt x3] (rt x4) = rt x1 from swt_i 0 rfl rfl, ap_rt, h1]
      | 2, _, _ => rw [show swt (nI 2).toInt 1 [rt x1, rt x2, rt x3] (rt x4) = rt x2 from swt_i 1 rfl rfl, ap_rt, h2 (by omega)]
      | 3, _, _ => rw [show swt (nI 3).toInt 1 [rt x1, rt x2, rt x3] (rt x4) = rt x3 from swt_i 2 rfl rfl, ap_rt, h3 (by omega)]
      | 4, _, _ => rw [show swt (nI 4).toInt 1 [rt x1, rt x2, rt x3] (rt x4) = rt x4 from swt_o (Or.inr (by show (1 : Int) + ((3 : Nat) : Int) ≤ (nI 4).toInt; decide)), ap_rt, h4 (by omega)]
    · show b_Md_sums_52 (l_Md_sums_52 n) 81 (nI i) (nI u) (nI t) (lay σ') = _
      unfold b_Md_sums_52
      simp (disch := first | assumption | rfl | decide | omega) only [↓ckd_lay, ↓bd_gI, ↓bd_gL, ↓bd_pI, ↓bd_pL, ↓bd_pZ, ↓bd_now, ↓bd_next, ↓bd_ldR3, ↓bd_ldR4, ↓ap_ite, ↓ap_rt, ↓ap_lt, ↓rz_0, ↓rz_1, rz_bi, ↓gr_81_0, ↓gr_81_1, ↓gr_81_2, ↓gr_81_3, ↓gr_81_4, ↓gr_81_7, ↓gr_81_8, ↓gr_81_9, ↓gr_81_11, ↓gr_81_14, ↓gr_81_17, ↓gr_81_18, ↓gr_81_20, ↓gr_81_21, ↓gr_81_25, ↓gr_81_26, ↓gr_81_27, ↓gr_81_28, ↓gr_81_29, ↓gr_81_31, ↓gr_81_32, ↓gr_81_33, ↓gr_81_34, ↓gr_81_36, ↓gr_81_39, ln_0, ln_1, ln_2, ln_3, ln_4, ln_5, ln_6, ln_7, ln_8, ln_10, ln_11, ln_12, ln_13, ln_15, ln_16, ln_30, ln_60, ln_256, ln_300, ln_400, ln_500, ln_1023, ln_1024, nl_0, nl_1, nl_2, nl_3, nl_4, nl_5, nl_6, nl_7, nl_8, nl_10, nl_11, nl_12, nl_13, nl_15, nl_16, nl_30, nl_60, nl_256, nl_300, nl_400, nl_500, nl_1023, nl_1024, tn_0, tn_1, tn_2, tn_3, tn_4, tn_5, tn_6, tn_7, tn_8, tn_10, tn_11, tn_12, tn_13, tn_15, tn_16, tn_30, tn_60, tn_256, tn_300, tn_400, tn_500, tn_1023, tn_1024, nt_0, nt_1, nt_2, nt_3, nt_4, nt_5, nt_6, nt_7, nt_8, nt_10, nt_11, nt_12, nt_13, nt_15, nt_16, nt_30, nt_60, nt_256, nt_300, nt_400, nt_500, nt_1023, nt_1024, ne_0, ne_1, ne_2, ne_3, ne_4, ne_5, ne_6, ne_7, ne_8, ne_10, ne_11, ne_12, ne_13, ne_15, ne_16, ne_30, ne_60, ne_256, ne_300, ne_400, ne_500, ne_1023, ne_1024, le_nn, lt_nn, eq_nn, hq, if_true, ↓la_98, ↓st_98]
  | r + 1, t, n + 1, σ', x1, x2, x3, x4, h, hn, hM, h1, h2, h3, h4 => by
    have hq : ¬ u < t := by omega
    have e21 := hr t (by omega)
    have e93 : σ'.2.1 93 = σ.2.1 93 := hM.l (by decide)
    obtain ⟨σ2, f1, m2, k1, k2⟩ := s_sums77 (i := i) (t := t) (u := u) (k52 := l_Md_sums_52 n) hi4 (by omega) i 1 FU (sL σ' 98 (va_up (σ'.2.1 98) 0 (σ.2.1 93 (7 * t + 1)))) (by omega) (by omega) (by unfold FU; omega)
    rw [sL_same] at k1 k2
    have y0 : σ2.2.1 98 0 = σ.2.1 93 (7 * t + 1) := by rw [k1 0 (by omega), up_same]
    have y1 : σ2.2.1 98 1 = x1 + σ.2.1 93 (7 * t + 1) := by rw [k2 1 (by omega) hi1, up_ne (by omega), h1, y0]
    have y2 : 2 ≤ i → σ2.2.1 98 2 = x2 + (x1 + σ.2.1 93 (7 * t + 1)) := fun q => by rw [k2 2 (by omega) q, up_ne (by omega), h2 q, y1]
    have y3 : 3 ≤ i → σ2.2.1 98 3 = x3 + (x2 + (x1 + σ.2.1 93 (7 * t + 1))) := fun q => by rw [k2 3 (by omega) q, up_ne (by omega), h3 q, y2 (by omega)]
    have y4 : 4 ≤ i → σ2.2.1 98 4 = x4 + (x3 + (x2 + (x1 + σ.2.1 93 (7 * t + 1)))) := fun q => by rw [k2 4 (by omega) q, up_ne (by omega), h4 q, y3 (by omega)]
    obtain ⟨v, τ, e1, e2, m⟩ := s_sums52 hi1 hi4 hu hr r (t + 1) n σ2 _ _ _ _ (by omega) (by omega) (hM.tr ((Mod.L (by simp)).tr m2)) y1 y2 y3 y4
    refine ⟨v, τ, ?_, ?_, m⟩
    · show b_Lg_runningSum_14 (l_Lg_runningSum_14 n) 20 (nI i) (nI u) x1 x2 x3 x4 (nI t) (lay σ) = _
      unfold b_Lg_runningSum_14
      simp (disch := first | assumption | rfl | decide | omega) only [↓ckd_lay, ↓bd_gI, ↓bd_gL, ↓bd_pI, ↓bd_pL, ↓bd_pZ, ↓bd_now, ↓bd_next, ↓bd_ldR3, ↓bd_ldR4, ↓ap_ite, ↓ap_rt, ↓ap_lt, ↓rz_0, ↓rz_1, rz_bi, ln_0, ln_1, ln_2, ln_3, ln_4, ln_5, ln_6, ln_7, ln_8, ln_10, ln_11, ln_12, ln_13, ln_15, ln_16, ln_30, ln_60, ln_256, ln_300, ln_400, ln_500, ln_1023, ln_1024, nl_0, nl_1, nl_2, nl_3, nl_4, nl_5, nl_6, nl_7, nl_8, nl_10, nl_11, nl_12, nl_13, nl_15, nl_16, nl_30, nl_60, nl_256, nl_300, nl_400, nl_500, nl_1023, nl_1024, tn_0, tn_1, tn_2, tn_3, tn_4, tn_5, tn_6, tn_7, tn_8, tn_10, tn_11, tn_12, tn_13, tn_15, tn_16, tn_30, tn_60, tn_256, tn_300, tn_400, tn_500, tn_1023, tn_1024, nt_0, nt_1, nt_2, nt_3, nt_4, nt_5, nt_6, nt_7, nt_8, nt_10, nt_11, nt_12, nt_13, nt_15, nt_16, nt_30, nt_60, nt_256, nt_300, nt_400, nt_500, nt_1023, nt_1024, ne_0, ne_1, ne_2, ne_3, ne_4, ne_5, ne_6, ne_7, ne_8, ne_10, ne_11, ne_12, ne_13, ne_15, ne_16, ne_30, ne_60, ne_256, ne_300, ne_400, ne_500, ne_1023, ne_1024, le_nn, lt_nn, eq_nn, hq, if_false]
      rw [bd_eq (s_levelOf (by omega)), e21, na_1]
      exact e1
    · show b_Md_sums_52 (l_Md_sums_52 n) 81 (nI i) (nI u) (nI t) (lay σ') = _
      unfold b_Md_sums_52
      simp (disch := first | assumption | rfl | decide | omega) only [↓ckd_lay, ↓bd_gI, ↓bd_gL, ↓bd_pI, ↓bd_pL, ↓bd_pZ, ↓bd_now, ↓bd_next, ↓bd_ldR3, ↓bd_ldR4, ↓ap_ite, ↓ap_rt, ↓ap_lt, ↓rz_0, ↓rz_1, rz_bi, ↓gr_81_0, ↓gr_81_1, ↓gr_81_2, ↓gr_81_3, ↓gr_81_4, ↓gr_81_7, ↓gr_81_8, ↓gr_81_9, ↓gr_81_11, ↓gr_81_14, ↓gr_81_17, ↓gr_81_18, ↓gr_81_20, ↓gr_81_21, ↓gr_81_25, ↓gr_81_26, ↓gr_81_27, ↓gr_81_28, ↓gr_81_29, ↓gr_81_31, ↓gr_81_32, ↓gr_81_33, ↓gr_81_34, ↓gr_81_36, ↓gr_81_39, ln_0, ln_1, ln_2, ln_3, ln_4, ln_5, ln_6, ln_7, ln_8, ln_10, ln_11, ln_12, ln_13, ln_15, ln_16, ln_30, ln_60, ln_256, ln_300, ln_400, ln_500, ln_1023, ln_1024, nl_0, nl_1, nl_2, nl_3, nl_4, nl_5, nl_6, nl_7, nl_8, nl_10, nl_11, nl_12, nl_13, nl_15, nl_16, nl_30, nl_60, nl_256, nl_300, nl_400, nl_500, nl_1023, nl_1024, tn_0, tn_1, tn_2, tn_3, tn_4, tn_5, tn_6, tn_7, tn_8, tn_10, tn_11, tn_12, tn_13, tn_15, tn_16, tn_30, tn_60, tn_256, tn_300, tn_400, tn_500, tn_1023, tn_1024, nt_0, nt_1, nt_2, nt_3, nt_4, nt_5, nt_6, nt_7, nt_8, nt_10, nt_11, nt_12, nt_13, nt_15, nt_16, nt_30, nt_60, nt_256, nt_300, nt_400, nt_500, nt_1023, nt_1024, ne_0, ne_1, ne_2, ne_3, ne_4, ne_5, ne_6, ne_7, ne_8, ne_10, ne_11, ne_12, ne_13, ne_15, ne_16, ne_30, ne_60, ne_256, ne_300, ne_400, ne_500, ne_1023, ne_1024, le_nn, lt_nn, eq_nn, hq, if_false, na_0, na_1, na_2, na_3, na_4, na_5, na_6, na_7, na_8, na_10, na_11, na_12, na_13, na_15, na_16, na_30, na_60, na_300, an_0, an_1, an_2, an_3, an_4, an_5, an_6, an_7, an_8, an_10, an_11, an_12, an_13, an_15, an_16, an_30, an_60, an_300, nm_0, nm_1, nm_2, nm_3, nm_4, nm_5, nm_6, nm_7, nm_8, nm_10, nm_11, nm_12, nm_13, nm_15, nm_16, nm_30, nm_60, nm_300, mn_0, mn_1, mn_2, mn_3, mn_4, mn_5, mn_6, mn_7, mn_8, mn_10, mn_11, mn_12, mn_13, mn_15, mn_16, mn_30, mn_60, mn_300, nI_add, pk_mul, ↓la_93, ↓st_93, e93]
      rw [show (0 : Int32) = nI 0 from rfl, bd_stL (o := 98) rfl (by decide)]
      exact f1.trans e2
theorem s_sums32 {i u : Nat} : ∀ (r k n : Nat) (σ : SS), k + r = 5 → r < n → (∀ q, q < k → σ.2.1 98 q = 0) → ∃ τ, l_Md_sums_32 n 81 (nI i) (nI u) (nI k) (lay σ) = l_Md_sums_52 FU 81 (nI i) (nI u) (nI 0) (lay τ) ∧ Mod [98] σ τ ∧ ∀ q, q < 5 → τ.2.1 98 q = 0
  | r, k, 0, σ, h, hn, hz => by omega
  | 0, k, n + 1, σ, h, hn, hz => by
    have hq : 5 ≤ k := by omega
    refine ⟨σ, ?_, Mod.rf, fun q hq => hz q (by omega)⟩
    show b_Md_sums_32 (l_Md_sums_32 n) 81 (nI i) (nI u) (nI k) (lay σ) = _
    unfold b_Md_sums_32
    simp (disch := first | assumption | rfl | decide | omega) only [↓ckd_lay, ↓bd_gI, ↓bd_gL, ↓bd_pI, ↓bd_pL, ↓bd_pZ, ↓bd_now, ↓bd_next, ↓bd_ldR3, ↓bd_ldR4, ↓ap_ite, ↓ap_rt, ↓ap_lt, ↓rz_0, ↓rz_1, rz_bi, ln_0, ln_1, ln_2, ln_3, ln_4, ln_5, ln_6, ln_7, ln_8, ln_10, ln_11, ln_12, ln_13, ln_15, ln_16, ln_30, ln_60, ln_256, ln_300, ln_400, ln_500, ln_1023, ln_1024, nl_0, nl_1, nl_2, nl_3, nl_4, nl_5, nl_6, nl_7, nl_8, nl_10, nl_11, nl_12, nl_13, nl_15, nl_16, nl_30, nl_60, nl_256, nl_300, nl_400, nl_500, nl_1023, nl_1024, tn_0, tn_1, tn_2, tn_3, tn_4, tn_5, tn_6, tn_7, tn_8, tn_10, tn_11, tn_12, tn_13, tn_15, tn_16, tn_30, tn_60, tn_256, tn_300, tn_400, tn_500, tn_1023, tn_1024, nt_0, nt_1, nt_2, nt_3, nt_4, nt_5, nt_6, nt_7, nt_8, nt_10, nt_11, nt_12, nt_13, nt_15, nt_16, nt_30, nt_60, nt_256, nt_300, nt_400, nt_500, nt_1023, nt_1024, ne_0, ne_1, ne_2, ne_3, ne_4, ne_5, ne_6, ne_7, ne_8, ne_10, ne_11, ne_12, ne_13, ne_15, ne_16, ne_30, ne_60, ne_256, ne_300, ne_400, ne_500, ne_1023, ne_1024, le_nn, lt_nn, eq_nn, hq, if_true]
    rfl
  | r + 1, k, n + 1, σ, h, hn, hz => by
    have hq : ¬ 5 ≤ k := by omega
    obtain ⟨τ, e, m, d⟩ := s_sums32 (i := i) (u := u) r (k + 1) n (sL σ 98 (va_up (σ.2.1 98) k 0)) (by omega) (by omega) (fun q hq => by
      rw [sL_same]
      by_cases q1 : q = k
      · rw [q1, up_same]
      · rw [up_ne q1]; exact hz q (by omega))
    refine ⟨τ, ?_, (Mod.L (by simp)).tr m, d⟩
    show b_Md_sums_32 (l_Md_sums_32 n) 81 (nI i) (nI u) (nI k) (lay σ) = _
    unfold b_Md_sums_32
    simp (disch := first | assumption | rfl | decide | omega) only [↓ckd_lay, ↓bd_gI, ↓bd_gL, ↓bd_pI, ↓bd_pL, ↓bd_pZ, ↓bd_now, ↓bd_next, ↓bd_ldR3, ↓bd_ldR4, ↓ap_ite, ↓ap_rt, ↓ap_lt, ↓rz_0, ↓rz_1, rz_bi, ↓gr_81_0, ↓gr_81_1, ↓gr_81_2, ↓gr_81_3, ↓gr_81_4, ↓gr_81_7, ↓gr_81_8, ↓gr_81_9, ↓gr_81_11, ↓gr_81_14, ↓gr_81_17, ↓gr_81_18, ↓gr_81_20, ↓gr_81_21, ↓gr_81_25, ↓gr_81_26, ↓gr_81_27, ↓gr_81_28, ↓gr_81_29, ↓gr_81_31, ↓gr_81_32, ↓gr_81_33, ↓gr_81_34, ↓gr_81_36, ↓gr_81_39, ln_0, ln_1, ln_2, ln_3, ln_4, ln_5, ln_6, ln_7, ln_8, ln_10, ln_11, ln_12, ln_13, ln_15, ln_16, ln_30, ln_60, ln_256, ln_300, ln_400, ln_500, ln_1023, ln_1024, nl_0, nl_1, nl_2, nl_3, nl_4, nl_5, nl_6, nl_7, nl_8, nl_10, nl_11, nl_12, nl_13, nl_15, nl_16, nl_30, nl_60, nl_256, nl_300, nl_400, nl_500, nl_1023, nl_1024, tn_0, tn_1, tn_2, tn_3, tn_4, tn_5, tn_6, tn_7, tn_8, tn_10, tn_11, tn_12, tn_13, tn_15, tn_16, tn_30, tn_60, tn_256, tn_300, tn_400, tn_500, tn_1023, tn_1024, nt_0, nt_1, nt_2, nt_3, nt_4, nt_5, nt_6, nt_7, nt_8, nt_10, nt_11, nt_12, nt_13, nt_15, nt_16, nt_30, nt_60, nt_256, nt_300, nt_400, nt_500, nt_1023, nt_1024, ne_0, ne_1, ne_2, ne_3, ne_4, ne_5, ne_6, ne_7, ne_8, ne_10, ne_11, ne_12, ne_13, ne_15, ne_16, ne_30, ne_60, ne_256, ne_300, ne_400, ne_500, ne_1023, ne_1024, le_nn, lt_nn, eq_nn, hq, if_false, ↓la_98, ↓st_98, na_1]
    exact e
theorem d_sums {σ : SS} {i k : Int32} (h : Rel σ) : Duo (m_Ob_sums 1 i k) (m_Md_sums 81 i k) σ := by
  obtain ⟨⟨P, a, b, T, N, sd, fs, hC, -⟩, -⟩ := id h
  obtain ⟨-, -, -, -, -, ⟨hT3, t1, t2⟩, -, -, hr⟩ := hC
  have a1 : (i < 1) ↔ ¬ (1 ≤ i.toInt) := by
    rw [Int32.lt_iff_toInt_lt, show (1 : Int32).toInt = 1 from rfl]; omega
  have a2 : ((4 : Int32) < i) ↔ ¬ (i.toInt ≤ 4) := by
    rw [Int32.lt_iff_toInt_lt, show (4 : Int32).toInt = 4 from rfl]; omega
  have a3 : ((1 : Int64) ≤ i.toInt64 ∧ i.toInt64 ≤ 4) ↔ (1 ≤ i.toInt ∧ i.toInt ≤ 4) := by
    simp only [Int64.le_iff_toInt_le, Int32.toInt_toInt64, show (1 : Int64).toInt = 1 from rfl, show (4 : Int64).toInt = 4 from rfl]
  by_cases h1 : 1 ≤ i.toInt ∧ i.toInt ≤ 4
  · have n1 : ¬ i < 1 := fun q => (a1.mp q) h1.1
    have n2 : ¬ (4 : Int32) < i := fun q => (a2.mp q) h1.2
    by_cases hk : 0 ≤ k ∧ k < nI T
    · obtain ⟨u, hu, rfl⟩ := nI_ex (by omega) hk.1 hk.2
      obtain ⟨j, hj, rfl⟩ := nI_ex (n := 5) (x := i) (by omega) (by rw [Int32.le_iff_toInt_le, show (0 : Int32).toInt = 0 from rfl]; omega) (by rw [Int32.lt_iff_toInt_lt, show (nI 5).toInt = 5 from rfl]; omega)
      rw [nI_toInt (by omega)] at h1
      obtain ⟨σ1, e1, m1, z1⟩ := s_sums32 (i := j) (u := u) 5 0 FU σ (by omega) (by unfold FU; omega) (fun q hq => by omega)
      obtain ⟨v, τ, f1, f2, m⟩ := s_sums52 (σ := σ) (i := j) (u := u) (by omega) (by omega) (by omega) (fun t ht => (hr t (by omega)).2 1 (by omega)) (u + 1) 0 FU σ1 0 0 0 0 (by omega) (by unfold FU; omega) m1 (z1 1 (by omega)) (fun _ => z1 2 (by omega)) (fun _ => z1 3 (by omega)) (fun _ => z1 4 (by omega))
      refine ⟨v, σ, τ, ?_, ?_, h.mod m (by decide)⟩
      · unfold m_Ob_sums
        rw [ckd_lay (ci := 8) (o := 1) rfl (by decide), ap_ite, if_neg n1, ap_ite, if_neg n2]
        simp (disch := first | assumption | rfl | decide | omega) only [↓ckd_lay, ↓bd_gI, ↓bd_gL, ↓bd_pI, ↓bd_pL, ↓bd_pZ, ↓bd_now, ↓bd_next, ↓bd_ldR3, ↓bd_ldR4, ↓ap_ite, ↓ap_rt, ↓ap_lt, ↓rz_0, ↓rz_1, rz_bi, ↓gr_1_0, ↓gr_1_1, ↓gr_1_2, ↓gr_1_3, ↓gr_1_4, ↓gr_1_5, ↓gr_1_6, ↓gr_15_0, ↓gr_15_1, ↓gr_15_2, ↓gr_15_3, ↓gr_20_0, ↓gr_20_1, ↓gr_23_0, ↓gr_23_1, ↓gr_23_2, ↓gr_27_0, ↓gr_27_1, ↓gr_27_2, ↓gr_29_0, ↓gr_29_1, ↓gr_29_2, ↓gr_29_3, ↓gr_29_4, ↓gr_33_0, ↓gr_33_1, ↓gr_now, ↓gr_next]
        rw [bd_eq (s_hasStep t1), ap_ite, if_neg (by rw [bi_0]; exact fun q => q hk)]
        have e : m_Lg_runningSum 20 (nI j) (nI u) (lay σ) = some (v, lay σ) := by
          unfold m_Lg_runningSum
          rw [ckd_lay (ci := 1) (o := 20) rfl (by decide)]
          exact f1
        simp (disch := first | assumption | rfl | decide | omega) only [↓ckd_lay, ↓bd_gI, ↓bd_gL, ↓bd_pI, ↓bd_pL, ↓bd_pZ, ↓bd_now, ↓bd_next, ↓bd_ldR3, ↓bd_ldR4, ↓ap_ite, ↓ap_rt, ↓ap_lt, ↓rz_0, ↓rz_1, rz_bi, ↓gr_1_0, ↓gr_1_1, ↓gr_1_2, ↓gr_1_3, ↓gr_1_4, ↓gr_1_5, ↓gr_1_6, ↓gr_15_0, ↓gr_15_1, ↓gr_15_2, ↓gr_15_3, ↓gr_20_0, ↓gr_20_1, ↓gr_23_0, ↓gr_23_1, ↓gr_23_2, ↓gr_27_0, ↓gr_27_1, ↓gr_27_2, ↓gr_29_0, ↓gr_29_1, ↓gr_29_2, ↓gr_29_3, ↓gr_29_4, ↓gr_33_0, ↓gr_33_1, ↓gr_now, ↓gr_next]
        rw [bd_eq e, ap_rt]
      · unfold m_Md_sums
        rw [ckd_lay (ci := 9) (o := 81) rfl (by decide), q_in, ap_ite, if_neg (by rw [bi_0, a3, nI_toInt (by omega)]; exact fun q => q h1)]
        simp (disch := first | assumption | rfl | decide | omega) only [↓ckd_lay, ↓bd_gI, ↓bd_gL, ↓bd_pI, ↓bd_pL, ↓bd_pZ, ↓bd_now, ↓bd_next, ↓bd_ldR3, ↓bd_ldR4, ↓ap_ite, ↓ap_rt, ↓ap_lt, ↓rz_0, ↓rz_1, rz_bi, ↓gr_81_0, ↓gr_81_1, ↓gr_81_2, ↓gr_81_3, ↓gr_81_4, ↓gr_81_7, ↓gr_81_8, ↓gr_81_9, ↓gr_81_11, ↓gr_81_14, ↓gr_81_17, ↓gr_81_18, ↓gr_81_20, ↓gr_81_21, ↓gr_81_25, ↓gr_81_26, ↓gr_81_27, ↓gr_81_28, ↓gr_81_29, ↓gr_81_31, ↓gr_81_32, ↓gr_81_33, ↓gr_81_34, ↓gr_81_36, ↓gr_81_39, t2, ↓q_inN, bi_0, hk, and_self, not_true_eq_false, if_false]
        exact e1.trans f2
    · refine Duo.same h 0 ?_ ?_
      · unfold m_Ob_sums
        rw [ckd_lay (ci := 8) (o := 1) rfl (by decide), ap_ite, if_neg n1, ap_ite, if_neg n2]
        simp (disch := first | assumption | rfl | decide | omega) only [↓ckd_lay, ↓bd_gI, ↓bd_gL, ↓bd_pI, ↓bd_pL, ↓bd_pZ, ↓bd_now, ↓bd_next, ↓bd_ldR3, ↓bd_ldR4, ↓ap_ite, ↓ap_rt, ↓ap_lt, ↓rz_0, ↓rz_1, rz_bi, ↓gr_1_0, ↓gr_1_1, ↓gr_1_2, ↓gr_1_3, ↓gr_1_4, ↓gr_1_5, ↓gr_1_6, ↓gr_15_0, ↓gr_15_1, ↓gr_15_2, ↓gr_15_3, ↓gr_20_0, ↓gr_20_1, ↓gr_23_0, ↓gr_23_1, ↓gr_23_2, ↓gr_27_0, ↓gr_27_1, ↓gr_27_2, ↓gr_29_0, ↓gr_29_1, ↓gr_29_2, ↓gr_29_3, ↓gr_29_4, ↓gr_33_0, ↓gr_33_1, ↓gr_now, ↓gr_next]
        rw [bd_eq (s_hasStep t1), ap_ite, if_pos (by rw [bi_0]; exact hk), ap_rt]
      · unfold m_Md_sums
        rw [ckd_lay (ci := 9) (o := 81) rfl (by decide), q_in, ap_ite, if_neg (by rw [bi_0, a3]; exact fun q => q h1)]
        simp (disch := first | assumption | rfl | decide | omega) only [↓ckd_lay, ↓bd_gI, ↓bd_gL, ↓bd_pI, ↓bd_pL, ↓bd_pZ, ↓bd_now, ↓bd_next, ↓bd_ldR3, ↓bd_ldR4, ↓ap_ite, ↓ap_rt, ↓ap_lt, ↓rz_0, ↓rz_1, rz_bi, ↓gr_81_0, ↓gr_81_1, ↓gr_81_2, ↓gr_81_3, ↓gr_81_4, ↓gr_81_7, ↓gr_81_8, ↓gr_81_9, ↓gr_81_11, ↓gr_81_14, ↓gr_81_17, ↓gr_81_18, ↓gr_81_20, ↓gr_81_21, ↓gr_81_25, ↓gr_81_26, ↓gr_81_27, ↓gr_81_28, ↓gr_81_29, ↓gr_81_31, ↓gr_81_32, ↓gr_81_33, ↓gr_81_34, ↓gr_81_36, ↓gr_81_39, t2, ↓q_inN, bi_0, hk, not_false_eq_true, if_true]
  · refine Duo.same h 0 ?_ ?_
    · unfold m_Ob_sums
      rw [ckd_lay (ci := 8) (o := 1) rfl (by decide), ap_ite]
      by_cases q1 : i < 1
      · rw [if_pos q1, ap_rt]
      · rw [if_neg q1, ap_ite, if_pos (a2.mpr (by rw [a1] at q1; omega)), ap_rt]
    · unfold m_Md_sums
      rw [ckd_lay (ci := 9) (o := 81) rfl (by decide), q_in, ap_ite, if_pos (by rw [bi_0, a3]; exact h1), ap_rt]
theorem s_wouldRise {σ : SS} {P : SH} {j : Nat} {v : Int64} (c : CShp σ P) (h16 : P.2.2.2.2.2.1 ≤ 16) (hj : j < P.2.2.2.2.2.1) : m_Sp_wouldRise 15 (nI j) v (lay σ) = some (bi ((j = 0 ∨ ¬ v ≤ P.2.2.2.2.1 (j - 1)) ∧ (j + 1 = P.2.2.2.2.2.1 ∨ ¬ P.2.2.2.2.1 (j + 1) ≤ v)), lay σ) := by
  have e17 : m_Sp_wouldRise_17 15 (nI j) v (lay σ) = some (bi (j + 1 = P.2.2.2.2.2.1 ∨ ¬ P.2.2.2.2.1 (j + 1) ≤ v), lay σ) := by
    unfold m_Sp_wouldRise_17
    have es : nI P.2.2.2.2.2.1 - 1 = nI (P.2.2.2.2.2.1 - 1) := ns_1 _ (by omega)
    by_cases q : j + 1 = P.2.2.2.2.2.1
    · have q' : j = P.2.2.2.2.2.1 - 1 := by omega
      simp (disch := first | assumption | rfl | decide | omega) only [↓ckd_lay, ↓bd_gI, ↓bd_gL, ↓bd_pI, ↓bd_pL, ↓bd_pZ, ↓bd_now, ↓bd_next, ↓bd_ldR3, ↓bd_ldR4, ↓ap_ite, ↓ap_rt, ↓ap_lt, ↓rz_0, ↓rz_1, rz_bi, ↓gr_1_0, ↓gr_1_1, ↓gr_1_2, ↓gr_1_3, ↓gr_1_4, ↓gr_1_5, ↓gr_1_6, ↓gr_15_0, ↓gr_15_1, ↓gr_15_2, ↓gr_15_3, ↓gr_20_0, ↓gr_20_1, ↓gr_23_0, ↓gr_23_1, ↓gr_23_2, ↓gr_27_0, ↓gr_27_1, ↓gr_27_2, ↓gr_29_0, ↓gr_29_1, ↓gr_29_2, ↓gr_29_3, ↓gr_29_4, ↓gr_33_0, ↓gr_33_1, ↓gr_now, ↓gr_next, c.2.2.2.2.2.1, es, ln_0, ln_1, ln_2, ln_3, ln_4, ln_5, ln_6, ln_7, ln_8, ln_10, ln_11, ln_12, ln_13, ln_15, ln_16, ln_30, ln_60, ln_256, ln_300, ln_400, ln_500, ln_1023, ln_1024, nl_0, nl_1, nl_2, nl_3, nl_4, nl_5, nl_6, nl_7, nl_8, nl_10, nl_11, nl_12, nl_13, nl_15, nl_16, nl_30, nl_60, nl_256, nl_300, nl_400, nl_500, nl_1023, nl_1024, tn_0, tn_1, tn_2, tn_3, tn_4, tn_5, tn_6, tn_7, tn_8, tn_10, tn_11, tn_12, tn_13, tn_15, tn_16, tn_30, tn_60, tn_256, tn_300, tn_400, tn_500, tn_1023, tn_1024, nt_0, nt_1, nt_2, nt_3, nt_4, nt_5, nt_6, nt_7, nt_8, nt_10, nt_11, nt_12, nt_13, nt_15, nt_16, nt_30, nt_60, nt_256, nt_300, nt_400, nt_500, nt_1023, nt_1024, ne_0, ne_1, ne_2, ne_3, ne_4, ne_5, ne_6, ne_7, ne_8, ne_10, ne_11, ne_12, ne_13, ne_15, ne_16, ne_30, ne_60, ne_256, ne_300, ne_400, ne_500, ne_1023, ne_1024, le_nn, lt_nn, eq_nn, ← q', if_true]
      unfold bi
      rw [if_pos (Or.inl q)]
    · have q' : ¬ j = P.2.2.2.2.2.1 - 1 := by omega
      simp (disch := first | assumption | rfl | decide | omega) only [↓ckd_lay, ↓bd_gI, ↓bd_gL, ↓bd_pI, ↓bd_pL, ↓bd_pZ, ↓bd_now, ↓bd_next, ↓bd_ldR3, ↓bd_ldR4, ↓ap_ite, ↓ap_rt, ↓ap_lt, ↓rz_0, ↓rz_1, rz_bi, ↓gr_1_0, ↓gr_1_1, ↓gr_1_2, ↓gr_1_3, ↓gr_1_4, ↓gr_1_5, ↓gr_1_6, ↓gr_15_0, ↓gr_15_1, ↓gr_15_2, ↓gr_15_3, ↓gr_20_0, ↓gr_20_1, ↓gr_23_0, ↓gr_23_1, ↓gr_23_2, ↓gr_27_0, ↓gr_27_1, ↓gr_27_2, ↓gr_29_0, ↓gr_29_1, ↓gr_29_2, ↓gr_29_3, ↓gr_29_4, ↓gr_33_0, ↓gr_33_1, ↓gr_now, ↓gr_next, c.2.2.2.2.2.1, es, ln_0, ln_1, ln_2, ln_3, ln_4, ln_5, ln_6, ln_7, ln_8, ln_10, ln_11, ln_12, ln_13, ln_15, ln_16, ln_30, ln_60, ln_256, ln_300, ln_400, ln_500, ln_1023, ln_1024, nl_0, nl_1, nl_2, nl_3, nl_4, nl_5, nl_6, nl_7, nl_8, nl_10, nl_11, nl_12, nl_13, nl_15, nl_16, nl_30, nl_60, nl_256, nl_300, nl_400, nl_500, nl_1023, nl_1024, tn_0, tn_1, tn_2, tn_3, tn_4, tn_5, tn_6, tn_7, tn_8, tn_10, tn_11, tn_12, tn_13, tn_15, tn_16, tn_30, tn_60, tn_256, tn_300, tn_400, tn_500, tn_1023, tn_1024, nt_0, nt_1, nt_2, nt_3, nt_4, nt_5, nt_6, nt_7, nt_8, nt_10, nt_11, nt_12, nt_13, nt_15, nt_16, nt_30, nt_60, nt_256, nt_300, nt_400, nt_500, nt_1023, nt_1024, ne_0, ne_1, ne_2, ne_3, ne_4, ne_5, ne_6, ne_7, ne_8, ne_10, ne_11, ne_12, ne_13, ne_15, ne_16, ne_30, ne_60, ne_256, ne_300, ne_400, ne_500, ne_1023, ne_1024, le_nn, lt_nn, eq_nn, q', if_false, na_1, ↓la_19, ↓st_19, c.2.2.2.2.1]
      unfold bi
      by_cases q2 : P.2.2.2.2.1 (j + 1) ≤ v
      · rw [if_pos q2, if_neg (fun z => z.elim q (fun w => w q2))]
      · rw [if_neg q2, if_pos (Or.inr q2)]
  unfold m_Sp_wouldRise
  by_cases h0 : j = 0
  · subst h0
    rw [ckd_lay (ci := 5) (o := 15) rfl (by decide), ap_ite, if_pos (by rfl), e17]
    congr 2
    exact bi_congr ⟨fun z => ⟨Or.inl rfl, z⟩, fun z => z.2⟩
  · simp (disch := first | assumption | rfl | decide | omega) only [↓ckd_lay, ↓bd_gI, ↓bd_gL, ↓bd_pI, ↓bd_pL, ↓bd_pZ, ↓bd_now, ↓bd_next, ↓bd_ldR3, ↓bd_ldR4, ↓ap_ite, ↓ap_rt, ↓ap_lt, ↓rz_0, ↓rz_1, rz_bi, ↓gr_1_0, ↓gr_1_1, ↓gr_1_2, ↓gr_1_3, ↓gr_1_4, ↓gr_1_5, ↓gr_1_6, ↓gr_15_0, ↓gr_15_1, ↓gr_15_2, ↓gr_15_3, ↓gr_20_0, ↓gr_20_1, ↓gr_23_0, ↓gr_23_1, ↓gr_23_2, ↓gr_27_0, ↓gr_27_1, ↓gr_27_2, ↓gr_29_0, ↓gr_29_1, ↓gr_29_2, ↓gr_29_3, ↓gr_29_4, ↓gr_33_0, ↓gr_33_1, ↓gr_now, ↓gr_next, ln_0, ln_1, ln_2, ln_3, ln_4, ln_5, ln_6, ln_7, ln_8, ln_10, ln_11, ln_12, ln_13, ln_15, ln_16, ln_30, ln_60, ln_256, ln_300, ln_400, ln_500, ln_1023, ln_1024, nl_0, nl_1, nl_2, nl_3, nl_4, nl_5, nl_6, nl_7, nl_8, nl_10, nl_11, nl_12, nl_13, nl_15, nl_16, nl_30, nl_60, nl_256, nl_300, nl_400, nl_500, nl_1023, nl_1024, tn_0, tn_1, tn_2, tn_3, tn_4, tn_5, tn_6, tn_7, tn_8, tn_10, tn_11, tn_12, tn_13, tn_15, tn_16, tn_30, tn_60, tn_256, tn_300, tn_400, tn_500, tn_1023, tn_1024, nt_0, nt_1, nt_2, nt_3, nt_4, nt_5, nt_6, nt_7, nt_8, nt_10, nt_11, nt_12, nt_13, nt_15, nt_16, nt_30, nt_60, nt_256, nt_300, nt_400, nt_500, nt_1023, nt_1024, ne_0, ne_1, ne_2, ne_3, ne_4, ne_5, ne_6, ne_7, ne_8, ne_10, ne_11, ne_12, ne_13, ne_15, ne_16, ne_30, ne_60, ne_256, ne_300, ne_400, ne_500, ne_1023, ne_1024, le_nn, lt_nn, eq_nn, h0, if_false, ns_1, ↓la_19, ↓st_19, c.2.2.2.2.1, e17]
    unfold bi
    by_cases q : v ≤ P.2.2.2.2.1 (j - 1)
    · rw [if_pos q, if_neg (fun z => z.1.elim (by first | exact h0 | exact id) (fun w => w q))]
    · rw [if_neg q]
      congr 2
      exact bi_congr ⟨fun z => ⟨Or.inr q, z⟩, fun z => z.2⟩
theorem d_level {σ : SS} {i : Int32} {v : Int64} (h : Rel σ) : Duo (m_Ob_level 1 i v) (m_Md_level 81 i v) σ := by
  obtain ⟨⟨P, fs, a, b, S, c, r, p, z⟩, rs⟩ := h.cut2
  obtain ⟨h1, h2, h5, h7, h9, h11, h15, hm, hr, l2⟩ := id c
  obtain ⟨g2, g5, g7, g9, g11, g15, gm, gr, gl⟩ := id r
  have hp2 := p.2.1
  have h16 := p.1.1.1.2.2.1
  by_cases hi : 0 ≤ i ∧ i < nI P.2.2.2.2.2.1
  · obtain ⟨j, hj, rfl⟩ := nI_ex (by omega) hi.1 hi.2
    by_cases hv : smpB v = true
    · have pre1 : ∀ υ : SS, CShp υ P → m_Ob_level 1 (nI j) v (lay υ) = (if ¬ ((j = 0 ∨ ¬ v ≤ P.2.2.2.2.1 (j - 1)) ∧ (j + 1 = P.2.2.2.2.2.1 ∨ ¬ P.2.2.2.2.1 (j + 1) ≤ v)) then some (-2, lay υ) else if υ.1 (fa 20 2) 0 ≤ 0 then some (1, lay (sL υ 19 (va_up (υ.2.1 19) j v))) else some (-3, lay υ)) := by
        intro υ hc
        unfold m_Ob_level
        simp (disch := first | assumption | rfl | decide | omega) only [↓ckd_lay, ↓bd_gI, ↓bd_gL, ↓bd_pI, ↓bd_pL, ↓bd_pZ, ↓bd_now, ↓bd_next, ↓bd_ldR3, ↓bd_ldR4, ↓ap_ite, ↓ap_rt, ↓ap_lt, ↓rz_0, ↓rz_1, rz_bi, ↓gr_1_0, ↓gr_1_1, ↓gr_1_2, ↓gr_1_3, ↓gr_1_4, ↓gr_1_5, ↓gr_1_6, ↓gr_15_0, ↓gr_15_1, ↓gr_15_2, ↓gr_15_3, ↓gr_20_0, ↓gr_20_1, ↓gr_23_0, ↓gr_23_1, ↓gr_23_2, ↓gr_27_0, ↓gr_27_1, ↓gr_27_2, ↓gr_29_0, ↓gr_29_1, ↓gr_29_2, ↓gr_29_3, ↓gr_29_4, ↓gr_33_0, ↓gr_33_1, ↓gr_now, ↓gr_next]
        rw [bd_eq (s_hasLevel hc.2.2.2.2.2.1), ap_ite, if_neg (by rw [bi_0]; exact fun q => q hi), q_isSample, ap_ite, if_neg (by rw [bi_0]; exact fun q => q hv)]
        simp (disch := first | assumption | rfl | decide | omega) only [↓ckd_lay, ↓bd_gI, ↓bd_gL, ↓bd_pI, ↓bd_pL, ↓bd_pZ, ↓bd_now, ↓bd_next, ↓bd_ldR3, ↓bd_ldR4, ↓ap_ite, ↓ap_rt, ↓ap_lt, ↓rz_0, ↓rz_1, rz_bi, ↓gr_1_0, ↓gr_1_1, ↓gr_1_2, ↓gr_1_3, ↓gr_1_4, ↓gr_1_5, ↓gr_1_6, ↓gr_15_0, ↓gr_15_1, ↓gr_15_2, ↓gr_15_3, ↓gr_20_0, ↓gr_20_1, ↓gr_23_0, ↓gr_23_1, ↓gr_23_2, ↓gr_27_0, ↓gr_27_1, ↓gr_27_2, ↓gr_29_0, ↓gr_29_1, ↓gr_29_2, ↓gr_29_3, ↓gr_29_4, ↓gr_33_0, ↓gr_33_1, ↓gr_now, ↓gr_next]
        rw [bd_eq (s_wouldRise hc h16 hj)]
        simp (disch := first | assumption | rfl | decide | omega) only [↓ckd_lay, ↓bd_gI, ↓bd_gL, ↓bd_pI, ↓bd_pL, ↓bd_pZ, ↓bd_now, ↓bd_next, ↓bd_ldR3, ↓bd_ldR4, ↓ap_ite, ↓ap_rt, ↓ap_lt, ↓rz_0, ↓rz_1, rz_bi, ↓gr_1_0, ↓gr_1_1, ↓gr_1_2, ↓gr_1_3, ↓gr_1_4, ↓gr_1_5, ↓gr_1_6, ↓gr_15_0, ↓gr_15_1, ↓gr_15_2, ↓gr_15_3, ↓gr_20_0, ↓gr_20_1, ↓gr_23_0, ↓gr_23_1, ↓gr_23_2, ↓gr_27_0, ↓gr_27_1, ↓gr_27_2, ↓gr_29_0, ↓gr_29_1, ↓gr_29_2, ↓gr_29_3, ↓gr_29_4, ↓gr_33_0, ↓gr_33_1, ↓gr_now, ↓gr_next, bi_0, ↓la_19, ↓st_19]
      have pre2 : ∀ υ : SS, RShp υ P → m_Md_level 81 (nI j) v (lay υ) = (if ¬ ((j = 0 ∨ ¬ v ≤ P.2.2.2.2.1 (j - 1)) ∧ (j + 1 = P.2.2.2.2.2.1 ∨ ¬ P.2.2.2.2.1 (j + 1) ≤ v)) then some (-2, lay υ) else if υ.1 (fa 81 16) 0 ≤ 0 then some (1, lay (sL υ 90 (va_up (υ.2.1 90) j v))) else some (-3, lay υ)) := by
        intro υ hc
        have e66 : m_Md_level_66 81 (nI j) v (lay υ) = if υ.1 (fa 81 16) 0 ≤ 0 then some (1, lay (sL υ 90 (va_up (υ.2.1 90) j v))) else some (-3, lay υ) := by
          unfold m_Md_level_66
          simp (disch := first | assumption | rfl | decide | omega) only [↓ckd_lay, ↓bd_gI, ↓bd_gL, ↓bd_pI, ↓bd_pL, ↓bd_pZ, ↓bd_now, ↓bd_next, ↓bd_ldR3, ↓bd_ldR4, ↓ap_ite, ↓ap_rt, ↓ap_lt, ↓rz_0, ↓rz_1, rz_bi, ↓gr_81_0, ↓gr_81_1, ↓gr_81_2, ↓gr_81_3, ↓gr_81_4, ↓gr_81_7, ↓gr_81_8, ↓gr_81_9, ↓gr_81_11, ↓gr_81_14, ↓gr_81_17, ↓gr_81_18, ↓gr_81_20, ↓gr_81_21, ↓gr_81_25, ↓gr_81_26, ↓gr_81_27, ↓gr_81_28, ↓gr_81_29, ↓gr_81_31, ↓gr_81_32, ↓gr_81_33, ↓gr_81_34, ↓gr_81_36, ↓gr_81_39, ↓la_90, ↓st_90]
        have e40 : m_Md_level_40 81 (nI j) v (lay υ) = if (j + 1 = P.2.2.2.2.2.1 ∨ ¬ P.2.2.2.2.1 (j + 1) ≤ v) then m_Md_level_66 81 (nI j) v (lay υ) else some (-2, lay υ) := by
          unfold m_Md_level_40
          by_cases q : j + 1 = P.2.2.2.2.2.1
          · have q' : P.2.2.2.2.2.1 ≤ j + 1 := by omega
            simp (disch := first | assumption | rfl | decide | omega) only [↓ckd_lay, ↓bd_gI, ↓bd_gL, ↓bd_pI, ↓bd_pL, ↓bd_pZ, ↓bd_now, ↓bd_next, ↓bd_ldR3, ↓bd_ldR4, ↓ap_ite, ↓ap_rt, ↓ap_lt, ↓rz_0, ↓rz_1, rz_bi, ↓gr_81_0, ↓gr_81_1, ↓gr_81_2, ↓gr_81_3, ↓gr_81_4, ↓gr_81_7, ↓gr_81_8, ↓gr_81_9, ↓gr_81_11, ↓gr_81_14, ↓gr_81_17, ↓gr_81_18, ↓gr_81_20, ↓gr_81_21, ↓gr_81_25, ↓gr_81_26, ↓gr_81_27, ↓gr_81_28, ↓gr_81_29, ↓gr_81_31, ↓gr_81_32, ↓gr_81_33, ↓gr_81_34, ↓gr_81_36, ↓gr_81_39, hc.2.2.2.2.2.1, na_1, ln_0, ln_1, ln_2, ln_3, ln_4, ln_5, ln_6, ln_7, ln_8, ln_10, ln_11, ln_12, ln_13, ln_15, ln_16, ln_30, ln_60, ln_256, ln_300, ln_400, ln_500, ln_1023, ln_1024, nl_0, nl_1, nl_2, nl_3, nl_4, nl_5, nl_6, nl_7, nl_8, nl_10, nl_11, nl_12, nl_13, nl_15, nl_16, nl_30, nl_60, nl_256, nl_300, nl_400, nl_500, nl_1023, nl_1024, tn_0, tn_1, tn_2, tn_3, tn_4, tn_5, tn_6, tn_7, tn_8, tn_10, tn_11, tn_12, tn_13, tn_15, tn_16, tn_30, tn_60, tn_256, tn_300, tn_400, tn_500, tn_1023, tn_1024, nt_0, nt_1, nt_2, nt_3, nt_4, nt_5, nt_6, nt_7, nt_8, nt_10, nt_11, nt_12, nt_13, nt_15, nt_16, nt_30, nt_60, nt_256, nt_300, nt_400, nt_500, nt_1023, nt_1024, ne_0, ne_1, ne_2, ne_3, ne_4, ne_5, ne_6, ne_7, ne_8, ne_10, ne_11, ne_12, ne_13, ne_15, ne_16, ne_30, ne_60, ne_256, ne_300, ne_400, ne_500, ne_1023, ne_1024, le_nn, lt_nn, eq_nn, q', if_true]
            rw [if_pos (Or.inl q)]
          · have q' : ¬ P.2.2.2.2.2.1 ≤ j + 1 := by omega
            simp (disch := first | assumption | rfl | decide | omega) only [↓ckd_lay, ↓bd_gI, ↓bd_gL, ↓bd_pI, ↓bd_pL, ↓bd_pZ, ↓bd_now, ↓bd_next, ↓bd_ldR3, ↓bd_ldR4, ↓ap_ite, ↓ap_rt, ↓ap_lt, ↓rz_0, ↓rz_1, rz_bi, ↓gr_81_0, ↓gr_81_1, ↓gr_81_2, ↓gr_81_3, ↓gr_81_4, ↓gr_81_7, ↓gr_81_8, ↓gr_81_9, ↓gr_81_11, ↓gr_81_14, ↓gr_81_17, ↓gr_81_18, ↓gr_81_20, ↓gr_81_21, ↓gr_81_25, ↓gr_81_26, ↓gr_81_27, ↓gr_81_28, ↓gr_81_29, ↓gr_81_31, ↓gr_81_32, ↓gr_81_33, ↓gr_81_34, ↓gr_81_36, ↓gr_81_39, hc.2.2.2.2.2.1, na_1, ln_0, ln_1, ln_2, ln_3, ln_4, ln_5, ln_6, ln_7, ln_8, ln_10, ln_11, ln_12, ln_13, ln_15, ln_16, ln_30, ln_60, ln_256, ln_300, ln_400, ln_500, ln_1023, ln_1024, nl_0, nl_1, nl_2, nl_3, nl_4, nl_5, nl_6, nl_7, nl_8, nl_10, nl_11, nl_12, nl_13, nl_15, nl_16, nl_30, nl_60, nl_256, nl_300, nl_400, nl_500, nl_1023, nl_1024, tn_0, tn_1, tn_2, tn_3, tn_4, tn_5, tn_6, tn_7, tn_8, tn_10, tn_11, tn_12, tn_13, tn_15, tn_16, tn_30, tn_60, tn_256, tn_300, tn_400, tn_500, tn_1023, tn_1024, nt_0, nt_1, nt_2, nt_3, nt_4, nt_5, nt_6, nt_7, nt_8, nt_10, nt_11, nt_12, nt_13, nt_15, nt_16, nt_30, nt_60, nt_256, nt_300, nt_400, nt_500, nt_1023, nt_1024, ne_0, ne_1, ne_2, ne_3, ne_4, ne_5, ne_6, ne_7, ne_8, ne_10, ne_11, ne_12, ne_13, ne_15, ne_16, ne_30, ne_60, ne_256, ne_300, ne_400, ne_500, ne_1023, ne_1024, le_nn, lt_nn, eq_nn, q', if_false, ↓la_90, ↓st_90, hc.2.2.2.2.1]
            by_cases q2 : P.2.2.2.2.1 (j + 1) ≤ v
            · rw [if_neg (by rw [Int64.not_lt]; exact q2), if_neg (fun z => z.elim q (fun w => w q2))]
            · rw [if_pos (by rw [← Int64.not_le]; exact q2), if_pos (Or.inr q2)]
        unfold m_Md_level
        simp (disch := first | assumption | rfl | decide | omega) only [↓ckd_lay, ↓bd_gI, ↓bd_gL, ↓bd_pI, ↓bd_pL, ↓bd_pZ, ↓bd_now, ↓bd_next, ↓bd_ldR3, ↓bd_ldR4, ↓ap_ite, ↓ap_rt, ↓ap_lt, ↓rz_0, ↓rz_1, rz_bi, ↓gr_81_0, ↓gr_81_1, ↓gr_81_2, ↓gr_81_3, ↓gr_81_4, ↓gr_81_7, ↓gr_81_8, ↓gr_81_9, ↓gr_81_11, ↓gr_81_14, ↓gr_81_17, ↓gr_81_18, ↓gr_81_20, ↓gr_81_21, ↓gr_81_25, ↓gr_81_26, ↓gr_81_27, ↓gr_81_28, ↓gr_81_29, ↓gr_81_31, ↓gr_81_32, ↓gr_81_33, ↓gr_81_34, ↓gr_81_36, ↓gr_81_39, hc.2.2.2.2.2.1, ↓q_inN, bi_0, hi, and_self, not_true_eq_false, if_false]
        rw [q_isSampleM, if_neg (by rw [bi_0]; exact fun q => q hv), ap_ite, e40, e66]
        by_cases q0 : j = 0
        · subst q0
          rw [if_pos (by decide)]
          by_cases w : (0 + 1 = P.2.2.2.2.2.1 ∨ ¬ P.2.2.2.2.1 (0 + 1) ≤ v)
          · have W : ¬ ¬ ((0 = 0 ∨ ¬ v ≤ P.2.2.2.2.1 (0 - 1)) ∧ (0 + 1 = P.2.2.2.2.2.1 ∨ ¬ P.2.2.2.2.1 (0 + 1) ≤ v)) := fun z => z ⟨Or.inl rfl, w⟩
            rw [if_pos w, if_neg W]
          · rw [if_neg w, if_pos (fun z => w z.2)]
        · have q0' : ¬ j ≤ 0 := by omega
          simp (disch := first | assumption | rfl | decide | omega) only [↓ckd_lay, ↓bd_gI, ↓bd_gL, ↓bd_pI, ↓bd_pL, ↓bd_pZ, ↓bd_now, ↓bd_next, ↓bd_ldR3, ↓bd_ldR4, ↓ap_ite, ↓ap_rt, ↓ap_lt, ↓rz_0, ↓rz_1, rz_bi, ↓gr_81_0, ↓gr_81_1, ↓gr_81_2, ↓gr_81_3, ↓gr_81_4, ↓gr_81_7, ↓gr_81_8, ↓gr_81_9, ↓gr_81_11, ↓gr_81_14, ↓gr_81_17, ↓gr_81_18, ↓gr_81_20, ↓gr_81_21, ↓gr_81_25, ↓gr_81_26, ↓gr_81_27, ↓gr_81_28, ↓gr_81_29, ↓gr_81_31, ↓gr_81_32, ↓gr_81_33, ↓gr_81_34, ↓gr_81_36, ↓gr_81_39, ln_0, ln_1, ln_2, ln_3, ln_4, ln_5, ln_6, ln_7, ln_8, ln_10, ln_11, ln_12, ln_13, ln_15, ln_16, ln_30, ln_60, ln_256, ln_300, ln_400, ln_500, ln_1023, ln_1024, nl_0, nl_1, nl_2, nl_3, nl_4, nl_5, nl_6, nl_7, nl_8, nl_10, nl_11, nl_12, nl_13, nl_15, nl_16, nl_30, nl_60, nl_256, nl_300, nl_400, nl_500, nl_1023, nl_1024, tn_0, tn_1, tn_2, tn_3, tn_4, tn_5, tn_6, tn_7, tn_8, tn_10, tn_11, tn_12, tn_13, tn_15, tn_16, tn_30, tn_60, tn_256, tn_300, tn_400, tn_500, tn_1023, tn_1024, nt_0, nt_1, nt_2, nt_3, nt_4, nt_5, nt_6, nt_7, nt_8, nt_10, nt_11, nt_12, nt_13, nt_15, nt_16, nt_30, nt_60, nt_256, nt_300, nt_400, nt_500, nt_1023, nt_1024, ne_0, ne_1, ne_2, ne_3, ne_4, ne_5, ne_6, ne_7, ne_8, ne_10, ne_11, ne_12, ne_13, ne_15, ne_16, ne_30, ne_60, ne_256, ne_300, ne_400, ne_500, ne_1023, ne_1024, le_nn, lt_nn, eq_nn, q0', if_false, ns_1, ↓la_90, ↓st_90, hc.2.2.2.2.1, e40, e66]
          by_cases q : v ≤ P.2.2.2.2.1 (j - 1)
          · rw [if_pos q, if_pos (fun z => z.1.elim q0 (fun w => w q))]
          · rw [if_neg q]
            by_cases w : (j + 1 = P.2.2.2.2.2.1 ∨ ¬ P.2.2.2.2.1 (j + 1) ≤ v)
            · have W : ¬ ¬ ((j = 0 ∨ ¬ v ≤ P.2.2.2.2.1 (j - 1)) ∧ (j + 1 = P.2.2.2.2.2.1 ∨ ¬ P.2.2.2.2.1 (j + 1) ≤ v)) := fun z => z ⟨Or.inr q, w⟩
              rw [if_pos w, if_neg W]
            · rw [if_neg w, if_pos (fun z => w z.2)]
      by_cases hw : (j = 0 ∨ ¬ v ≤ P.2.2.2.2.1 (j - 1)) ∧ (j + 1 = P.2.2.2.2.2.1 ∨ ¬ P.2.2.2.2.1 (j + 1) ≤ v)
      · by_cases h0 : S.1 = 0
        · have h0' : S.1 ≤ 0 := by omega
          have mc : Mod [19] σ (sL σ 19 (va_up (σ.2.1 19) j v)) := Mod.L (by simp)
          have hne : fa a 4 ≠ 19 := by unfold fa; omega
          have c1 : CI (sL σ 19 (va_up (σ.2.1 19) j v)) (P.1, P.2.1, P.2.2.1, P.2.2.2.1, va_up P.2.2.2.2.1 j v, P.2.2.2.2.2) fs a b (0, S.2.1, fs, S.2.2.2) := by
            refine c.re h0 mc ?_ ⟨h2.1, h2.2.1, h2.2.2.1, h2.2.2.2.1, ?_, h2.2.2.2.2.2.1, h2.2.2.2.2.2.2⟩ h5 ?_
            · rcases h1.2 with ⟨rfl, rfl⟩ | ⟨rfl, rfl⟩ <;> decide
            · rw [sL_same, h2.2.2.2.2.1]
            · rw [sL_ne hne, h7]; exact (p.at0 h0).2
          have r1 : RI (sL σ 19 (va_up (σ.2.1 19) j v)) P fs S := r.mod mc.p (by decide)
          have mr : Mod [90] (sL σ 19 (va_up (σ.2.1 19) j v)) (sL (sL σ 19 (va_up (σ.2.1 19) j v)) 90 (va_up (σ.2.1 90) j v)) := Mod.L (by simp)
          have r2 : RI (sL (sL σ 19 (va_up (σ.2.1 19) j v)) 90 (va_up (σ.2.1 90) j v)) (P.1, P.2.1, P.2.2.1, P.2.2.2.1, va_up P.2.2.2.2.1 j v, P.2.2.2.2.2) fs (0, S.2.1, fs, S.2.2.2) := by
            refine r1.re h0 mr (by decide) ⟨g2.1, g2.2.1, g2.2.2.1, g2.2.2.2.1, ?_, g2.2.2.2.2.2.1, g2.2.2.2.2.2.2⟩ g9 g5 ?_
            · rw [sL_same, g2.2.2.2.2.1]
            · exact g7.trans (p.at0 h0).2
          have sv := (smpB_iff v).mp hv
          have pA : AllP (P.1, P.2.1, P.2.2.1, P.2.2.2.1, va_up P.2.2.2.2.1 j v, P.2.2.2.2.2) := by
            refine ⟨⟨p.1.1.1, p.1.1.2⟩, fun k hk => ?_, fun k hk => ?_⟩
            · have hk' : k + 1 < P.2.2.2.2.2.1 := hk
              show (va_up P.2.2.2.2.1 j v k).toInt < (va_up P.2.2.2.2.1 j v (k + 1)).toInt
              have base := p.1.2.1 k hk'
              by_cases q1 : k = j
              · subst q1
                rw [up_same, up_ne (by omega)]
                have := hw.2.resolve_left (by omega)
                rw [Int64.le_iff_toInt_le] at this
                omega
              · by_cases q2 : k + 1 = j
                · have := hw.1.resolve_left (by omega)
                  rw [Int64.le_iff_toInt_le, show j - 1 = k by omega] at this
                  rw [up_ne q1, q2, up_same]
                  omega
                · rw [up_ne q1, up_ne q2]; exact base
            · show -1000000000000 ≤ (va_up P.2.2.2.2.1 j v k).toInt ∧ (va_up P.2.2.2.2.1 j v k).toInt ≤ 1000000000000
              by_cases q1 : k = j
              · subst q1; rw [up_same]; exact sv
              · rw [up_ne q1]; exact p.1.2.2 k hk
          refine ⟨1, sL σ 19 (va_up (σ.2.1 19) j v), _, ?_, ?_, Rel.mk2 (c1.mod mr (by decide)) r2 (p.re h0 pA) ((z.mdp mc.p (by decide)).mdp mr.p (by decide)) ((rs.mdp mc.p (by decide)).mdp mr.p (by decide))⟩
          · rw [pre1 σ h2, if_neg (fun q => q hw), h15, if_pos (by rw [nl_0 (by omega)]; exact h0')]
          · rw [pre2 _ r1.1, if_neg (fun q => q hw), r1.2.2.2.2.2.1, if_pos (by rw [nl_0 (by omega)]; exact h0')]
            rw [sL_ne (by decide)]
        · refine Duo.same h (-3) ?_ ?_
          · rw [pre1 σ h2, if_neg (fun q => q hw), h15, if_neg (by rw [nl_0 (by omega)]; omega)]
          · rw [pre2 σ g2, if_neg (fun q => q hw), g15, if_neg (by rw [nl_0 (by omega)]; omega)]
      · refine Duo.same h (-2) ?_ ?_
        · rw [pre1 σ h2, if_pos hw]
        · rw [pre2 σ g2, if_pos hw]
    · refine Duo.same h (-2) ?_ ?_
      · unfold m_Ob_level
        simp (disch := first | assumption | rfl | decide | omega) only [↓ckd_lay, ↓bd_gI, ↓bd_gL, ↓bd_pI, ↓bd_pL, ↓bd_pZ, ↓bd_now, ↓bd_next, ↓bd_ldR3, ↓bd_ldR4, ↓ap_ite, ↓ap_rt, ↓ap_lt, ↓rz_0, ↓rz_1, rz_bi, ↓gr_1_0, ↓gr_1_1, ↓gr_1_2, ↓gr_1_3, ↓gr_1_4, ↓gr_1_5, ↓gr_1_6, ↓gr_15_0, ↓gr_15_1, ↓gr_15_2, ↓gr_15_3, ↓gr_20_0, ↓gr_20_1, ↓gr_23_0, ↓gr_23_1, ↓gr_23_2, ↓gr_27_0, ↓gr_27_1, ↓gr_27_2, ↓gr_29_0, ↓gr_29_1, ↓gr_29_2, ↓gr_29_3, ↓gr_29_4, ↓gr_33_0, ↓gr_33_1, ↓gr_now, ↓gr_next]
        rw [bd_eq (s_hasLevel h2.2.2.2.2.2.1), ap_ite, if_neg (by rw [bi_0]; exact fun q => q hi), q_isSample, ap_ite, if_pos (by rw [bi_0]; exact hv), ap_rt]
      · unfold m_Md_level
        simp (disch := first | assumption | rfl | decide | omega) only [↓ckd_lay, ↓bd_gI, ↓bd_gL, ↓bd_pI, ↓bd_pL, ↓bd_pZ, ↓bd_now, ↓bd_next, ↓bd_ldR3, ↓bd_ldR4, ↓ap_ite, ↓ap_rt, ↓ap_lt, ↓rz_0, ↓rz_1, rz_bi, ↓gr_81_0, ↓gr_81_1, ↓gr_81_2, ↓gr_81_3, ↓gr_81_4, ↓gr_81_7, ↓gr_81_8, ↓gr_81_9, ↓gr_81_11, ↓gr_81_14, ↓gr_81_17, ↓gr_81_18, ↓gr_81_20, ↓gr_81_21, ↓gr_81_25, ↓gr_81_26, ↓gr_81_27, ↓gr_81_28, ↓gr_81_29, ↓gr_81_31, ↓gr_81_32, ↓gr_81_33, ↓gr_81_34, ↓gr_81_36, ↓gr_81_39, g2.2.2.2.2.2.1, ↓q_inN, bi_0, hi, and_self, not_true_eq_false, if_false]
        rw [q_isSampleM, if_pos (by rw [bi_0]; exact hv), ap_rt]
  · refine Duo.same h (-2) ?_ ?_
    · unfold m_Ob_level
      simp (disch := first | assumption | rfl | decide | omega) only [↓ckd_lay, ↓bd_gI, ↓bd_gL, ↓bd_pI, ↓bd_pL, ↓bd_pZ, ↓bd_now, ↓bd_next, ↓bd_ldR3, ↓bd_ldR4, ↓ap_ite, ↓ap_rt, ↓ap_lt, ↓rz_0, ↓rz_1, rz_bi, ↓gr_1_0, ↓gr_1_1, ↓gr_1_2, ↓gr_1_3, ↓gr_1_4, ↓gr_1_5, ↓gr_1_6, ↓gr_15_0, ↓gr_15_1, ↓gr_15_2, ↓gr_15_3, ↓gr_20_0, ↓gr_20_1, ↓gr_23_0, ↓gr_23_1, ↓gr_23_2, ↓gr_27_0, ↓gr_27_1, ↓gr_27_2, ↓gr_29_0, ↓gr_29_1, ↓gr_29_2, ↓gr_29_3, ↓gr_29_4, ↓gr_33_0, ↓gr_33_1, ↓gr_now, ↓gr_next]
      rw [bd_eq (s_hasLevel h2.2.2.2.2.2.1), ap_ite, if_pos (by rw [bi_0]; exact hi), ap_rt]
    · unfold m_Md_level
      simp (disch := first | assumption | rfl | decide | omega) only [↓ckd_lay, ↓bd_gI, ↓bd_gL, ↓bd_pI, ↓bd_pL, ↓bd_pZ, ↓bd_now, ↓bd_next, ↓bd_ldR3, ↓bd_ldR4, ↓ap_ite, ↓ap_rt, ↓ap_lt, ↓rz_0, ↓rz_1, rz_bi, ↓gr_81_0, ↓gr_81_1, ↓gr_81_2, ↓gr_81_3, ↓gr_81_4, ↓gr_81_7, ↓gr_81_8, ↓gr_81_9, ↓gr_81_11, ↓gr_81_14, ↓gr_81_17, ↓gr_81_18, ↓gr_81_20, ↓gr_81_21, ↓gr_81_25, ↓gr_81_26, ↓gr_81_27, ↓gr_81_28, ↓gr_81_29, ↓gr_81_31, ↓gr_81_32, ↓gr_81_33, ↓gr_81_34, ↓gr_81_36, ↓gr_81_39, g2.2.2.2.2.2.1, ↓q_inN, bi_0, hi, not_false_eq_true, if_true]
