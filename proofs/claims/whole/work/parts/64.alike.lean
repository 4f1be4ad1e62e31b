/-! The reference's isAlike. -/
theorem bi_a1 {p : Prop} [Decidable p] : bi p &&& 1 = bi p := by unfold bi; split <;> decide
theorem bi_a0 {p : Prop} [Decidable p] : bi p &&& 0 = 0 := by unfold bi; split <;> decide
theorem s_alikeGo {σ : SS} {i j : Nat} (hi : i ≤ 400) (hj : j ≤ 400) : ∀ (r k n : Nat) (b : Bool), k + r = 11 → r < n → l_Md_isAlike_5 n 81 (nI i) (nI j) (bi (b = true)) (nI k) (lay σ) = some (bi ((b && pEq (fun q => σ.2.1 99 (12 * i + q)) (fun q => σ.2.1 99 (12 * j + q)) r k) = true), lay σ)
  | r, k, 0, b, h, hn => by omega
  | 0, k, n + 1, b, h, hn => by
    have hq : 11 ≤ k := by omega
    show b_Md_isAlike_5 (l_Md_isAlike_5 n) 81 (nI i) (nI j) (bi (b = true)) (nI k) (lay σ) = _
    unfold b_Md_isAlike_5
    simp (disch := first | assumption | rfl | decide | omega) only [↓ckd_lay, ↓bd_gI, ↓bd_gL, ↓bd_pI, ↓bd_pL, ↓bd_pZ, ↓bd_now, ↓bd_next, ↓bd_ldR3, ↓bd_ldR4, ↓ap_ite, ↓ap_rt, ↓ap_lt, ↓rz_0, ↓rz_1, rz_bi, ln_0, ln_1, ln_2, ln_3, ln_4, ln_5, ln_6, ln_7, ln_8, ln_10, ln_11, ln_12, ln_13, ln_15, ln_16, ln_30, ln_60, ln_256, ln_300, ln_400, ln_500, ln_1023, ln_1024, nl_0, nl_1, nl_2, nl_3, nl_4, nl_5, nl_6, nl_7, nl_8, nl_10, nl_11, nl_12, nl_13, nl_15, nl_16, nl_30, nl_60, nl_256, nl_300, nl_400, nl_500, nl_1023, nl_1024, tn_0, tn_1, tn_2, tn_3, tn_4, tn_5, tn_6, tn_7, tn_8, tn_10, tn_11, tn_12, tn_13, tn_15, tn_16, tn_30, tn_60, tn_256, tn_300, tn_400, tn_500, tn_1023, tn_1024, nt_0, nt_1, nt_2, nt_3, nt_4, nt_5, nt_6, nt_7, nt_8, nt_10, nt_11, nt_12, nt_13, nt_15, nt_16, nt_30, nt_60, nt_256, nt_300, nt_400, nt_500, nt_1023, nt_1024, ne_0, ne_1, ne_2, ne_3, ne_4, ne_5, ne_6, ne_7, ne_8, ne_10, ne_11, ne_12, ne_13, ne_15, ne_16, ne_30, ne_60, ne_256, ne_300, ne_400, ne_500, ne_1023, ne_1024, le_nn, lt_nn, eq_nn, hq, if_true]
    unfold pEq
    rw [Bool.and_true]
  | r + 1, k, n + 1, b, h, hn => by
    have hq : ¬ 11 ≤ k := by omega
    show b_Md_isAlike_5 (l_Md_isAlike_5 n) 81 (nI i) (nI j) (bi (b = true)) (nI k) (lay σ) = _
    unfold b_Md_isAlike_5
    simp (disch := first | assumption | rfl | decide | omega) only [↓ckd_lay, ↓bd_gI, ↓bd_gL, ↓bd_pI, ↓bd_pL, ↓bd_pZ, ↓bd_now, ↓bd_next, ↓bd_ldR3, ↓bd_ldR4, ↓ap_ite, ↓ap_rt, ↓ap_lt, ↓rz_0, ↓rz_1, rz_bi, ↓gr_81_0, ↓gr_81_1, ↓gr_81_2, ↓gr_81_3, ↓gr_81_4, ↓gr_81_7, ↓gr_81_8, ↓gr_81_9, ↓gr_81_11, ↓gr_81_14, ↓gr_81_17, ↓gr_81_18, ↓gr_81_20, ↓gr_81_21, ↓gr_81_25, ↓gr_81_26, ↓gr_81_27, ↓gr_81_28, ↓gr_81_29, ↓gr_81_31, ↓gr_81_32, ↓gr_81_33, ↓gr_81_34, ↓gr_81_36, ↓gr_81_39, ln_0, ln_1, ln_2, ln_3, ln_4, ln_5, ln_6, ln_7, ln_8, ln_10, ln_11, ln_12, ln_13, ln_15, ln_16, ln_30, ln_60, ln_256, ln_300, ln_400, ln_500, ln_1023, ln_1024, nl_0, nl_1, nl_2, nl_3, nl_4, nl_5, nl_6, nl_7, nl_8, nl_10, nl_11, nl_12, nl_13, nl_15, nl_16, nl_30, nl_60, nl_256, nl_300, nl_400, nl_500, nl_1023, nl_1024, tn_0, tn_1, tn_2, tn_3, tn_4, tn_5, tn_6, tn_7, tn_8, tn_10, tn_11, tn_12, tn_13, tn_15, tn_16, tn_30, tn_60, tn_256, tn_300, tn_400, tn_500, tn_1023, tn_1024, nt_0, nt_1, nt_2, nt_3, nt_4, nt_5, nt_6, nt_7, nt_8, nt_10, nt_11, nt_12, nt_13, nt_15, nt_16, nt_30, nt_60, nt_256, nt_300, nt_400, nt_500, nt_1023, nt_1024, ne_0, ne_1, ne_2, ne_3, ne_4, ne_5, ne_6, ne_7, ne_8, ne_10, ne_11, ne_12, ne_13, ne_15, ne_16, ne_30, ne_60, ne_256, ne_300, ne_400, ne_500, ne_1023, ne_1024, le_nn, lt_nn, eq_nn, hq, if_false, na_0, na_1, na_2, na_3, na_4, na_5, na_6, na_7, na_8, na_10, na_11, na_12, na_13, na_15, na_16, na_30, na_60, na_300, an_0, an_1, an_2, an_3, an_4, an_5, an_6, an_7, an_8, an_10, an_11, an_12, an_13, an_15, an_16, an_30, an_60, an_300, nm_0, nm_1, nm_2, nm_3, nm_4, nm_5, nm_6, nm_7, nm_8, nm_10, nm_11, nm_12, nm_13, nm_15, nm_16, nm_30, nm_60, nm_300, mn_0, mn_1, mn_2, mn_3, mn_4, mn_5, mn_6, mn_7, mn_8, mn_10, mn_11, mn_12, mn_13, mn_15, mn_16, mn_30, mn_60, mn_300, nI_add, pk_mul, ↓la_99, ↓st_99]
    by_cases q : σ.2.1 99 (12 * i + k) = σ.2.1 99 (12 * j + k)
    · rw [if_pos q, bi_a1, s_alikeGo hi hj r (k + 1) n b (by omega) (by omega)]
      have : pEq (fun q => σ.2.1 99 (12 * i + q)) (fun q => σ.2.1 99 (12 * j + q)) (r + 1) k = pEq (fun q => σ.2.1 99 (12 * i + q)) (fun q => σ.2.1 99 (12 * j + q)) r (k + 1) := if_pos q
      rw [this]
    · have e := s_alikeGo (σ := σ) hi hj r (k + 1) n false (by omega) (by omega)
      rw [Bool.false_and] at e
      rw [if_neg q, bi_a0]
      have : pEq (fun q => σ.2.1 99 (12 * i + q)) (fun q => σ.2.1 99 (12 * j + q)) (r + 1) k = false := if_neg q
      rw [this, Bool.and_false]
      exact e
theorem s_alike {σ : SS} {i j : Nat} (hi : i ≤ 400) (hj : j ≤ 400) : m_Md_isAlike 81 (nI i) (nI j) (lay σ) = some (bi (pEq (fun q => σ.2.1 99 (12 * i + q)) (fun q => σ.2.1 99 (12 * j + q)) 11 0 = true), lay σ) := by
  have e := s_alikeGo (σ := σ) hi hj 11 0 FU true (by omega) (by unfold FU; omega)
  rw [Bool.true_and] at e
  unfold m_Md_isAlike
  rw [ckd_lay (ci := 9) (o := 81) rfl (by decide)]
  exact e
/-- the same to Seen and to the reference -/
theorem std_alike {P : SH} {N M : Nat → Int64} {x y u v : Int64} (hF : FitP P) : (∀ k, k < 11 → std12 P N x u k = std12 P M y v k) ↔ ∀ i, i < wd P → std P N x i = std P M y i := by
  have h5 := hF.1
  unfold std12 std wd
  constructor
  · intro h i hi
    by_cases q : i < 2 * P.2.2.2.1
    · have := h i (by omega)
      rw [if_pos (show i < 10 by omega), if_pos (show i < 10 by omega), if_pos (show i / 2 < P.2.2.2.1 by omega), if_pos (show i / 2 < P.2.2.2.1 by omega)] at this
      rw [if_pos q, if_pos q]
      exact this
    · rw [if_neg q, if_neg q]
      by_cases q0 : P.2.2.2.2.2.2 = 0
      · rw [if_pos q0] at hi; omega
      · have := h 10 (by omega)
        rw [if_neg (show ¬ 10 < 10 by omega), if_neg (show ¬ 10 < 10 by omega), if_pos (show 10 = 10 from rfl), if_pos (show 10 = 10 from rfl), if_neg q0, if_neg q0] at this
        exact this
  · intro h k hk
    by_cases q : k < 10
    · rw [if_pos q, if_pos q]
      by_cases q1 : k / 2 < P.2.2.2.1
      · rw [if_pos q1, if_pos q1]
        have := h k (by split <;> omega)
        rw [if_pos (show k < 2 * P.2.2.2.1 by omega), if_pos (show k < 2 * P.2.2.2.1 by omega)] at this
        exact this
      · rw [if_neg q1, if_neg q1]
    · have hk10 : k = 10 := by omega
      rw [if_neg q, if_neg q, if_pos hk10, if_pos hk10]
      by_cases q0 : P.2.2.2.2.2.2 = 0
      · rw [if_pos q0, if_pos q0]
      · rw [if_neg q0, if_neg q0]
        have := h (2 * P.2.2.2.1) (by rw [if_neg q0]; omega)
        rw [if_neg (by omega), if_neg (by omega)] at this
        exact this
