/-! hold: the reference's search. -/
def alk (σ : SS) (i j : Nat) : Prop := pEq (fun q => σ.2.1 99 (12 * i + q)) (fun q => σ.2.1 99 (12 * j + q)) 11 0 = true
theorem s_hold60n {σ : SS} {k34 : Nat → Int64 → Int32 → Int32 → M Int32} {u : Int64} {m : Int32} {T : Nat} (hT : T ≤ 400) : ∀ (r i n : Nat), i + r = T → r < n → (∀ e, i ≤ e → e < T → ¬ alk σ e T) → l_Md_hold_60 k34 n 81 u m (nI T) (nI i) (lay σ) = k34 81 u m (nI (T + 1)) (lay σ)
  | r, i, 0, h, hn, hno => by omega
  | 0, i, n + 1, h, hn, hno => by
    have hq : T ≤ i := by omega
    show b_Md_hold_60 k34 (l_Md_hold_60 k34 n) 81 u m (nI T) (nI i) (lay σ) = _
    unfold b_Md_hold_60
    simp (disch := first | assumption | rfl | decide | omega) only [↓ckd_lay, ↓bd_gI, ↓bd_gL, ↓bd_pI, ↓bd_pL, ↓bd_pZ, ↓bd_now, ↓bd_next, ↓bd_ldR3, ↓bd_ldR4, ↓ap_ite, ↓ap_rt, ↓ap_lt, ↓rz_0, ↓rz_1, rz_bi, ln_0, ln_1, ln_2, ln_3, ln_4, ln_5, ln_6, ln_7, ln_8, ln_10, ln_11, ln_12, ln_13, ln_15, ln_16, ln_30, ln_60, ln_256, ln_300, ln_400, ln_500, ln_1023, ln_1024, nl_0, nl_1, nl_2, nl_3, nl_4, nl_5, nl_6, nl_7, nl_8, nl_10, nl_11, nl_12, nl_13, nl_15, nl_16, nl_30, nl_60, nl_256, nl_300, nl_400, nl_500, nl_1023, nl_1024, tn_0, tn_1, tn_2, tn_3, tn_4, tn_5, tn_6, tn_7, tn_8, tn_10, tn_11, tn_12, tn_13, tn_15, tn_16, tn_30, tn_60, tn_256, tn_300, tn_400, tn_500, tn_1023, tn_1024, nt_0, nt_1, nt_2, nt_3, nt_4, nt_5, nt_6, nt_7, nt_8, nt_10, nt_11, nt_12, nt_13, nt_15, nt_16, nt_30, nt_60, nt_256, nt_300, nt_400, nt_500, nt_1023, nt_1024, ne_0, ne_1, ne_2, ne_3, ne_4, ne_5, ne_6, ne_7, ne_8, ne_10, ne_11, ne_12, ne_13, ne_15, ne_16, ne_30, ne_60, ne_256, ne_300, ne_400, ne_500, ne_1023, ne_1024, le_nn, lt_nn, eq_nn, hq, if_true, na_1]
  | r + 1, i, n + 1, h, hn, hno => by
    have hq : ¬ T ≤ i := by omega
    have hx := hno i (by omega) (by omega)
    show b_Md_hold_60 k34 (l_Md_hold_60 k34 n) 81 u m (nI T) (nI i) (lay σ) = _
    unfold b_Md_hold_60
    simp (disch := first | assumption | rfl | decide | omega) only [↓ckd_lay, ↓bd_gI, ↓bd_gL, ↓bd_pI, ↓bd_pL, ↓bd_pZ, ↓bd_now, ↓bd_next, ↓bd_ldR3, ↓bd_ldR4, ↓ap_ite, ↓ap_rt, ↓ap_lt, ↓rz_0, ↓rz_1, rz_bi, ln_0, ln_1, ln_2, ln_3, ln_4, ln_5, ln_6, ln_7, ln_8, ln_10, ln_11, ln_12, ln_13, ln_15, ln_16, ln_30, ln_60, ln_256, ln_300, ln_400, ln_500, ln_1023, ln_1024, nl_0, nl_1, nl_2, nl_3, nl_4, nl_5, nl_6, nl_7, nl_8, nl_10, nl_11, nl_12, nl_13, nl_15, nl_16, nl_30, nl_60, nl_256, nl_300, nl_400, nl_500, nl_1023, nl_1024, tn_0, tn_1, tn_2, tn_3, tn_4, tn_5, tn_6, tn_7, tn_8, tn_10, tn_11, tn_12, tn_13, tn_15, tn_16, tn_30, tn_60, tn_256, tn_300, tn_400, tn_500, tn_1023, tn_1024, nt_0, nt_1, nt_2, nt_3, nt_4, nt_5, nt_6, nt_7, nt_8, nt_10, nt_11, nt_12, nt_13, nt_15, nt_16, nt_30, nt_60, nt_256, nt_300, nt_400, nt_500, nt_1023, nt_1024, ne_0, ne_1, ne_2, ne_3, ne_4, ne_5, ne_6, ne_7, ne_8, ne_10, ne_11, ne_12, ne_13, ne_15, ne_16, ne_30, ne_60, ne_256, ne_300, ne_400, ne_500, ne_1023, ne_1024, le_nn, lt_nn, eq_nn, hq, if_false]
    rw [bd_eq (s_alike (by omega) hT), ap_ite, if_pos (by rw [bi_0]; exact hx), na_1]
    exact s_hold60n hT r (i + 1) n (by omega) (by omega) (fun e h1 h2 => hno e (by omega) h2)
theorem s_hold60y {σ : SS} {k34 : Nat → Int64 → Int32 → Int32 → M Int32} {u : Int64} {m : Int32} {T e0 : Nat} (hT : T ≤ 400) (he : e0 < T) (hy : alk σ e0 T) : ∀ (r i n : Nat), i + r = e0 → r < n → (∀ e, i ≤ e → e < e0 → ¬ alk σ e T) → ∃ τ, l_Md_hold_60 k34 n 81 u m (nI T) (nI i) (lay σ) = some (nI e0, lay τ) ∧ Mod [100] σ τ ∧ τ.2.1 100 0 = (nI e0).toInt64 ∧ τ.2.1 100 1 = (nI (T - e0)).toInt64 ∧ τ.2.1 100 2 = hsum (fun q => σ.2.1 99 (12 * q + 11)) (T - e0) (e0 + 1) 0
  | r, i, 0, h, hn, hno => by omega
  | 0, i, n + 1, h, hn, hno => by
    have hi : i = e0 := by omega
    subst hi
    have hq : ¬ T ≤ i := by omega
    obtain ⟨τ, e1, m1, d0, d1, d2⟩ := s_hold112 (σ0 := σ) (e := i) (t := T) hT (T - i) (i + 1) FU (sL (sL (sL σ 100 (va_up (σ.2.1 100) 0 (nI i).toInt64)) 100 (va_up (va_up (σ.2.1 100) 0 (nI i).toInt64) 1 (nI (T - i)).toInt64)) 100 (va_up (va_up (va_up (σ.2.1 100) 0 (nI i).toInt64) 1 (nI (T - i)).toInt64) 2 0)) 0 (by omega) (by unfold FU; omega) (((Mod.L (by simp)).tr (Mod.L (by simp))).tr (Mod.L (by simp))) (by rw [sL_same, up_same])
    refine ⟨τ, ?_, m1, by rw [d0, sL_same, up_ne (by decide), up_ne (by decide), up_same], by rw [d1, sL_same, up_ne (by decide), up_same], d2⟩
    show b_Md_hold_60 k34 (l_Md_hold_60 k34 n) 81 u m (nI T) (nI i) (lay σ) = _
    unfold b_Md_hold_60
    simp (disch := first | assumption | rfl | decide | omega) only [↓ckd_lay, ↓bd_gI, ↓bd_gL, ↓bd_pI, ↓bd_pL, ↓bd_pZ, ↓bd_now, ↓bd_next, ↓bd_ldR3, ↓bd_ldR4, ↓ap_ite, ↓ap_rt, ↓ap_lt, ↓rz_0, ↓rz_1, rz_bi, ln_0, ln_1, ln_2, ln_3, ln_4, ln_5, ln_6, ln_7, ln_8, ln_10, ln_11, ln_12, ln_13, ln_15, ln_16, ln_30, ln_60, ln_256, ln_300, ln_400, ln_500, ln_1023, ln_1024, nl_0, nl_1, nl_2, nl_3, nl_4, nl_5, nl_6, nl_7, nl_8, nl_10, nl_11, nl_12, nl_13, nl_15, nl_16, nl_30, nl_60, nl_256, nl_300, nl_400, nl_500, nl_1023, nl_1024, tn_0, tn_1, tn_2, tn_3, tn_4, tn_5, tn_6, tn_7, tn_8, tn_10, tn_11, tn_12, tn_13, tn_15, tn_16, tn_30, tn_60, tn_256, tn_300, tn_400, tn_500, tn_1023, tn_1024, nt_0, nt_1, nt_2, nt_3, nt_4, nt_5, nt_6, nt_7, nt_8, nt_10, nt_11, nt_12, nt_13, nt_15, nt_16, nt_30, nt_60, nt_256, nt_300, nt_400, nt_500, nt_1023, nt_1024, ne_0, ne_1, ne_2, ne_3, ne_4, ne_5, ne_6, ne_7, ne_8, ne_10, ne_11, ne_12, ne_13, ne_15, ne_16, ne_30, ne_60, ne_256, ne_300, ne_400, ne_500, ne_1023, ne_1024, le_nn, lt_nn, eq_nn, hq, if_false]
    rw [bd_eq (s_alike (by omega) hT), ap_ite, if_neg (by rw [bi_0]; exact fun z => z hy)]
    simp (disch := first | assumption | rfl | decide | omega) only [↓ckd_lay, ↓bd_gI, ↓bd_gL, ↓bd_pI, ↓bd_pL, ↓bd_pZ, ↓bd_now, ↓bd_next, ↓bd_ldR3, ↓bd_ldR4, ↓ap_ite, ↓ap_rt, ↓ap_lt, ↓rz_0, ↓rz_1, rz_bi, ↓gr_81_0, ↓gr_81_1, ↓gr_81_2, ↓gr_81_3, ↓gr_81_4, ↓gr_81_7, ↓gr_81_8, ↓gr_81_9, ↓gr_81_11, ↓gr_81_14, ↓gr_81_17, ↓gr_81_18, ↓gr_81_20, ↓gr_81_21, ↓gr_81_25, ↓gr_81_26, ↓gr_81_27, ↓gr_81_28, ↓gr_81_29, ↓gr_81_31, ↓gr_81_32, ↓gr_81_33, ↓gr_81_34, ↓gr_81_36, ↓gr_81_39]
    rw [show (0 : Int32) = nI 0 from rfl, show (1 : Int32) = nI 1 from rfl, show (2 : Int32) = nI 2 from rfl, bd_stL (o := 100) rfl (by decide)]
    simp (disch := first | assumption | rfl | decide | omega) only [↓ckd_lay, ↓bd_gI, ↓bd_gL, ↓bd_pI, ↓bd_pL, ↓bd_pZ, ↓bd_now, ↓bd_next, ↓bd_ldR3, ↓bd_ldR4, ↓ap_ite, ↓ap_rt, ↓ap_lt, ↓rz_0, ↓rz_1, rz_bi, ↓gr_81_0, ↓gr_81_1, ↓gr_81_2, ↓gr_81_3, ↓gr_81_4, ↓gr_81_7, ↓gr_81_8, ↓gr_81_9, ↓gr_81_11, ↓gr_81_14, ↓gr_81_17, ↓gr_81_18, ↓gr_81_20, ↓gr_81_21, ↓gr_81_25, ↓gr_81_26, ↓gr_81_27, ↓gr_81_28, ↓gr_81_29, ↓gr_81_31, ↓gr_81_32, ↓gr_81_33, ↓gr_81_34, ↓gr_81_36, ↓gr_81_39]
    rw [bd_stL (o := 100) rfl (by decide)]
    simp (disch := first | assumption | rfl | decide | omega) only [↓ckd_lay, ↓bd_gI, ↓bd_gL, ↓bd_pI, ↓bd_pL, ↓bd_pZ, ↓bd_now, ↓bd_next, ↓bd_ldR3, ↓bd_ldR4, ↓ap_ite, ↓ap_rt, ↓ap_lt, ↓rz_0, ↓rz_1, rz_bi, ↓gr_81_0, ↓gr_81_1, ↓gr_81_2, ↓gr_81_3, ↓gr_81_4, ↓gr_81_7, ↓gr_81_8, ↓gr_81_9, ↓gr_81_11, ↓gr_81_14, ↓gr_81_17, ↓gr_81_18, ↓gr_81_20, ↓gr_81_21, ↓gr_81_25, ↓gr_81_26, ↓gr_81_27, ↓gr_81_28, ↓gr_81_29, ↓gr_81_31, ↓gr_81_32, ↓gr_81_33, ↓gr_81_34, ↓gr_81_36, ↓gr_81_39]
    rw [bd_stL (o := 100) rfl (by decide), ap_lt, sL_same, sL_same, nI_add, pk_sub (by omega)]
    exact e1
  | r + 1, i, n + 1, h, hn, hno => by
    have hq : ¬ T ≤ i := by omega
    have hx := hno i (by omega) (by omega)
    obtain ⟨τ, e1, d⟩ := s_hold60y (k34 := k34) (u := u) (m := m) hT he hy r (i + 1) n (by omega) (by omega) (fun e h1 h2 => hno e (by omega) h2)
    refine ⟨τ, ?_, d⟩
    show b_Md_hold_60 k34 (l_Md_hold_60 k34 n) 81 u m (nI T) (nI i) (lay σ) = _
    unfold b_Md_hold_60
    simp (disch := first | assumption | rfl | decide | omega) only [↓ckd_lay, ↓bd_gI, ↓bd_gL, ↓bd_pI, ↓bd_pL, ↓bd_pZ, ↓bd_now, ↓bd_next, ↓bd_ldR3, ↓bd_ldR4, ↓ap_ite, ↓ap_rt, ↓ap_lt, ↓rz_0, ↓rz_1, rz_bi, ln_0, ln_1, ln_2, ln_3, ln_4, ln_5, ln_6, ln_7, ln_8, ln_10, ln_11, ln_12, ln_13, ln_15, ln_16, ln_30, ln_60, ln_256, ln_300, ln_400, ln_500, ln_1023, ln_1024, nl_0, nl_1, nl_2, nl_3, nl_4, nl_5, nl_6, nl_7, nl_8, nl_10, nl_11, nl_12, nl_13, nl_15, nl_16, nl_30, nl_60, nl_256, nl_300, nl_400, nl_500, nl_1023, nl_1024, tn_0, tn_1, tn_2, tn_3, tn_4, tn_5, tn_6, tn_7, tn_8, tn_10, tn_11, tn_12, tn_13, tn_15, tn_16, tn_30, tn_60, tn_256, tn_300, tn_400, tn_500, tn_1023, tn_1024, nt_0, nt_1, nt_2, nt_3, nt_4, nt_5, nt_6, nt_7, nt_8, nt_10, nt_11, nt_12, nt_13, nt_15, nt_16, nt_30, nt_60, nt_256, nt_300, nt_400, nt_500, nt_1023, nt_1024, ne_0, ne_1, ne_2, ne_3, ne_4, ne_5, ne_6, ne_7, ne_8, ne_10, ne_11, ne_12, ne_13, ne_15, ne_16, ne_30, ne_60, ne_256, ne_300, ne_400, ne_500, ne_1023, ne_1024, le_nn, lt_nn, eq_nn, hq, if_false]
    rw [bd_eq (s_alike (by omega) hT), ap_ite, if_pos (by rw [bi_0]; exact hx), na_1]
    exact e1
