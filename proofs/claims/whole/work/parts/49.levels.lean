/-! levels, stage. -/
def lvF (m : Nat) (x y : Int64) (f : Nat → Int64) (k : Nat) : Nat → Int64 := fun q => if k ≤ q ∧ q < m then x + (nI q).toInt64 * y else f q
theorem lvF_up {m k : Nat} {x y : Int64} {f : Nat → Int64} (h : k < m) : lvF m x y (va_up f k (x + (nI k).toInt64 * y)) (k + 1) = lvF m x y f k := by
  funext q
  unfold lvF
  by_cases q1 : q = k
  · subst q1
    rw [if_neg (by omega), if_pos (by omega), up_same]
  · rw [up_ne q1]
    by_cases q2 : k ≤ q ∧ q < m
    · rw [if_pos q2, if_pos (by omega)]
    · rw [if_neg q2, if_neg (by omega)]
theorem lvF_end {m k : Nat} {x y : Int64} {f : Nat → Int64} (h : m ≤ k) : lvF m x y f k = f := by
  funext q
  unfold lvF
  rw [if_neg (by omega)]
theorem s_layGo {m : Nat} {x y : Int64} (hm : m ≤ 16) : ∀ (r k n : Nat) (σ : SS), k + r = m → r < n → l_Sp_layLevels_8 n 15 (nI m) x y (nI k) (lay σ) = some ((), lay (sL σ 19 (lvF m x y (σ.2.1 19) k)))
  | r, k, 0, σ, h, hn => by omega
  | 0, k, n + 1, σ, h, hn => by
    have hq : m ≤ k := by omega
    show b_Sp_layLevels_8 (l_Sp_layLevels_8 n) 15 (nI m) x y (nI k) (lay σ) = _
    unfold b_Sp_layLevels_8
    simp (disch := first | assumption | rfl | decide | omega) only [↓ckd_lay, ↓bd_gI, ↓bd_gL, ↓bd_pI, ↓bd_pL, ↓bd_pZ, ↓bd_now, ↓bd_next, ↓bd_ldR3, ↓bd_ldR4, ↓ap_ite, ↓ap_rt, ↓ap_lt, ↓rz_0, ↓rz_1, rz_bi, ln_0, ln_1, ln_2, ln_3, ln_4, ln_5, ln_6, ln_7, ln_8, ln_10, ln_11, ln_12, ln_13, ln_15, ln_16, ln_30, ln_60, ln_256, ln_300, ln_400, ln_500, ln_1023, ln_1024, nl_0, nl_1, nl_2, nl_3, nl_4, nl_5, nl_6, nl_7, nl_8, nl_10, nl_11, nl_12, nl_13, nl_15, nl_16, nl_30, nl_60, nl_256, nl_300, nl_400, nl_500, nl_1023, nl_1024, tn_0, tn_1, tn_2, tn_3, tn_4, tn_5, tn_6, tn_7, tn_8, tn_10, tn_11, tn_12, tn_13, tn_15, tn_16, tn_30, tn_60, tn_256, tn_300, tn_400, tn_500, tn_1023, tn_1024, nt_0, nt_1, nt_2, nt_3, nt_4, nt_5, nt_6, nt_7, nt_8, nt_10, nt_11, nt_12, nt_13, nt_15, nt_16, nt_30, nt_60, nt_256, nt_300, nt_400, nt_500, nt_1023, nt_1024, ne_0, ne_1, ne_2, ne_3, ne_4, ne_5, ne_6, ne_7, ne_8, ne_10, ne_11, ne_12, ne_13, ne_15, ne_16, ne_30, ne_60, ne_256, ne_300, ne_400, ne_500, ne_1023, ne_1024, le_nn, lt_nn, eq_nn, hq, if_true]
    rw [lvF_end hq, sL_id]
  | r + 1, k, n + 1, σ, h, hn => by
    have hq : ¬ m ≤ k := by omega
    show b_Sp_layLevels_8 (l_Sp_layLevels_8 n) 15 (nI m) x y (nI k) (lay σ) = _
    unfold b_Sp_layLevels_8
    simp (disch := first | assumption | rfl | decide | omega) only [↓ckd_lay, ↓bd_gI, ↓bd_gL, ↓bd_pI, ↓bd_pL, ↓bd_pZ, ↓bd_now, ↓bd_next, ↓bd_ldR3, ↓bd_ldR4, ↓ap_ite, ↓ap_rt, ↓ap_lt, ↓rz_0, ↓rz_1, rz_bi, ↓gr_1_0, ↓gr_1_1, ↓gr_1_2, ↓gr_1_3, ↓gr_1_4, ↓gr_1_5, ↓gr_1_6, ↓gr_15_0, ↓gr_15_1, ↓gr_15_2, ↓gr_15_3, ↓gr_20_0, ↓gr_20_1, ↓gr_23_0, ↓gr_23_1, ↓gr_23_2, ↓gr_27_0, ↓gr_27_1, ↓gr_27_2, ↓gr_29_0, ↓gr_29_1, ↓gr_29_2, ↓gr_29_3, ↓gr_29_4, ↓gr_33_0, ↓gr_33_1, ↓gr_now, ↓gr_next, ln_0, ln_1, ln_2, ln_3, ln_4, ln_5, ln_6, ln_7, ln_8, ln_10, ln_11, ln_12, ln_13, ln_15, ln_16, ln_30, ln_60, ln_256, ln_300, ln_400, ln_500, ln_1023, ln_1024, nl_0, nl_1, nl_2, nl_3, nl_4, nl_5, nl_6, nl_7, nl_8, nl_10, nl_11, nl_12, nl_13, nl_15, nl_16, nl_30, nl_60, nl_256, nl_300, nl_400, nl_500, nl_1023, nl_1024, tn_0, tn_1, tn_2, tn_3, tn_4, tn_5, tn_6, tn_7, tn_8, tn_10, tn_11, tn_12, tn_13, tn_15, tn_16, tn_30, tn_60, tn_256, tn_300, tn_400, tn_500, tn_1023, tn_1024, nt_0, nt_1, nt_2, nt_3, nt_4, nt_5, nt_6, nt_7, nt_8, nt_10, nt_11, nt_12, nt_13, nt_15, nt_16, nt_30, nt_60, nt_256, nt_300, nt_400, nt_500, nt_1023, nt_1024, ne_0, ne_1, ne_2, ne_3, ne_4, ne_5, ne_6, ne_7, ne_8, ne_10, ne_11, ne_12, ne_13, ne_15, ne_16, ne_30, ne_60, ne_256, ne_300, ne_400, ne_500, ne_1023, ne_1024, le_nn, lt_nn, eq_nn, hq, if_false, ↓la_19, ↓st_19, na_1]
    rw [s_layGo hm r (k + 1) n _ (by omega) (by omega), sL_same, sL_sL, lvF_up (by omega)]
theorem s_layM {m : Nat} {x y : Int64} (hm : m ≤ 16) : ∀ (r k n : Nat) (σ : SS), k + r = m → r < n → l_Md_levels_69 n 81 (nI m) x y (nI k) (lay σ) = some (1, lay (sL σ 90 (lvF m x y (σ.2.1 90) k)))
  | r, k, 0, σ, h, hn => by omega
  | 0, k, n + 1, σ, h, hn => by
    have hq : m ≤ k := by omega
    show b_Md_levels_69 (l_Md_levels_69 n) 81 (nI m) x y (nI k) (lay σ) = _
    unfold b_Md_levels_69
    simp (disch := first | assumption | rfl | decide | omega) only [↓ckd_lay, ↓bd_gI, ↓bd_gL, ↓bd_pI, ↓bd_pL, ↓bd_pZ, ↓bd_now, ↓bd_next, ↓bd_ldR3, ↓bd_ldR4, ↓ap_ite, ↓ap_rt, ↓ap_lt, ↓rz_0, ↓rz_1, rz_bi, ln_0, ln_1, ln_2, ln_3, ln_4, ln_5, ln_6, ln_7, ln_8, ln_10, ln_11, ln_12, ln_13, ln_15, ln_16, ln_30, ln_60, ln_256, ln_300, ln_400, ln_500, ln_1023, ln_1024, nl_0, nl_1, nl_2, nl_3, nl_4, nl_5, nl_6, nl_7, nl_8, nl_10, nl_11, nl_12, nl_13, nl_15, nl_16, nl_30, nl_60, nl_256, nl_300, nl_400, nl_500, nl_1023, nl_1024, tn_0, tn_1, tn_2, tn_3, tn_4, tn_5, tn_6, tn_7, tn_8, tn_10, tn_11, tn_12, tn_13, tn_15, tn_16, tn_30, tn_60, tn_256, tn_300, tn_400, tn_500, tn_1023, tn_1024, nt_0, nt_1, nt_2, nt_3, nt_4, nt_5, nt_6, nt_7, nt_8, nt_10, nt_11, nt_12, nt_13, nt_15, nt_16, nt_30, nt_60, nt_256, nt_300, nt_400, nt_500, nt_1023, nt_1024, ne_0, ne_1, ne_2, ne_3, ne_4, ne_5, ne_6, ne_7, ne_8, ne_10, ne_11, ne_12, ne_13, ne_15, ne_16, ne_30, ne_60, ne_256, ne_300, ne_400, ne_500, ne_1023, ne_1024, le_nn, lt_nn, eq_nn, hq, if_true]
    rw [lvF_end hq, sL_id]
  | r + 1, k, n + 1, σ, h, hn => by
    have hq : ¬ m ≤ k := by omega
    show b_Md_levels_69 (l_Md_levels_69 n) 81 (nI m) x y (nI k) (lay σ) = _
    unfold b_Md_levels_69
    simp (disch := first | assumption | rfl | decide | omega) only [↓ckd_lay, ↓bd_gI, ↓bd_gL, ↓bd_pI, ↓bd_pL, ↓bd_pZ, ↓bd_now, ↓bd_next, ↓bd_ldR3, ↓bd_ldR4, ↓ap_ite, ↓ap_rt, ↓ap_lt, ↓rz_0, ↓rz_1, rz_bi, ↓gr_81_0, ↓gr_81_1, ↓gr_81_2, ↓gr_81_3, ↓gr_81_4, ↓gr_81_7, ↓gr_81_8, ↓gr_81_9, ↓gr_81_11, ↓gr_81_14, ↓gr_81_17, ↓gr_81_18, ↓gr_81_20, ↓gr_81_21, ↓gr_81_25, ↓gr_81_26, ↓gr_81_27, ↓gr_81_28, ↓gr_81_29, ↓gr_81_31, ↓gr_81_32, ↓gr_81_33, ↓gr_81_34, ↓gr_81_36, ↓gr_81_39, ln_0, ln_1, ln_2, ln_3, ln_4, ln_5, ln_6, ln_7, ln_8, ln_10, ln_11, ln_12, ln_13, ln_15, ln_16, ln_30, ln_60, ln_256, ln_300, ln_400, ln_500, ln_1023, ln_1024, nl_0, nl_1, nl_2, nl_3, nl_4, nl_5, nl_6, nl_7, nl_8, nl_10, nl_11, nl_12, nl_13, nl_15, nl_16, nl_30, nl_60, nl_256, nl_300, nl_400, nl_500, nl_1023, nl_1024, tn_0, tn_1, tn_2, tn_3, tn_4, tn_5, tn_6, tn_7, tn_8, tn_10, tn_11, tn_12, tn_13, tn_15, tn_16, tn_30, tn_60, tn_256, tn_300, tn_400, tn_500, tn_1023, tn_1024, nt_0, nt_1, nt_2, nt_3, nt_4, nt_5, nt_6, nt_7, nt_8, nt_10, nt_11, nt_12, nt_13, nt_15, nt_16, nt_30, nt_60, nt_256, nt_300, nt_400, nt_500, nt_1023, nt_1024, ne_0, ne_1, ne_2, ne_3, ne_4, ne_5, ne_6, ne_7, ne_8, ne_10, ne_11, ne_12, ne_13, ne_15, ne_16, ne_30, ne_60, ne_256, ne_300, ne_400, ne_500, ne_1023, ne_1024, le_nn, lt_nn, eq_nn, hq, if_false, ↓la_90, ↓st_90, na_1]
    rw [s_layM hm r (k + 1) n _ (by omega) (by omega), sL_same, sL_sL, lvF_up (by omega)]
theorem lv_toInt {x y : Int64} {k : Nat} (hx : smp x) (hy : 1 ≤ y.toInt ∧ y.toInt ≤ 1000000000) (hk : k ≤ 16) : (x + (nI k).toInt64 * y).toInt = x.toInt + (k : Int) * y.toInt := by
  unfold smp at hx
  have e0 : (nI k).toInt64.toInt = (k : Int) := by rw [Int32.toInt_toInt64, nI_toInt (by omega)]
  have b1 : (0 : Int) ≤ (k : Int) * y.toInt := Int.mul_nonneg (by omega) (by omega)
  have b2 : (k : Int) * y.toInt ≤ 16 * 1000000000 := Int.mul_le_mul (by omega) hy.2 (by omega) (by omega)
  have e1 : ((nI k).toInt64 * y).toInt = (k : Int) * y.toInt := by
    rw [Int64.toInt_mul, e0, Int.bmod_eq_of_le] <;> omega
  rw [toInt_add64 (by omega) (by rw [e1]; omega), e1]
theorem d_levels {σ : SS} {i : Int32} {x y : Int64} (h : Rel σ) : Duo (m_Ob_levels 1 i x y) (m_Md_levels 81 i x y) σ := by
  obtain ⟨⟨P, fs, a, b, S, c, r, p, z⟩, rs⟩ := h.cut2
  obtain ⟨h1, h2, h5, h7, h9, h11, h15, hm, hr, l2⟩ := id c
  obtain ⟨g2, g5, g7, g9, g11, g15, gm, gr, gl⟩ := id r
  have hp2 := p.2.1
  have a1 : (i < 2) ↔ ¬ (2 ≤ i.toInt) := by
    rw [Int32.lt_iff_toInt_lt, show (2 : Int32).toInt = 2 from rfl]; omega
  have a2 : ((16 : Int32) < i) ↔ ¬ (i.toInt ≤ 16) := by
    rw [Int32.lt_iff_toInt_lt, show (16 : Int32).toInt = 16 from rfl]; omega
  have a3 : ((2 : Int64) ≤ i.toInt64 ∧ i.toInt64 ≤ 16) ↔ (2 ≤ i.toInt ∧ i.toInt ≤ 16) := by
    simp only [Int64.le_iff_toInt_le, Int32.toInt_toInt64, show (2 : Int64).toInt = 2 from rfl, show (16 : Int64).toInt = 16 from rfl]
  have b1 : (y < 1) ↔ ¬ (1 ≤ y.toInt) := by
    rw [Int64.lt_iff_toInt_lt, show (1 : Int64).toInt = 1 from rfl]; omega
  have b2 : (y ≤ 1000000000) ↔ (y.toInt ≤ 1000000000) := by
    rw [Int64.le_iff_toInt_le, show (1000000000 : Int64).toInt = 1000000000 from rfl]
  have b3 : ((1 : Int64) ≤ y ∧ y ≤ 1000000000) ↔ (1 ≤ y.toInt ∧ y.toInt ≤ 1000000000) := by
    rw [b2, Int64.le_iff_toInt_le, show (1 : Int64).toInt = 1 from rfl]
  have pre1 : ∀ υ : SS, m_Ob_levels 1 i x y (lay υ) = if ((2 ≤ i.toInt ∧ i.toInt ≤ 16) ∧ (1 ≤ y.toInt ∧ y.toInt ≤ 1000000000)) ∧ smpB x = true ∧ smpB (x + (i - 1).toInt64 * y) = true then (if υ.1 (fa 20 2) 0 ≤ 0 then bd (m_Sp_layLevels 15 i x y) (fun _ => rt 1) (lay υ) else some (-3, lay υ)) else some (-2, lay υ) := by
    intro υ
    unfold m_Ob_levels
    rw [ckd_lay (ci := 8) (o := 1) rfl (by decide)]
    by_cases A : (2 ≤ i.toInt ∧ i.toInt ≤ 16) ∧ (1 ≤ y.toInt ∧ y.toInt ≤ 1000000000)
    · rw [ap_ite, if_neg (fun q => (a1.mp q) A.1.1), ap_ite, if_neg (fun q => (a2.mp q) A.1.2), ap_ite, if_neg (fun q => (b1.mp q) A.2.1), ap_ite, if_pos (b2.mpr A.2.2), q_isSample, ap_ite]
      by_cases B : smpB x = true
      · rw [if_neg (by rw [bi_0]; exact fun q => q B), q_isSample, ap_ite]
        by_cases C : smpB (x + (i - 1).toInt64 * y) = true
        · rw [if_neg (by rw [bi_0]; exact fun q => q C), if_pos ⟨A, B, C⟩]
          simp (disch := first | assumption | rfl | decide | omega) only [↓ckd_lay, ↓bd_gI, ↓bd_gL, ↓bd_pI, ↓bd_pL, ↓bd_pZ, ↓bd_now, ↓bd_next, ↓bd_ldR3, ↓bd_ldR4, ↓ap_ite, ↓ap_rt, ↓ap_lt, ↓rz_0, ↓rz_1, rz_bi, ↓gr_1_0, ↓gr_1_1, ↓gr_1_2, ↓gr_1_3, ↓gr_1_4, ↓gr_1_5, ↓gr_1_6, ↓gr_15_0, ↓gr_15_1, ↓gr_15_2, ↓gr_15_3, ↓gr_20_0, ↓gr_20_1, ↓gr_23_0, ↓gr_23_1, ↓gr_23_2, ↓gr_27_0, ↓gr_27_1, ↓gr_27_2, ↓gr_29_0, ↓gr_29_1, ↓gr_29_2, ↓gr_29_3, ↓gr_29_4, ↓gr_33_0, ↓gr_33_1, ↓gr_now, ↓gr_next]
        · rw [if_pos (by rw [bi_0]; exact C), if_neg (fun q => C q.2.2), ap_rt]
      · rw [if_pos (by rw [bi_0]; exact B), if_neg (fun q => B q.2.1), ap_rt]
    · have A' : ¬ (((2 ≤ i.toInt ∧ i.toInt ≤ 16) ∧ (1 ≤ y.toInt ∧ y.toInt ≤ 1000000000)) ∧ smpB x = true ∧ smpB (x + (i - 1).toInt64 * y) = true) := fun q => A q.1
      rw [if_neg A', ap_ite]
      by_cases q1 : i < 2
      · rw [if_pos q1, ap_rt]
      · rw [if_neg q1, ap_ite]
        by_cases q2 : (16 : Int32) < i
        · rw [if_pos q2, ap_rt]
        · rw [if_neg q2, ap_ite]
          by_cases q3 : y < 1
          · rw [if_pos q3, ap_rt]
          · rw [if_neg q3, ap_ite]
            by_cases q4 : y ≤ 1000000000
            · exact absurd ⟨⟨Classical.not_not.mp (fun w => q1 (a1.mpr w)), Classical.not_not.mp (fun w => q2 (a2.mpr w))⟩, Classical.not_not.mp (fun w => q3 (b1.mpr w)), b2.mp q4⟩ A
            · rw [if_neg q4, ap_rt]
  have pre2 : ∀ υ : SS, m_Md_levels 81 i x y (lay υ) = if ((2 ≤ i.toInt ∧ i.toInt ≤ 16) ∧ (1 ≤ y.toInt ∧ y.toInt ≤ 1000000000)) ∧ smpB x = true ∧ smpB (x + (i - 1).toInt64 * y) = true then (if υ.1 (fa 81 16) 0 ≤ 0 then l_Md_levels_69 FU 81 i x y 0 (lay (sI υ (fa 81 10) (fun _ => i))) else some (-3, lay υ)) else some (-2, lay υ) := by
    intro υ
    unfold m_Md_levels
    rw [ckd_lay (ci := 9) (o := 81) rfl (by decide), q_in, ap_ite]
    by_cases A : 2 ≤ i.toInt ∧ i.toInt ≤ 16
    · rw [if_neg (by rw [bi_0]; exact fun q => q (a3.mpr A)), q_isSampleM, ap_ite]
      by_cases B : smpB x = true
      · rw [if_neg (by rw [bi_0]; exact fun q => q B), q_in, ap_ite]
        by_cases D : 1 ≤ y.toInt ∧ y.toInt ≤ 1000000000
        · rw [if_neg (by rw [bi_0]; exact fun q => q (b3.mpr D)), q_isSampleM, ap_ite]
          by_cases C : smpB (x + (i - 1).toInt64 * y) = true
          · rw [if_neg (by rw [bi_0]; exact fun q => q C), if_pos ⟨⟨A, D⟩, B, C⟩]
            simp (disch := first | assumption | rfl | decide | omega) only [↓ckd_lay, ↓bd_gI, ↓bd_gL, ↓bd_pI, ↓bd_pL, ↓bd_pZ, ↓bd_now, ↓bd_next, ↓bd_ldR3, ↓bd_ldR4, ↓ap_ite, ↓ap_rt, ↓ap_lt, ↓rz_0, ↓rz_1, rz_bi, ↓gr_81_0, ↓gr_81_1, ↓gr_81_2, ↓gr_81_3, ↓gr_81_4, ↓gr_81_7, ↓gr_81_8, ↓gr_81_9, ↓gr_81_11, ↓gr_81_14, ↓gr_81_17, ↓gr_81_18, ↓gr_81_20, ↓gr_81_21, ↓gr_81_25, ↓gr_81_26, ↓gr_81_27, ↓gr_81_28, ↓gr_81_29, ↓gr_81_31, ↓gr_81_32, ↓gr_81_33, ↓gr_81_34, ↓gr_81_36, ↓gr_81_39]
          · rw [if_pos (by rw [bi_0]; exact C), if_neg (fun q => C q.2.2), ap_rt]
        · rw [if_pos (by rw [bi_0, b3]; exact D), if_neg (fun q => D q.1.2), ap_rt]
      · rw [if_pos (by rw [bi_0]; exact B), if_neg (fun q => B q.2.1), ap_rt]
    · rw [if_pos (by rw [bi_0, a3]; exact A), if_neg (fun q => A q.1.1), ap_rt]
  by_cases hw : ((2 ≤ i.toInt ∧ i.toInt ≤ 16) ∧ (1 ≤ y.toInt ∧ y.toInt ≤ 1000000000)) ∧ smpB x = true ∧ smpB (x + (i - 1).toInt64 * y) = true
  · by_cases h0 : S.1 = 0
    · have h0' : S.1 ≤ 0 := by omega
      obtain ⟨⟨⟨A1, A2⟩, B⟩, hx, hend⟩ := id hw
      obtain ⟨j, hj, hij⟩ := nI_ex (n := 17) (x := i) (by omega) (by rw [Int32.le_iff_toInt_le, show (0 : Int32).toInt = 0 from rfl]; omega) (by rw [Int32.lt_iff_toInt_lt, show (nI 17).toInt = 17 from rfl]; omega)
      rw [hij, nI_toInt (by omega)] at A1 A2
      rw [hij, ns_1 _ (by omega)] at hend
      have sx := (smpB_iff x).mp hx
      have se := (smpB_iff _).mp hend
      have te := lv_toInt (k := j - 1) sx B (by omega)
      unfold smp at se
      rw [te] at se
      have mc : Mod [fa 15 5, 19] σ (sL (sI σ (fa 15 5) (fun _ => nI j)) 19 (lvF j x y (σ.2.1 19) 0)) := (Mod.I (by simp)).tr (Mod.L (by simp))
      have hne : fa a 4 ≠ 19 := by unfold fa; omega
      have c1 : CI (sL (sI σ (fa 15 5) (fun _ => nI j)) 19 (lvF j x y (σ.2.1 19) 0)) (P.1, P.2.1, P.2.2.1, P.2.2.2.1, lvF j x y P.2.2.2.2.1 0, j, P.2.2.2.2.2.2) fs a b (0, S.2.1, fs, S.2.2.2) := by
        refine c.re h0 mc ?_ ⟨?_, h2.2.1, ?_, ?_, ?_, ?_, ?_⟩ h5 ?_
        · rcases h1.2 with ⟨rfl, rfl⟩ | ⟨rfl, rfl⟩ <;> decide
        · rw [mc.i (by decide)]; exact h2.1
        · rw [mc.i (by decide)]; exact h2.2.2.1
        · rw [mc.i (by decide)]; exact h2.2.2.2.1
        · rw [sL_same, h2.2.2.2.2.1]
        · rw [sL_1]; exact sI_row
        · rw [mc.i (by decide)]; exact h2.2.2.2.2.2.2
        · rw [sL_ne hne]; exact h7.trans (p.at0 h0).2
      have r1 : RI (sL (sI σ (fa 15 5) (fun _ => nI j)) 19 (lvF j x y (σ.2.1 19) 0)) P fs S := r.mod mc.p (by decide)
      generalize hτ : sL (sI σ (fa 15 5) (fun _ => nI j)) 19 (lvF j x y (σ.2.1 19) 0) = τ at c1 r1 mc
      obtain ⟨f2, f5, f7, f9, f11, f15, fm, fr, fl⟩ := id r1
      have mr : Mod [fa 81 10, 90] τ (sL (sI τ (fa 81 10) (fun _ => nI j)) 90 (lvF j x y (τ.2.1 90) 0)) := (Mod.I (by simp)).tr (Mod.L (by simp))
      have r2 : RI (sL (sI τ (fa 81 10) (fun _ => nI j)) 90 (lvF j x y (τ.2.1 90) 0)) (P.1, P.2.1, P.2.2.1, P.2.2.2.1, lvF j x y P.2.2.2.2.1 0, j, P.2.2.2.2.2.2) fs (0, S.2.1, fs, S.2.2.2) := by
        refine r1.re h0 mr (by decide) ⟨?_, f2.2.1, ?_, ?_, ?_, ?_, ?_⟩ f9 f5 ?_
        · rw [mr.i (by decide)]; exact f2.1
        · rw [mr.i (by decide)]; exact f2.2.2.1
        · rw [mr.i (by decide)]; exact f2.2.2.2.1
        · rw [sL_same, f2.2.2.2.2.1]
        · rw [sL_1]; exact sI_row
        · rw [mr.i (by decide)]; exact f2.2.2.2.2.2.2
        · exact f7.trans (p.at0 h0).2
      have val : ∀ k, k < j → (lvF j x y P.2.2.2.2.1 0 k).toInt = x.toInt + (k : Int) * y.toInt := fun k hk => by
        unfold lvF
        rw [if_pos (by omega)]
        exact lv_toInt sx B (by omega)
      have pA : AllP (P.1, P.2.1, P.2.2.1, P.2.2.2.1, lvF j x y P.2.2.2.2.1 0, j, P.2.2.2.2.2.2) := by
        refine ⟨⟨⟨p.1.1.1.1, by show 2 ≤ j; omega, by show j ≤ 16; omega, p.1.1.1.2.2.2⟩, p.1.1.2⟩, fun k hk => ?_, fun k hk => ?_⟩
        · have hk' : k + 1 < j := hk
          show (lvF j x y P.2.2.2.2.1 0 k).toInt < (lvF j x y P.2.2.2.2.1 0 (k + 1)).toInt
          rw [val k (by omega), val (k + 1) hk', show ((k + 1 : Nat) : Int) = (k : Int) + 1 by omega, Int.add_mul]
          omega
        · have hk' : k < j := hk
          show -1000000000000 ≤ (lvF j x y P.2.2.2.2.1 0 k).toInt ∧ (lvF j x y P.2.2.2.2.1 0 k).toInt ≤ 1000000000000
          rw [val k hk']
          unfold smp at sx
          have q1 : (0 : Int) ≤ (k : Int) * y.toInt := Int.mul_nonneg (by omega) (by omega)
          have q2 : (k : Int) * y.toInt ≤ ((j - 1 : Nat) : Int) * y.toInt := Int.mul_le_mul_of_nonneg_right (by omega) (by omega)
          omega
      refine ⟨1, τ, _, ?_, ?_, Rel.mk2 (c1.mod mr (by decide)) r2 (p.re h0 pA) ((z.mdp mc.p (by decide)).mdp mr.p (by decide)) ((rs.mdp mc.p (by decide)).mdp mr.p (by decide))⟩
      · rw [pre1 σ, if_pos hw, h15, if_pos (by rw [nl_0 (by omega)]; exact h0')]
        have e : m_Sp_layLevels 15 i x y (lay σ) = some ((), lay τ) := by
          unfold m_Sp_layLevels
          simp (disch := first | assumption | rfl | decide | omega) only [↓ckd_lay, ↓bd_gI, ↓bd_gL, ↓bd_pI, ↓bd_pL, ↓bd_pZ, ↓bd_now, ↓bd_next, ↓bd_ldR3, ↓bd_ldR4, ↓ap_ite, ↓ap_rt, ↓ap_lt, ↓rz_0, ↓rz_1, rz_bi]
          rw [hij, ← hτ]
          exact s_layGo (by omega) j 0 FU (sI σ (fa 15 5) (fun _ => nI j)) (by omega) (by unfold FU; omega)
        rw [bd_eq e, ap_rt]
      · rw [pre2 τ, if_pos hw, f15, if_pos (by rw [nl_0 (by omega)]; exact h0'), hij]
        exact s_layM (by omega) j 0 FU (sI τ (fa 81 10) (fun _ => nI j)) (by omega) (by unfold FU; omega)
    · refine Duo.same h (-3) ?_ ?_
      · rw [pre1 σ, if_pos hw, h15, if_neg (by rw [nl_0 (by omega)]; omega)]
      · rw [pre2 σ, if_pos hw, g15, if_neg (by rw [nl_0 (by omega)]; omega)]
  · refine Duo.same h (-2) ?_ ?_
    · rw [pre1 σ, if_neg hw]
    · rw [pre2 σ, if_neg hw]
