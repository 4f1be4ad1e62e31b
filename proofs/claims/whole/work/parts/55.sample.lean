/-! sample. -/
theorem nI_sgn (n : Nat) : (0 ≤ (nI n).toInt) ↔ n % 2 ^ 32 < 2 ^ 31 := by
  have e : (nI n).toInt = (nI n).toBitVec.toInt := rfl
  rw [e, BitVec.toInt_eq_toNat_cond, nI_bits]
  split <;> omega
theorem cut4 {l : Int64} (hl : l = l.toInt32.toInt64) (h : (l &&& 2147483647) ≤ 2139095040) : ∃ v, smp v ∧ (∀ σ : SS, m_Ob_cutToSample 4 l (lay σ) = some (v, lay σ)) ∧ ∀ τ : SS, m_Md_sampleOf_99 (FP.f2l l.toInt32.toUInt32) (lay τ) = some (v, lay τ) := by
  obtain ⟨n, hn, rfl⟩ := wb_of l
  have em : lN n &&& 2147483647 = lN (n % 2 ^ 31) := wb_mask (k := 31) hn (by decide)
  have hm31 : n % 2 ^ 31 < 2 ^ 31 := Nat.mod_lt _ (by decide)
  rw [em, Int64.le_iff_toInt_le, lN_T (by omega), show (2139095040 : Int64).toInt = 2139095040 from rfl] at h
  have sg : (0 ≤ (lN n).toInt) ↔ n % 2 ^ 32 < 2 ^ 31 := by
    rw [hl, Int32.toInt_toInt64, lN_i32]
    exact nI_sgn n
  have e1 : ((lN n).toUInt64 >>> ((23 : Int32).toInt64.toUInt64 &&& Int64.toUInt64 63)).toInt64 &&& 255 = lN (n / 2 ^ 23 % 256) := by
    rw [show (23 : Int32) = nI 23 from rfl, wb_shr hn (by decide)]
    exact wb_mask (k := 8) (by omega) (by decide)
  have e2 : lN n &&& 8388607 = lN (n % 2 ^ 23) := wb_mask (k := 23) hn (by decide)
  have x1 : n % 2 ^ 32 / 2 ^ 23 % 256 = n / 2 ^ 23 % 256 := by omega
  have x2 : n % 2 ^ 32 % 2 ^ 23 = n % 2 ^ 23 := by omega
  have hs := fun σ : SS => s_size (σ := σ) (w := 23) (B := 127) (e := n / 2 ^ 23 % 256) (t := n % 2 ^ 23) (Or.inl ⟨rfl, rfl⟩) (by omega) (Nat.mod_lt _ (by decide))
  obtain ⟨v, c1, c2⟩ := s_cut70 (σ := (fun _ _ => 0, fun _ _ => 0, 0, 0)) (l := lN n) (m := pSize 23 127 (n / 2 ^ 23 % 256) (n % 2 ^ 23)) pSize_le
  have hv : ∀ σ : SS, m_Ob_cutToSample_70 (lN n) (lN (pSize 23 127 (n / 2 ^ 23 % 256) (n % 2 ^ 23))) (lay σ) = some (v, lay σ) := fun σ => by
    obtain ⟨v', d1, d2⟩ := s_cut70 (σ := σ) (l := lN n) (m := pSize 23 127 (n / 2 ^ 23 % 256) (n % 2 ^ 23)) pSize_le
    have : v' = v := Int64.toInt_inj.mp (d2.trans c2.symm)
    rw [d1, this]
  have ple := pSize_le (w := 23) (B := 127) (e := n / 2 ^ 23 % 256) (t := n % 2 ^ 23)
  refine ⟨v, ?_, fun σ => ?_, fun τ => ?_⟩
  · unfold smp
    rw [c2]
    split <;> omega
  · unfold m_Ob_cutToSample
    rw [ap_ite, if_pos (by decide), ap_ite, if_pos rfl, e1, e2]
    rw [show (23 : Int32) = nI 23 from rfl, show (127 : Int32) = nI 127 from rfl, bd_eq (hs σ)]
    exact hv σ
  · obtain ⟨v', d1, d2⟩ := s_sampleOf99 (σ := τ) (l := FP.f2l (lN n).toInt32.toUInt32)
    have en : (lN n).toInt32.toUInt32.toNat = n % 2 ^ 32 := by
      rw [lN_i32]
      show (nI n).toBitVec.toNat = _
      exact nI_bits n
    have ef := flt (f := FP.Core.b32) (w := 23) (B := 127) (n := n % 2 ^ 32) rfl (by decide) rfl (by decide) (by omega)
    have esg : FP.Core.fieldS FP.Core.b32 (n % 2 ^ 32) = decide (2 ^ 31 ≤ n % 2 ^ 32) := by
      show (n % 2 ^ 32 / 2 ^ 23 / 2 ^ 8 % 2 == 1) = _
      by_cases q : 2 ^ 31 ≤ n % 2 ^ 32
      · have : n % 2 ^ 32 / 2 ^ 23 / 2 ^ 8 % 2 = 1 := by omega
        simp only [this, q]; rfl
      · have : n % 2 ^ 32 / 2 ^ 23 / 2 ^ 8 % 2 = 0 := by omega
        simp only [this, q]; rfl
    have : v' = v := by
      apply Int64.toInt_inj.mp
      rw [d2, c2]
      show clamp12 (FP.Core.toL (FP.Core.decode FP.Core.b32 (lN n).toInt32.toUInt32.toNat)).toInt = _
      rw [toL_T, en, ef, esg, show 2 * 127 + 2 = 256 from rfl, x1, x2]
      by_cases q : n % 2 ^ 32 < 2 ^ 31
      · rw [if_pos (sg.mpr q), if_neg (by simp only [decide_eq_true_eq]; omega)]
      · rw [if_neg (fun w => q (sg.mp w)), if_pos (by simp only [decide_eq_true_eq]; omega)]
    rw [d1, this]
theorem no_sn4 {l : Int64} (h : (l &&& 2147483647) ≤ 2139095040) : vn_sni2f l.toInt32 = false := by
  obtain ⟨n, hn, rfl⟩ := wb_of l
  have em : lN n &&& 2147483647 = lN (n % 2 ^ 31) := wb_mask (k := 31) hn (by decide)
  have hm31 : n % 2 ^ 31 < 2 ^ 31 := Nat.mod_lt _ (by decide)
  rw [em, Int64.le_iff_toInt_le, lN_T (by omega), show (2139095040 : Int64).toInt = 2139095040 from rfl] at h
  unfold vn_sni2f
  rw [Bool.and_eq_false_iff]
  left
  rw [decide_eq_false_iff_not]
  show ¬ (0x7f800000 : UInt32) < _
  rw [UInt32.lt_iff_toNat_lt, UInt32.toNat_and, lN_i32]
  show ¬ 2139095040 < (nI n).toBitVec.toNat &&& (2 ^ 31 - 1)
  rw [nI_bits, Nat.and_two_pow_sub_one_eq_mod]
  omega
theorem no_sn5 {l : Int64} (h : (l &&& 9223372036854775807) ≤ 9218868437227405312) : vn_snl2d l = false := by
  obtain ⟨n, hn, rfl⟩ := wb_of l
  have em : lN n &&& 9223372036854775807 = lN (n % 2 ^ 63) := wb_mask (k := 63) hn (by decide)
  have hm63 : n % 2 ^ 63 < 2 ^ 63 := Nat.mod_lt _ (by decide)
  rw [em, Int64.le_iff_toInt_le, lN_T hm63, show (9218868437227405312 : Int64).toInt = 9218868437227405312 from rfl] at h
  unfold vn_snl2d
  rw [Bool.and_eq_false_iff]
  left
  rw [decide_eq_false_iff_not]
  show ¬ (0x7ff0000000000000 : UInt64) < _
  rw [UInt64.lt_iff_toNat_lt, UInt64.toNat_and]
  show ¬ 9218868437227405312 < (lN n).toBitVec.toNat &&& (2 ^ 63 - 1)
  rw [wb_tn hn, Nat.and_two_pow_sub_one_eq_mod]
  omega
theorem s_latest {σ : SS} {T : Nat} (ht : σ.1 (fa 20 2) 0 = nI T) (hT : T ≤ 300) : m_Lg_latestMade 20 (lay σ) = some (if T = 0 then 0 else σ.2.1 22 (T - 1), lay σ) := by
  unfold m_Lg_latestMade
  by_cases q : T = 0
  · have q' : T ≤ 0 := by omega
    simp (disch := first | assumption | rfl | decide | omega) only [↓ckd_lay, ↓bd_gI, ↓bd_gL, ↓bd_pI, ↓bd_pL, ↓bd_pZ, ↓bd_now, ↓bd_next, ↓bd_ldR3, ↓bd_ldR4, ↓ap_ite, ↓ap_rt, ↓ap_lt, ↓rz_0, ↓rz_1, rz_bi, ↓gr_1_0, ↓gr_1_1, ↓gr_1_2, ↓gr_1_3, ↓gr_1_4, ↓gr_1_5, ↓gr_1_6, ↓gr_15_0, ↓gr_15_1, ↓gr_15_2, ↓gr_15_3, ↓gr_20_0, ↓gr_20_1, ↓gr_23_0, ↓gr_23_1, ↓gr_23_2, ↓gr_27_0, ↓gr_27_1, ↓gr_27_2, ↓gr_29_0, ↓gr_29_1, ↓gr_29_2, ↓gr_29_3, ↓gr_29_4, ↓gr_33_0, ↓gr_33_1, ↓gr_now, ↓gr_next, ht, ln_0, ln_1, ln_2, ln_3, ln_4, ln_5, ln_6, ln_7, ln_8, ln_10, ln_11, ln_12, ln_13, ln_15, ln_16, ln_30, ln_60, ln_256, ln_300, ln_400, ln_500, ln_1023, ln_1024, nl_0, nl_1, nl_2, nl_3, nl_4, nl_5, nl_6, nl_7, nl_8, nl_10, nl_11, nl_12, nl_13, nl_15, nl_16, nl_30, nl_60, nl_256, nl_300, nl_400, nl_500, nl_1023, nl_1024, tn_0, tn_1, tn_2, tn_3, tn_4, tn_5, tn_6, tn_7, tn_8, tn_10, tn_11, tn_12, tn_13, tn_15, tn_16, tn_30, tn_60, tn_256, tn_300, tn_400, tn_500, tn_1023, tn_1024, nt_0, nt_1, nt_2, nt_3, nt_4, nt_5, nt_6, nt_7, nt_8, nt_10, nt_11, nt_12, nt_13, nt_15, nt_16, nt_30, nt_60, nt_256, nt_300, nt_400, nt_500, nt_1023, nt_1024, ne_0, ne_1, ne_2, ne_3, ne_4, ne_5, ne_6, ne_7, ne_8, ne_10, ne_11, ne_12, ne_13, ne_15, ne_16, ne_30, ne_60, ne_256, ne_300, ne_400, ne_500, ne_1023, ne_1024, le_nn, lt_nn, eq_nn, q', if_true]
    rw [if_pos q]
  · have q' : ¬ T ≤ 0 := by omega
    simp (disch := first | assumption | rfl | decide | omega) only [↓ckd_lay, ↓bd_gI, ↓bd_gL, ↓bd_pI, ↓bd_pL, ↓bd_pZ, ↓bd_now, ↓bd_next, ↓bd_ldR3, ↓bd_ldR4, ↓ap_ite, ↓ap_rt, ↓ap_lt, ↓rz_0, ↓rz_1, rz_bi, ↓gr_1_0, ↓gr_1_1, ↓gr_1_2, ↓gr_1_3, ↓gr_1_4, ↓gr_1_5, ↓gr_1_6, ↓gr_15_0, ↓gr_15_1, ↓gr_15_2, ↓gr_15_3, ↓gr_20_0, ↓gr_20_1, ↓gr_23_0, ↓gr_23_1, ↓gr_23_2, ↓gr_27_0, ↓gr_27_1, ↓gr_27_2, ↓gr_29_0, ↓gr_29_1, ↓gr_29_2, ↓gr_29_3, ↓gr_29_4, ↓gr_33_0, ↓gr_33_1, ↓gr_now, ↓gr_next, ht, ln_0, ln_1, ln_2, ln_3, ln_4, ln_5, ln_6, ln_7, ln_8, ln_10, ln_11, ln_12, ln_13, ln_15, ln_16, ln_30, ln_60, ln_256, ln_300, ln_400, ln_500, ln_1023, ln_1024, nl_0, nl_1, nl_2, nl_3, nl_4, nl_5, nl_6, nl_7, nl_8, nl_10, nl_11, nl_12, nl_13, nl_15, nl_16, nl_30, nl_60, nl_256, nl_300, nl_400, nl_500, nl_1023, nl_1024, tn_0, tn_1, tn_2, tn_3, tn_4, tn_5, tn_6, tn_7, tn_8, tn_10, tn_11, tn_12, tn_13, tn_15, tn_16, tn_30, tn_60, tn_256, tn_300, tn_400, tn_500, tn_1023, tn_1024, nt_0, nt_1, nt_2, nt_3, nt_4, nt_5, nt_6, nt_7, nt_8, nt_10, nt_11, nt_12, nt_13, nt_15, nt_16, nt_30, nt_60, nt_256, nt_300, nt_400, nt_500, nt_1023, nt_1024, ne_0, ne_1, ne_2, ne_3, ne_4, ne_5, ne_6, ne_7, ne_8, ne_10, ne_11, ne_12, ne_13, ne_15, ne_16, ne_30, ne_60, ne_256, ne_300, ne_400, ne_500, ne_1023, ne_1024, le_nn, lt_nn, eq_nn, q', if_false, ns_1, ↓la_22, ↓st_22]
    rw [if_neg q]
/-- an item as a sample, by both -/
theorem smp_both {f : Nat} {b x : Int64} (hf : f < 6) (hc : canon (nI f) b) (hx : smp x) : ∃ v, smp v ∧ (∀ (σ : SS) (j w : Nat), j < 6 → w < 60 → σ.1 (fa (3 + 2 * j) 2) 0 = nI f → σ.2.1 (4 + 2 * j) w = b → m_Rl_sampleOf (3 + 2 * j) (nI w) x (lay σ) = some (v, lay σ)) ∧ ∀ (τ : SS) (q T : Nat), q < 360 → T ≤ 300 → τ.2.1 85 q = b → τ.1 (fa 81 16) 0 = nI T → x = (if T = 0 then 0 else τ.2.1 92 (T - 1)) → m_Md_sampleOf 81 (nI q) (nI f) (lay τ) = some (v, lay τ) := by
  -- what is left: whether it is no number, and the cut
  have key : ∃ (nn : Prop) (_ : Decidable nn) (v : Int64), smp v ∧ (∀ σ : SS, m_Ob_isNoNumber (nI f) b (lay σ) = some (bi nn, lay σ)) ∧ (nn → v = x) ∧ (¬ nn → ∀ σ : SS, m_Ob_cutToSample (nI f) b (lay σ) = some (v, lay σ)) ∧ ∀ (τ : SS) (q T : Nat), q < 360 → T ≤ 300 → τ.2.1 85 q = b → τ.1 (fa 81 16) 0 = nI T → x = (if T = 0 then 0 else τ.2.1 92 (T - 1)) → m_Md_sampleOf 81 (nI q) (nI f) (lay τ) = some (v, lay τ) := by
    by_cases f4 : f = 4
    · subst f4
      obtain ⟨hb, hor⟩ := hc.1 rfl
      by_cases hq : (b &&& 2147483647) ≤ 2139095040
      · obtain ⟨v, s1, s2, s3⟩ := cut4 hb hq
        refine ⟨¬ (b &&& 2147483647) ≤ 2139095040, inferInstance, v, s1, fun σ => s_noNum4, fun w => absurd hq w, fun _ => s2, fun τ q T hq3 hT e85 e16 ex => ?_⟩
        have hne : ¬ b.toInt32 = 2143289344 := fun w => by
          rw [m31_le, w] at hq
          exact absurd hq (by decide)
        have ei : ibf b.toInt32 (lay τ) = some (b.toInt32.toUInt32, lay τ) := by unfold ibf; rw [if_pos (no_sn4 hq)]
        unfold m_Md_sampleOf
        simp (disch := first | assumption | rfl | decide | omega) only [↓ckd_lay, ↓bd_gI, ↓bd_gL, ↓bd_pI, ↓bd_pL, ↓bd_pZ, ↓bd_now, ↓bd_next, ↓bd_ldR3, ↓bd_ldR4, ↓ap_ite, ↓ap_rt, ↓ap_lt, ↓rz_0, ↓rz_1, rz_bi, ↓gr_81_0, ↓gr_81_1, ↓gr_81_2, ↓gr_81_3, ↓gr_81_4, ↓gr_81_7, ↓gr_81_8, ↓gr_81_9, ↓gr_81_11, ↓gr_81_14, ↓gr_81_17, ↓gr_81_18, ↓gr_81_20, ↓gr_81_21, ↓gr_81_25, ↓gr_81_26, ↓gr_81_27, ↓gr_81_28, ↓gr_81_29, ↓gr_81_31, ↓gr_81_32, ↓gr_81_33, ↓gr_81_34, ↓gr_81_36, ↓gr_81_39, ↓la_85, ↓st_85, e85, ln_0, ln_1, ln_2, ln_3, ln_4, ln_5, ln_6, ln_7, ln_8, ln_10, ln_11, ln_12, ln_13, ln_15, ln_16, ln_30, ln_60, ln_256, ln_300, ln_400, ln_500, ln_1023, ln_1024, nl_0, nl_1, nl_2, nl_3, nl_4, nl_5, nl_6, nl_7, nl_8, nl_10, nl_11, nl_12, nl_13, nl_15, nl_16, nl_30, nl_60, nl_256, nl_300, nl_400, nl_500, nl_1023, nl_1024, tn_0, tn_1, tn_2, tn_3, tn_4, tn_5, tn_6, tn_7, tn_8, tn_10, tn_11, tn_12, tn_13, tn_15, tn_16, tn_30, tn_60, tn_256, tn_300, tn_400, tn_500, tn_1023, tn_1024, nt_0, nt_1, nt_2, nt_3, nt_4, nt_5, nt_6, nt_7, nt_8, nt_10, nt_11, nt_12, nt_13, nt_15, nt_16, nt_30, nt_60, nt_256, nt_300, nt_400, nt_500, nt_1023, nt_1024, ne_0, ne_1, ne_2, ne_3, ne_4, ne_5, ne_6, ne_7, ne_8, ne_10, ne_11, ne_12, ne_13, ne_15, ne_16, ne_30, ne_60, ne_256, ne_300, ne_400, ne_500, ne_1023, ne_1024, le_nn, lt_nn, eq_nn, if_true]
        rw [if_neg hne, bd_eq ei, ap_lt]
        exact s3 τ
      · have hb2 := hor.resolve_left hq
        refine ⟨¬ (b &&& 2147483647) ≤ 2139095040, inferInstance, x, hx, fun σ => s_noNum4, fun _ => rfl, fun w => absurd hq w, fun τ q T hq3 hT e85 e16 ex => ?_⟩
        have heq : b.toInt32 = 2143289344 := by rw [hb2]; rfl
        unfold m_Md_sampleOf
        simp (disch := first | assumption | rfl | decide | omega) only [↓ckd_lay, ↓bd_gI, ↓bd_gL, ↓bd_pI, ↓bd_pL, ↓bd_pZ, ↓bd_now, ↓bd_next, ↓bd_ldR3, ↓bd_ldR4, ↓ap_ite, ↓ap_rt, ↓ap_lt, ↓rz_0, ↓rz_1, rz_bi, ↓gr_81_0, ↓gr_81_1, ↓gr_81_2, ↓gr_81_3, ↓gr_81_4, ↓gr_81_7, ↓gr_81_8, ↓gr_81_9, ↓gr_81_11, ↓gr_81_14, ↓gr_81_17, ↓gr_81_18, ↓gr_81_20, ↓gr_81_21, ↓gr_81_25, ↓gr_81_26, ↓gr_81_27, ↓gr_81_28, ↓gr_81_29, ↓gr_81_31, ↓gr_81_32, ↓gr_81_33, ↓gr_81_34, ↓gr_81_36, ↓gr_81_39, ↓la_85, ↓st_85, e85, ln_0, ln_1, ln_2, ln_3, ln_4, ln_5, ln_6, ln_7, ln_8, ln_10, ln_11, ln_12, ln_13, ln_15, ln_16, ln_30, ln_60, ln_256, ln_300, ln_400, ln_500, ln_1023, ln_1024, nl_0, nl_1, nl_2, nl_3, nl_4, nl_5, nl_6, nl_7, nl_8, nl_10, nl_11, nl_12, nl_13, nl_15, nl_16, nl_30, nl_60, nl_256, nl_300, nl_400, nl_500, nl_1023, nl_1024, tn_0, tn_1, tn_2, tn_3, tn_4, tn_5, tn_6, tn_7, tn_8, tn_10, tn_11, tn_12, tn_13, tn_15, tn_16, tn_30, tn_60, tn_256, tn_300, tn_400, tn_500, tn_1023, tn_1024, nt_0, nt_1, nt_2, nt_3, nt_4, nt_5, nt_6, nt_7, nt_8, nt_10, nt_11, nt_12, nt_13, nt_15, nt_16, nt_30, nt_60, nt_256, nt_300, nt_400, nt_500, nt_1023, nt_1024, ne_0, ne_1, ne_2, ne_3, ne_4, ne_5, ne_6, ne_7, ne_8, ne_10, ne_11, ne_12, ne_13, ne_15, ne_16, ne_30, ne_60, ne_256, ne_300, ne_400, ne_500, ne_1023, ne_1024, le_nn, lt_nn, eq_nn, if_true]
        rw [if_pos heq]
        by_cases q0 : T = 0
        · simp (disch := first | assumption | rfl | decide | omega) only [↓ckd_lay, ↓bd_gI, ↓bd_gL, ↓bd_pI, ↓bd_pL, ↓bd_pZ, ↓bd_now, ↓bd_next, ↓bd_ldR3, ↓bd_ldR4, ↓ap_ite, ↓ap_rt, ↓ap_lt, ↓rz_0, ↓rz_1, rz_bi, ↓gr_81_0, ↓gr_81_1, ↓gr_81_2, ↓gr_81_3, ↓gr_81_4, ↓gr_81_7, ↓gr_81_8, ↓gr_81_9, ↓gr_81_11, ↓gr_81_14, ↓gr_81_17, ↓gr_81_18, ↓gr_81_20, ↓gr_81_21, ↓gr_81_25, ↓gr_81_26, ↓gr_81_27, ↓gr_81_28, ↓gr_81_29, ↓gr_81_31, ↓gr_81_32, ↓gr_81_33, ↓gr_81_34, ↓gr_81_36, ↓gr_81_39, e16, ln_0, ln_1, ln_2, ln_3, ln_4, ln_5, ln_6, ln_7, ln_8, ln_10, ln_11, ln_12, ln_13, ln_15, ln_16, ln_30, ln_60, ln_256, ln_300, ln_400, ln_500, ln_1023, ln_1024, nl_0, nl_1, nl_2, nl_3, nl_4, nl_5, nl_6, nl_7, nl_8, nl_10, nl_11, nl_12, nl_13, nl_15, nl_16, nl_30, nl_60, nl_256, nl_300, nl_400, nl_500, nl_1023, nl_1024, tn_0, tn_1, tn_2, tn_3, tn_4, tn_5, tn_6, tn_7, tn_8, tn_10, tn_11, tn_12, tn_13, tn_15, tn_16, tn_30, tn_60, tn_256, tn_300, tn_400, tn_500, tn_1023, tn_1024, nt_0, nt_1, nt_2, nt_3, nt_4, nt_5, nt_6, nt_7, nt_8, nt_10, nt_11, nt_12, nt_13, nt_15, nt_16, nt_30, nt_60, nt_256, nt_300, nt_400, nt_500, nt_1023, nt_1024, ne_0, ne_1, ne_2, ne_3, ne_4, ne_5, ne_6, ne_7, ne_8, ne_10, ne_11, ne_12, ne_13, ne_15, ne_16, ne_30, ne_60, ne_256, ne_300, ne_400, ne_500, ne_1023, ne_1024, le_nn, lt_nn, eq_nn, q0, if_true]
          rw [ex, if_pos q0]
        · simp (disch := first | assumption | rfl | decide | omega) only [↓ckd_lay, ↓bd_gI, ↓bd_gL, ↓bd_pI, ↓bd_pL, ↓bd_pZ, ↓bd_now, ↓bd_next, ↓bd_ldR3, ↓bd_ldR4, ↓ap_ite, ↓ap_rt, ↓ap_lt, ↓rz_0, ↓rz_1, rz_bi, ↓gr_81_0, ↓gr_81_1, ↓gr_81_2, ↓gr_81_3, ↓gr_81_4, ↓gr_81_7, ↓gr_81_8, ↓gr_81_9, ↓gr_81_11, ↓gr_81_14, ↓gr_81_17, ↓gr_81_18, ↓gr_81_20, ↓gr_81_21, ↓gr_81_25, ↓gr_81_26, ↓gr_81_27, ↓gr_81_28, ↓gr_81_29, ↓gr_81_31, ↓gr_81_32, ↓gr_81_33, ↓gr_81_34, ↓gr_81_36, ↓gr_81_39, e16, ln_0, ln_1, ln_2, ln_3, ln_4, ln_5, ln_6, ln_7, ln_8, ln_10, ln_11, ln_12, ln_13, ln_15, ln_16, ln_30, ln_60, ln_256, ln_300, ln_400, ln_500, ln_1023, ln_1024, nl_0, nl_1, nl_2, nl_3, nl_4, nl_5, nl_6, nl_7, nl_8, nl_10, nl_11, nl_12, nl_13, nl_15, nl_16, nl_30, nl_60, nl_256, nl_300, nl_400, nl_500, nl_1023, nl_1024, tn_0, tn_1, tn_2, tn_3, tn_4, tn_5, tn_6, tn_7, tn_8, tn_10, tn_11, tn_12, tn_13, tn_15, tn_16, tn_30, tn_60, tn_256, tn_300, tn_400, tn_500, tn_1023, tn_1024, nt_0, nt_1, nt_2, nt_3, nt_4, nt_5, nt_6, nt_7, nt_8, nt_10, nt_11, nt_12, nt_13, nt_15, nt_16, nt_30, nt_60, nt_256, nt_300, nt_400, nt_500, nt_1023, nt_1024, ne_0, ne_1, ne_2, ne_3, ne_4, ne_5, ne_6, ne_7, ne_8, ne_10, ne_11, ne_12, ne_13, ne_15, ne_16, ne_30, ne_60, ne_256, ne_300, ne_400, ne_500, ne_1023, ne_1024, le_nn, lt_nn, eq_nn, q0, if_false, ns_1, ↓la_92, ↓st_92]
          rw [ex, if_neg q0]
    · by_cases f5 : f = 5
      · subst f5
        have hor := hc.2 rfl
        by_cases hq : (b &&& 9223372036854775807) ≤ 9218868437227405312
        · obtain ⟨v, s1, s2, s3⟩ := cut5 hq
          refine ⟨¬ (b &&& 9223372036854775807) ≤ 9218868437227405312, inferInstance, v, s1, fun σ => s_noNum5, fun w => absurd hq w, fun _ => s2, fun τ q T hq3 hT e85 e16 ex => ?_⟩
          have hne : ¬ b = 9221120237041090560 := fun w => by
            rw [w] at hq
            exact absurd hq (by decide)
          have ei : lbd b (lay τ) = some (b.toUInt64, lay τ) := by unfold lbd; rw [if_pos (no_sn5 hq)]
          unfold m_Md_sampleOf
          simp (disch := first | assumption | rfl | decide | omega) only [↓ckd_lay, ↓bd_gI, ↓bd_gL, ↓bd_pI, ↓bd_pL, ↓bd_pZ, ↓bd_now, ↓bd_next, ↓bd_ldR3, ↓bd_ldR4, ↓ap_ite, ↓ap_rt, ↓ap_lt, ↓rz_0, ↓rz_1, rz_bi, ↓gr_81_0, ↓gr_81_1, ↓gr_81_2, ↓gr_81_3, ↓gr_81_4, ↓gr_81_7, ↓gr_81_8, ↓gr_81_9, ↓gr_81_11, ↓gr_81_14, ↓gr_81_17, ↓gr_81_18, ↓gr_81_20, ↓gr_81_21, ↓gr_81_25, ↓gr_81_26, ↓gr_81_27, ↓gr_81_28, ↓gr_81_29, ↓gr_81_31, ↓gr_81_32, ↓gr_81_33, ↓gr_81_34, ↓gr_81_36, ↓gr_81_39, ↓la_85, ↓st_85, e85]
          rw [if_neg (by decide), if_pos (by rfl), if_neg hne, bd_eq ei, ap_lt]
          exact s3 τ
        · have hb2 := hor.resolve_left hq
          refine ⟨¬ (b &&& 9223372036854775807) ≤ 9218868437227405312, inferInstance, x, hx, fun σ => s_noNum5, fun _ => rfl, fun w => absurd hq w, fun τ q T hq3 hT e85 e16 ex => ?_⟩
          unfold m_Md_sampleOf
          simp (disch := first | assumption | rfl | decide | omega) only [↓ckd_lay, ↓bd_gI, ↓bd_gL, ↓bd_pI, ↓bd_pL, ↓bd_pZ, ↓bd_now, ↓bd_next, ↓bd_ldR3, ↓bd_ldR4, ↓ap_ite, ↓ap_rt, ↓ap_lt, ↓rz_0, ↓rz_1, rz_bi, ↓gr_81_0, ↓gr_81_1, ↓gr_81_2, ↓gr_81_3, ↓gr_81_4, ↓gr_81_7, ↓gr_81_8, ↓gr_81_9, ↓gr_81_11, ↓gr_81_14, ↓gr_81_17, ↓gr_81_18, ↓gr_81_20, ↓gr_81_21, ↓gr_81_25, ↓gr_81_26, ↓gr_81_27, ↓gr_81_28, ↓gr_81_29, ↓gr_81_31, ↓gr_81_32, ↓gr_81_33, ↓gr_81_34, ↓gr_81_36, ↓gr_81_39, ↓la_85, ↓st_85, e85]
          rw [if_neg (by decide), if_pos (by rfl), if_pos hb2]
          by_cases q0 : T = 0
          · simp (disch := first | assumption | rfl | decide | omega) only [↓ckd_lay, ↓bd_gI, ↓bd_gL, ↓bd_pI, ↓bd_pL, ↓bd_pZ, ↓bd_now, ↓bd_next, ↓bd_ldR3, ↓bd_ldR4, ↓ap_ite, ↓ap_rt, ↓ap_lt, ↓rz_0, ↓rz_1, rz_bi, ↓gr_81_0, ↓gr_81_1, ↓gr_81_2, ↓gr_81_3, ↓gr_81_4, ↓gr_81_7, ↓gr_81_8, ↓gr_81_9, ↓gr_81_11, ↓gr_81_14, ↓gr_81_17, ↓gr_81_18, ↓gr_81_20, ↓gr_81_21, ↓gr_81_25, ↓gr_81_26, ↓gr_81_27, ↓gr_81_28, ↓gr_81_29, ↓gr_81_31, ↓gr_81_32, ↓gr_81_33, ↓gr_81_34, ↓gr_81_36, ↓gr_81_39, e16, ln_0, ln_1, ln_2, ln_3, ln_4, ln_5, ln_6, ln_7, ln_8, ln_10, ln_11, ln_12, ln_13, ln_15, ln_16, ln_30, ln_60, ln_256, ln_300, ln_400, ln_500, ln_1023, ln_1024, nl_0, nl_1, nl_2, nl_3, nl_4, nl_5, nl_6, nl_7, nl_8, nl_10, nl_11, nl_12, nl_13, nl_15, nl_16, nl_30, nl_60, nl_256, nl_300, nl_400, nl_500, nl_1023, nl_1024, tn_0, tn_1, tn_2, tn_3, tn_4, tn_5, tn_6, tn_7, tn_8, tn_10, tn_11, tn_12, tn_13, tn_15, tn_16, tn_30, tn_60, tn_256, tn_300, tn_400, tn_500, tn_1023, tn_1024, nt_0, nt_1, nt_2, nt_3, nt_4, nt_5, nt_6, nt_7, nt_8, nt_10, nt_11, nt_12, nt_13, nt_15, nt_16, nt_30, nt_60, nt_256, nt_300, nt_400, nt_500, nt_1023, nt_1024, ne_0, ne_1, ne_2, ne_3, ne_4, ne_5, ne_6, ne_7, ne_8, ne_10, ne_11, ne_12, ne_13, ne_15, ne_16, ne_30, ne_60, ne_256, ne_300, ne_400, ne_500, ne_1023, ne_1024, le_nn, lt_nn, eq_nn, q0, if_true]
            rw [ex, if_pos q0]
          · simp (disch := first | assumption | rfl | decide | omega) only [↓ckd_lay, ↓bd_gI, ↓bd_gL, ↓bd_pI, ↓bd_pL, ↓bd_pZ, ↓bd_now, ↓bd_next, ↓bd_ldR3, ↓bd_ldR4, ↓ap_ite, ↓ap_rt, ↓ap_lt, ↓rz_0, ↓rz_1, rz_bi, ↓gr_81_0, ↓gr_81_1, ↓gr_81_2, ↓gr_81_3, ↓gr_81_4, ↓gr_81_7, ↓gr_81_8, ↓gr_81_9, ↓gr_81_11, ↓gr_81_14, ↓gr_81_17, ↓gr_81_18, ↓gr_81_20, ↓gr_81_21, ↓gr_81_25, ↓gr_81_26, ↓gr_81_27, ↓gr_81_28, ↓gr_81_29, ↓gr_81_31, ↓gr_81_32, ↓gr_81_33, ↓gr_81_34, ↓gr_81_36, ↓gr_81_39, e16, ln_0, ln_1, ln_2, ln_3, ln_4, ln_5, ln_6, ln_7, ln_8, ln_10, ln_11, ln_12, ln_13, ln_15, ln_16, ln_30, ln_60, ln_256, ln_300, ln_400, ln_500, ln_1023, ln_1024, nl_0, nl_1, nl_2, nl_3, nl_4, nl_5, nl_6, nl_7, nl_8, nl_10, nl_11, nl_12, nl_13, nl_15, nl_16, nl_30, nl_60, nl_256, nl_300, nl_400, nl_500, nl_1023, nl_1024, tn_0, tn_1, tn_2, tn_3, tn_4, tn_5, tn_6, tn_7, tn_8, tn_10, tn_11, tn_12, tn_13, tn_15, tn_16, tn_30, tn_60, tn_256, tn_300, tn_400, tn_500, tn_1023, tn_1024, nt_0, nt_1, nt_2, nt_3, nt_4, nt_5, nt_6, nt_7, nt_8, nt_10, nt_11, nt_12, nt_13, nt_15, nt_16, nt_30, nt_60, nt_256, nt_300, nt_400, nt_500, nt_1023, nt_1024, ne_0, ne_1, ne_2, ne_3, ne_4, ne_5, ne_6, ne_7, ne_8, ne_10, ne_11, ne_12, ne_13, ne_15, ne_16, ne_30, ne_60, ne_256, ne_300, ne_400, ne_500, ne_1023, ne_1024, le_nn, lt_nn, eq_nn, q0, if_false, ns_1, ↓la_92, ↓st_92]
            rw [ex, if_neg q0]
      · have n4 : ¬ (4 : Int32) ≤ nI f := by rw [ln_4 (by omega)]; omega
        obtain ⟨v, d1, d2⟩ := s_sampleOf99 (σ := (fun _ _ => 0, fun _ _ => 0, 0, 0)) (l := b)
        have hv : mmax (-1000000000000) (mmin 1000000000000 b) = v := by
          apply Int64.toInt_inj.mp
          rw [d2, mmax_toInt, mmin_toInt]
          rfl
        refine ⟨False, inferInstance, v, ?_, fun σ => ?_, fun w => w.elim, fun _ σ => ?_, fun τ q T hq3 hT e85 e16 ex => ?_⟩
        · unfold smp
          rw [d2]
          unfold clamp12
          omega
        · unfold m_Ob_isNoNumber
          rw [ap_ite, if_neg n4, rz_0]
          rfl
        · unfold m_Ob_cutToSample
          rw [ap_ite, if_neg n4, ap_rt, hv]
        · obtain ⟨v', c1, c2⟩ := s_sampleOf99 (σ := τ) (l := b)
          have : v' = v := Int64.toInt_inj.mp (c2.trans d2.symm)
          unfold m_Md_sampleOf
          simp (disch := first | assumption | rfl | decide | omega) only [↓ckd_lay, ↓bd_gI, ↓bd_gL, ↓bd_pI, ↓bd_pL, ↓bd_pZ, ↓bd_now, ↓bd_next, ↓bd_ldR3, ↓bd_ldR4, ↓ap_ite, ↓ap_rt, ↓ap_lt, ↓rz_0, ↓rz_1, rz_bi, ↓gr_81_0, ↓gr_81_1, ↓gr_81_2, ↓gr_81_3, ↓gr_81_4, ↓gr_81_7, ↓gr_81_8, ↓gr_81_9, ↓gr_81_11, ↓gr_81_14, ↓gr_81_17, ↓gr_81_18, ↓gr_81_20, ↓gr_81_21, ↓gr_81_25, ↓gr_81_26, ↓gr_81_27, ↓gr_81_28, ↓gr_81_29, ↓gr_81_31, ↓gr_81_32, ↓gr_81_33, ↓gr_81_34, ↓gr_81_36, ↓gr_81_39, ↓la_85, ↓st_85, e85, ln_0, ln_1, ln_2, ln_3, ln_4, ln_5, ln_6, ln_7, ln_8, ln_10, ln_11, ln_12, ln_13, ln_15, ln_16, ln_30, ln_60, ln_256, ln_300, ln_400, ln_500, ln_1023, ln_1024, nl_0, nl_1, nl_2, nl_3, nl_4, nl_5, nl_6, nl_7, nl_8, nl_10, nl_11, nl_12, nl_13, nl_15, nl_16, nl_30, nl_60, nl_256, nl_300, nl_400, nl_500, nl_1023, nl_1024, tn_0, tn_1, tn_2, tn_3, tn_4, tn_5, tn_6, tn_7, tn_8, tn_10, tn_11, tn_12, tn_13, tn_15, tn_16, tn_30, tn_60, tn_256, tn_300, tn_400, tn_500, tn_1023, tn_1024, nt_0, nt_1, nt_2, nt_3, nt_4, nt_5, nt_6, nt_7, nt_8, nt_10, nt_11, nt_12, nt_13, nt_15, nt_16, nt_30, nt_60, nt_256, nt_300, nt_400, nt_500, nt_1023, nt_1024, ne_0, ne_1, ne_2, ne_3, ne_4, ne_5, ne_6, ne_7, ne_8, ne_10, ne_11, ne_12, ne_13, ne_15, ne_16, ne_30, ne_60, ne_256, ne_300, ne_400, ne_500, ne_1023, ne_1024, le_nn, lt_nn, eq_nn, f4, f5, if_false]
          rw [c1, this]
  obtain ⟨nn, _, v, k1, k2, k3, k4, k5⟩ := key
  refine ⟨v, k1, fun σ j w hj hw e1 e2 => ?_, k5⟩
  have hk := kd_rl j hj
  unfold m_Rl_sampleOf
  rw [ckd_lay hk.1 (by decide), rgI hj rfl, rg0 hj, bd_ldL hk.2.1 (by rw [hk.2.2.1]; omega), e1, e2, bd_eq (k2 σ), ap_ite]
  by_cases q : nn
  · rw [if_neg (by rw [bi_0]; exact fun w => w q), ap_rt, k3 q]
  · rw [if_pos (by rw [bi_0]; exact q), rgI hj rfl, rg0 hj, bd_ldL hk.2.1 (by rw [hk.2.2.1]; omega), e1, e2, bd_eq (k4 q σ), ap_rt]
