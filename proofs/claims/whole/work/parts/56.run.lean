/-! sample, run. -/
theorem s_refuseSample {σ : SS} {j z : Nat} {l : Int64} (h : RReel σ) (hj : j < 6) (hz : z ≤ 60) (hz2 : σ.1 84 j = nI z) : m_Ob_refuseSample 1 (nI j) l (lay σ) = if σ.1 82 j = 0 then some (-11, lay (sI σ (fa 1 9) (fun _ => 1))) else if 0 ≤ l.toInt ∧ l.toInt < z then some (0, lay σ) else some (-12, lay (sI σ (fa 1 9) (fun _ => 2))) := by
  obtain ⟨h1, h2, h3, h4, h5, h6⟩ := h j hj
  unfold m_Ob_refuseSample
  simp (disch := first | assumption | rfl | decide | omega) only [↓ckd_lay, ↓bd_gI, ↓bd_gL, ↓bd_pI, ↓bd_pL, ↓bd_pZ, ↓bd_now, ↓bd_next, ↓bd_ldR3, ↓bd_ldR4, ↓ap_ite, ↓ap_rt, ↓ap_lt, ↓rz_0, ↓rz_1, rz_bi, ↓gr_1_0, ↓gr_1_1, ↓gr_1_2, ↓gr_1_3, ↓gr_1_4, ↓gr_1_5, ↓gr_1_6, ↓gr_15_0, ↓gr_15_1, ↓gr_15_2, ↓gr_15_3, ↓gr_20_0, ↓gr_20_1, ↓gr_23_0, ↓gr_23_1, ↓gr_23_2, ↓gr_27_0, ↓gr_27_1, ↓gr_27_2, ↓gr_29_0, ↓gr_29_1, ↓gr_29_2, ↓gr_29_3, ↓gr_29_4, ↓gr_33_0, ↓gr_33_1, ↓gr_now, ↓gr_next, ↓rgI hj]
  rcases h1 with ⟨q1, q2⟩ | ⟨q1, q2⟩
  · rw [q1, if_pos rfl, if_neg (show ¬ σ.1 82 j = 0 by rw [q2]; decide), bd_eq (s_hasItem hj hz (h3.trans hz2)), ap_ite]
    by_cases q : 0 ≤ l.toInt ∧ l.toInt < z
    · rw [if_neg (by rw [bi_0]; exact fun w => w q), if_pos q, ap_rt]
    · rw [if_pos (by rw [bi_0]; exact q), if_neg q, bd_eq s_found, ap_rt]
      rfl
  · rw [q1, if_neg (by decide), if_pos q2, bd_eq s_found, ap_rt]
    rfl
def lat (S : SG) : Int64 := if S.1 = 0 then 0 else S.2.2.2.1 (S.1 - 1)
theorem lat_smp {P : SH} {fs : Int64} {S : SG} (p : PI P fs S) : smp (lat S) := by
  unfold lat
  split
  · exact ⟨by decide, by decide⟩
  · exact p.2.2.1 _ (by omega)
theorem lat_C {σ : SS} {P : SH} {fs : Int64} {a b : Nat} {S : SG} (c : CI σ P fs a b S) (p : PI P fs S) : m_Lg_latestMade 20 (lay σ) = some (lat S, lay σ) := by
  rw [s_latest c.2.2.2.2.2.2.1 p.2.1]
  unfold lat
  by_cases q : S.1 = 0
  · rw [if_pos q, if_pos q]
  · rw [if_neg q, if_neg q, c.2.2.2.2.2.2.2.1 (S.1 - 1) (by omega)]
theorem lat_R {σ : SS} {P : SH} {fs : Int64} {S : SG} (c : RI σ P fs S) : lat S = if S.1 = 0 then 0 else σ.2.1 92 (S.1 - 1) := by
  unfold lat
  by_cases q : S.1 = 0
  · rw [if_pos q, if_pos q]
  · rw [if_neg q, if_neg q, c.2.2.2.2.2.2.1 (S.1 - 1) (by omega)]
theorem lack_same {σ : SS} {j z : Nat} {i : Int32} (hz2 : σ.1 84 j = nI z) : pLack σ j (σ.1 83 j) i = if σ.1 82 j = 0 then 1 else if 0 ≤ i ∧ i < nI z then 0 else 2 := by
  unfold pLack
  rw [if_pos rfl, hz2]
theorem d_sample {σ : SS} {i k : Int32} (h : Rel σ) : Duo (m_Ob_sample 1 i k) (m_Md_sample 81 i k) σ := by
  by_cases hi : 0 ≤ i ∧ i < 6
  · obtain ⟨j, hj, rfl⟩ := nI_ex (n := 6) (by omega) hi.1 hi.2
    obtain ⟨⟨P, fs, a, b, S, c, r, p, z0⟩, rs⟩ := h.cut2
    have hR : RReel σ := h.2.1
    obtain ⟨h1, h2, h3, ⟨z, hz, hz2⟩, ⟨f, hf, hf2⟩, h6⟩ := hR j hj
    have er := s_refuseSample (l := k.toInt64) hR hj hz hz2
    by_cases q1 : σ.1 82 j = 0
    · refine Duo.found (c := 1) h 0 ?_ (fun τ hτ hRτ => ?_)
      · unfold m_Ob_sample
        rw [ckd_lay (ci := 8) (o := 1) rfl (by decide), bd_eq s_isReel, ap_ite, if_neg (by rw [bi_0]; exact fun q => q hi), bd_eq (er.trans (if_pos q1)), ap_ite, if_neg (by decide), ap_rt]
      · have t82 : τ.1 82 j = 0 := by rw [hτ, sI_ne (by decide)]; exact q1
        have t84 : τ.1 84 j = nI z := by rw [hτ, sI_ne (by decide)]; exact hz2
        unfold m_Md_sample
        rw [ckd_lay (ci := 9) (o := 81) rfl (by decide), bd_eq s_isReelM, ap_ite, if_neg (by rw [bi_0]; exact fun q => q hi)]
        simp (disch := first | assumption | rfl | decide | omega) only [↓ckd_lay, ↓bd_gI, ↓bd_gL, ↓bd_pI, ↓bd_pL, ↓bd_pZ, ↓bd_now, ↓bd_next, ↓bd_ldR3, ↓bd_ldR4, ↓ap_ite, ↓ap_rt, ↓ap_lt, ↓rz_0, ↓rz_1, rz_bi, ↓gr_81_0, ↓gr_81_1, ↓gr_81_2, ↓gr_81_3, ↓gr_81_4, ↓gr_81_7, ↓gr_81_8, ↓gr_81_9, ↓gr_81_11, ↓gr_81_14, ↓gr_81_17, ↓gr_81_18, ↓gr_81_20, ↓gr_81_21, ↓gr_81_25, ↓gr_81_26, ↓gr_81_27, ↓gr_81_28, ↓gr_81_29, ↓gr_81_31, ↓gr_81_32, ↓gr_81_33, ↓gr_81_34, ↓gr_81_36, ↓gr_81_39, ↓la_83, ↓st_83]
        rw [bd_eq (s_lacks hj ⟨z, hz, t84⟩), lack_same t84, if_pos t82, ap_ite, if_neg (by decide), bd_eq s_meets, ap_rt]
    · by_cases q2 : 0 ≤ k ∧ k < nI z
      · obtain ⟨w, hw, rfl⟩ := nI_ex (by omega) q2.1 q2.2
        obtain ⟨b1, b2⟩ := h6 w (by omega)
        rw [hf2] at b2
        obtain ⟨v, v1, v2, v3⟩ := smp_both hf b2 (lat_smp p)
        refine Duo.same h v ?_ ?_
        · unfold m_Ob_sample
          rw [ckd_lay (ci := 8) (o := 1) rfl (by decide), bd_eq s_isReel, ap_ite, if_neg (by rw [bi_0]; exact fun q => q hi), bd_eq (er.trans ((if_neg q1).trans (if_pos ((in_z hz).mpr q2)))), ap_ite, if_pos rfl]
          simp (disch := first | assumption | rfl | decide | omega) only [↓ckd_lay, ↓bd_gI, ↓bd_gL, ↓bd_pI, ↓bd_pL, ↓bd_pZ, ↓bd_now, ↓bd_next, ↓bd_ldR3, ↓bd_ldR4, ↓ap_ite, ↓ap_rt, ↓ap_lt, ↓rz_0, ↓rz_1, rz_bi, ↓gr_1_0, ↓gr_1_1, ↓gr_1_2, ↓gr_1_3, ↓gr_1_4, ↓gr_1_5, ↓gr_1_6, ↓gr_15_0, ↓gr_15_1, ↓gr_15_2, ↓gr_15_3, ↓gr_20_0, ↓gr_20_1, ↓gr_23_0, ↓gr_23_1, ↓gr_23_2, ↓gr_27_0, ↓gr_27_1, ↓gr_27_2, ↓gr_29_0, ↓gr_29_1, ↓gr_29_2, ↓gr_29_3, ↓gr_29_4, ↓gr_33_0, ↓gr_33_1, ↓gr_now, ↓gr_next]
          rw [bd_eq (lat_C c p), bd_eq (v2 σ j w hj (by omega) (h2.trans hf2) b1), ap_rt]
        · unfold m_Md_sample
          rw [ckd_lay (ci := 9) (o := 81) rfl (by decide), bd_eq s_isReelM, ap_ite, if_neg (by rw [bi_0]; exact fun q => q hi)]
          simp (disch := first | assumption | rfl | decide | omega) only [↓ckd_lay, ↓bd_gI, ↓bd_gL, ↓bd_pI, ↓bd_pL, ↓bd_pZ, ↓bd_now, ↓bd_next, ↓bd_ldR3, ↓bd_ldR4, ↓ap_ite, ↓ap_rt, ↓ap_lt, ↓rz_0, ↓rz_1, rz_bi, ↓gr_81_0, ↓gr_81_1, ↓gr_81_2, ↓gr_81_3, ↓gr_81_4, ↓gr_81_7, ↓gr_81_8, ↓gr_81_9, ↓gr_81_11, ↓gr_81_14, ↓gr_81_17, ↓gr_81_18, ↓gr_81_20, ↓gr_81_21, ↓gr_81_25, ↓gr_81_26, ↓gr_81_27, ↓gr_81_28, ↓gr_81_29, ↓gr_81_31, ↓gr_81_32, ↓gr_81_33, ↓gr_81_34, ↓gr_81_36, ↓gr_81_39, ↓la_83, ↓st_83]
          rw [bd_eq (s_lacks hj ⟨z, hz, hz2⟩), lack_same hz2, if_neg q1, if_pos q2, ap_ite, if_pos (by decide)]
          simp (disch := first | assumption | rfl | decide | omega) only [↓ckd_lay, ↓bd_gI, ↓bd_gL, ↓bd_pI, ↓bd_pL, ↓bd_pZ, ↓bd_now, ↓bd_next, ↓bd_ldR3, ↓bd_ldR4, ↓ap_ite, ↓ap_rt, ↓ap_lt, ↓rz_0, ↓rz_1, rz_bi, ↓gr_81_0, ↓gr_81_1, ↓gr_81_2, ↓gr_81_3, ↓gr_81_4, ↓gr_81_7, ↓gr_81_8, ↓gr_81_9, ↓gr_81_11, ↓gr_81_14, ↓gr_81_17, ↓gr_81_18, ↓gr_81_20, ↓gr_81_21, ↓gr_81_25, ↓gr_81_26, ↓gr_81_27, ↓gr_81_28, ↓gr_81_29, ↓gr_81_31, ↓gr_81_32, ↓gr_81_33, ↓gr_81_34, ↓gr_81_36, ↓gr_81_39, ↓la_83, ↓st_83, hf2, na_0, na_1, na_2, na_3, na_4, na_5, na_6, na_7, na_8, na_10, na_11, na_12, na_13, na_15, na_16, na_30, na_60, na_300, an_0, an_1, an_2, an_3, an_4, an_5, an_6, an_7, an_8, an_10, an_11, an_12, an_13, an_15, an_16, an_30, an_60, an_300, nm_0, nm_1, nm_2, nm_3, nm_4, nm_5, nm_6, nm_7, nm_8, nm_10, nm_11, nm_12, nm_13, nm_15, nm_16, nm_30, nm_60, nm_300, mn_0, mn_1, mn_2, mn_3, mn_4, mn_5, mn_6, mn_7, mn_8, mn_10, mn_11, mn_12, mn_13, mn_15, mn_16, mn_30, mn_60, mn_300, nI_add, pk_mul]
          rw [bd_eq (v3 σ (60 * j + w) S.1 (by omega) p.2.1 rfl r.2.2.2.2.2.1 (lat_R r)), ap_rt]
      · refine Duo.found (c := 2) h 0 ?_ (fun τ hτ hRτ => ?_)
        · unfold m_Ob_sample
          rw [ckd_lay (ci := 8) (o := 1) rfl (by decide), bd_eq s_isReel, ap_ite, if_neg (by rw [bi_0]; exact fun q => q hi), bd_eq (er.trans ((if_neg q1).trans (if_neg (fun w => q2 ((in_z hz).mp w))))), ap_ite, if_neg (by decide), ap_rt]
        · have t82 : ¬ τ.1 82 j = 0 := by rw [hτ, sI_ne (by decide)]; exact q1
          have t84 : τ.1 84 j = nI z := by rw [hτ, sI_ne (by decide)]; exact hz2
          unfold m_Md_sample
          rw [ckd_lay (ci := 9) (o := 81) rfl (by decide), bd_eq s_isReelM, ap_ite, if_neg (by rw [bi_0]; exact fun q => q hi)]
          simp (disch := first | assumption | rfl | decide | omega) only [↓ckd_lay, ↓bd_gI, ↓bd_gL, ↓bd_pI, ↓bd_pL, ↓bd_pZ, ↓bd_now, ↓bd_next, ↓bd_ldR3, ↓bd_ldR4, ↓ap_ite, ↓ap_rt, ↓ap_lt, ↓rz_0, ↓rz_1, rz_bi, ↓gr_81_0, ↓gr_81_1, ↓gr_81_2, ↓gr_81_3, ↓gr_81_4, ↓gr_81_7, ↓gr_81_8, ↓gr_81_9, ↓gr_81_11, ↓gr_81_14, ↓gr_81_17, ↓gr_81_18, ↓gr_81_20, ↓gr_81_21, ↓gr_81_25, ↓gr_81_26, ↓gr_81_27, ↓gr_81_28, ↓gr_81_29, ↓gr_81_31, ↓gr_81_32, ↓gr_81_33, ↓gr_81_34, ↓gr_81_36, ↓gr_81_39, ↓la_83, ↓st_83]
          rw [bd_eq (s_lacks hj ⟨z, hz, t84⟩), lack_same t84, if_neg t82, if_neg q2, ap_ite, if_neg (by decide), bd_eq s_meets, ap_rt]
  · refine Duo.same h 0 ?_ ?_
    · unfold m_Ob_sample
      rw [ckd_lay (ci := 8) (o := 1) rfl (by decide), bd_eq s_isReel, ap_ite, if_pos (by rw [bi_0]; exact hi), ap_rt]
    · unfold m_Md_sample
      rw [ckd_lay (ci := 9) (o := 81) rfl (by decide), bd_eq s_isReelM, ap_ite, if_pos (by rw [bi_0]; exact hi), ap_rt]
abbrev cF : List Nat := fa 1 9 :: cL
abbrev rF : List Nat := fa 81 5 :: rL
theorem reels_off {σ τ : SS} (h : RReel σ) (hM : Mdp cF σ τ) : RReel τ := RReel.mod (σ := (σ.1, σ.2.1, τ.2.2)) h hM.m (by decide)
theorem s_run {σ : SS} {P : SH} {fs : Int64} {j m : Nat} {i : Int32} (hR : RReel σ) (hj : j < 6) (hm : m ≤ 300) : ∀ (r k n : Nat) (σc : SS) (S : SG) (a b : Nat), k + r = m → r < n → Mdp cF σ σc → CI σc P fs a b S → PI P fs S →
    ∃ (v : Int32) (σ' : SS) (S' : SG) (a' b' : Nat) (F : Option Int32), l_Ob_run_25 n 1 (nI j) i (nI m) (nI k) (lay σc) = some (v, lay σ') ∧ Mdp cF σ σ' ∧ CI σ' P fs a' b' S' ∧ PI P fs S' ∧ σ'.1 (fa 1 9) 0 = F.getD (σc.1 (fa 1 9) 0) ∧
      ∀ τ : SS, RI τ P fs S → τ.1 82 = σ.1 82 → τ.1 83 = σ.1 83 → τ.1 84 = σ.1 84 → τ.2.1 85 = σ.2.1 85 → ∃ υ, l_Md_run_25 n 81 (nI j) i (nI m) (nI k) (lay τ) = some (v, lay υ) ∧ Mod rF τ υ ∧ RI υ P fs S' ∧ υ.1 (fa 81 5) 0 = F.getD (τ.1 (fa 81 5) 0)
  | r, k, 0, σc, S, a, b, h, hn, hM, c, p => by omega
  | 0, k, n + 1, σc, S, a, b, h, hn, hM, c, p => by
    have hq : m ≤ k := by omega
    refine ⟨nI S.1, σc, S, a, b, none, ?_, hM, c, p, rfl, fun τ r t82 t83 t84 t85 => ⟨τ, ?_, Mod.rf, r, rfl⟩⟩
    · show b_Ob_run_25 (l_Ob_run_25 n) 1 (nI j) i (nI m) (nI k) (lay σc) = _
      unfold b_Ob_run_25
      simp (disch := first | assumption | rfl | decide | omega) only [↓ckd_lay, ↓bd_gI, ↓bd_gL, ↓bd_pI, ↓bd_pL, ↓bd_pZ, ↓bd_now, ↓bd_next, ↓bd_ldR3, ↓bd_ldR4, ↓ap_ite, ↓ap_rt, ↓ap_lt, ↓rz_0, ↓rz_1, rz_bi, ↓gr_1_0, ↓gr_1_1, ↓gr_1_2, ↓gr_1_3, ↓gr_1_4, ↓gr_1_5, ↓gr_1_6, ↓gr_15_0, ↓gr_15_1, ↓gr_15_2, ↓gr_15_3, ↓gr_20_0, ↓gr_20_1, ↓gr_23_0, ↓gr_23_1, ↓gr_23_2, ↓gr_27_0, ↓gr_27_1, ↓gr_27_2, ↓gr_29_0, ↓gr_29_1, ↓gr_29_2, ↓gr_29_3, ↓gr_29_4, ↓gr_33_0, ↓gr_33_1, ↓gr_now, ↓gr_next, ln_0, ln_1, ln_2, ln_3, ln_4, ln_5, ln_6, ln_7, ln_8, ln_10, ln_11, ln_12, ln_13, ln_15, ln_16, ln_30, ln_60, ln_256, ln_300, ln_400, ln_500, ln_1023, ln_1024, nl_0, nl_1, nl_2, nl_3, nl_4, nl_5, nl_6, nl_7, nl_8, nl_10, nl_11, nl_12, nl_13, nl_15, nl_16, nl_30, nl_60, nl_256, nl_300, nl_400, nl_500, nl_1023, nl_1024, tn_0, tn_1, tn_2, tn_3, tn_4, tn_5, tn_6, tn_7, tn_8, tn_10, tn_11, tn_12, tn_13, tn_15, tn_16, tn_30, tn_60, tn_256, tn_300, tn_400, tn_500, tn_1023, tn_1024, nt_0, nt_1, nt_2, nt_3, nt_4, nt_5, nt_6, nt_7, nt_8, nt_10, nt_11, nt_12, nt_13, nt_15, nt_16, nt_30, nt_60, nt_256, nt_300, nt_400, nt_500, nt_1023, nt_1024, ne_0, ne_1, ne_2, ne_3, ne_4, ne_5, ne_6, ne_7, ne_8, ne_10, ne_11, ne_12, ne_13, ne_15, ne_16, ne_30, ne_60, ne_256, ne_300, ne_400, ne_500, ne_1023, ne_1024, le_nn, lt_nn, eq_nn, hq, if_true, c.2.2.2.2.2.2.1]
    · show b_Md_run_25 (l_Md_run_25 n) 81 (nI j) i (nI m) (nI k) (lay τ) = _
      unfold b_Md_run_25
      simp (disch := first | assumption | rfl | decide | omega) only [↓ckd_lay, ↓bd_gI, ↓bd_gL, ↓bd_pI, ↓bd_pL, ↓bd_pZ, ↓bd_now, ↓bd_next, ↓bd_ldR3, ↓bd_ldR4, ↓ap_ite, ↓ap_rt, ↓ap_lt, ↓rz_0, ↓rz_1, rz_bi, ↓gr_81_0, ↓gr_81_1, ↓gr_81_2, ↓gr_81_3, ↓gr_81_4, ↓gr_81_7, ↓gr_81_8, ↓gr_81_9, ↓gr_81_11, ↓gr_81_14, ↓gr_81_17, ↓gr_81_18, ↓gr_81_20, ↓gr_81_21, ↓gr_81_25, ↓gr_81_26, ↓gr_81_27, ↓gr_81_28, ↓gr_81_29, ↓gr_81_31, ↓gr_81_32, ↓gr_81_33, ↓gr_81_34, ↓gr_81_36, ↓gr_81_39, ln_0, ln_1, ln_2, ln_3, ln_4, ln_5, ln_6, ln_7, ln_8, ln_10, ln_11, ln_12, ln_13, ln_15, ln_16, ln_30, ln_60, ln_256, ln_300, ln_400, ln_500, ln_1023, ln_1024, nl_0, nl_1, nl_2, nl_3, nl_4, nl_5, nl_6, nl_7, nl_8, nl_10, nl_11, nl_12, nl_13, nl_15, nl_16, nl_30, nl_60, nl_256, nl_300, nl_400, nl_500, nl_1023, nl_1024, tn_0, tn_1, tn_2, tn_3, tn_4, tn_5, tn_6, tn_7, tn_8, tn_10, tn_11, tn_12, tn_13, tn_15, tn_16, tn_30, tn_60, tn_256, tn_300, tn_400, tn_500, tn_1023, tn_1024, nt_0, nt_1, nt_2, nt_3, nt_4, nt_5, nt_6, nt_7, nt_8, nt_10, nt_11, nt_12, nt_13, nt_15, nt_16, nt_30, nt_60, nt_256, nt_300, nt_400, nt_500, nt_1023, nt_1024, ne_0, ne_1, ne_2, ne_3, ne_4, ne_5, ne_6, ne_7, ne_8, ne_10, ne_11, ne_12, ne_13, ne_15, ne_16, ne_30, ne_60, ne_256, ne_300, ne_400, ne_500, ne_1023, ne_1024, le_nn, lt_nn, eq_nn, hq, if_true, r.2.2.2.2.2.1]
  | r + 1, k, n + 1, σc, S, a, b, h, hn, hM, c, p => by
    have hq : ¬ m ≤ k := by omega
    have hRc : RReel σc := reels_off hR hM
    obtain ⟨h1, h2, h3, ⟨z, hz, hz2⟩, ⟨f, hf, hf2⟩, h6⟩ := hR j hj
    have c82 : σc.1 82 = σ.1 82 := (hM 82 (by decide)).1
    have c83 : σc.1 83 = σ.1 83 := (hM 83 (by decide)).1
    have c84 : σc.1 84 = σ.1 84 := (hM 84 (by decide)).1
    have c85 : σc.2.1 85 = σ.2.1 85 := (hM 85 (by decide)).2
    have b1 := i.le_toInt
    have b2 := i.toInt_lt
    have ek : (nI k).toInt = k := nI_toInt (by omega)
    have es : (i.toInt64 + (nI k).toInt64).toInt = i.toInt + k := by
      rw [toInt_add64 (by rw [Int32.toInt_toInt64]; omega) (by rw [Int32.toInt_toInt64, ek]; omega), Int32.toInt_toInt64, Int32.toInt_toInt64, ek]
    have ei : (0 ≤ i + nI k ∧ i + nI k < nI z) ↔ (0 ≤ i.toInt + k ∧ i.toInt + k < z) := by
      rw [Int32.le_iff_toInt_le, Int32.lt_iff_toInt_lt, Int32.toInt_add, ek, nI_toInt (show z < 2 ^ 31 by omega), show (0 : Int32).toInt = 0 from rfl]
      by_cases q : i.toInt + k < 2147483648
      · rw [show (2 : Nat) ^ 32 = 4294967296 from rfl, Int.bmod_eq_of_le (by omega) (by omega)]
      · have : Int.bmod (i.toInt + k) (2 ^ 32) = i.toInt + k - 4294967296 := by
          rw [show (2 : Nat) ^ 32 = 4294967296 from rfl]
          unfold Int.bmod
          dsimp only
          split <;> omega
        rw [this]
        omega
    have er := s_refuseSample (l := i.toInt64 + (nI k).toInt64) hRc hj hz (by rw [c84]; exact hz2)
    rw [es, c82] at er
    have cls : l_Ob_run_25 (n + 1) 1 (nI j) i (nI m) (nI k) (lay σc) = bd (m_Ob_refuseSample 1 (nI j) (i.toInt64 + (nI k).toInt64)) (fun v4 => if v4 = 0 then (bd (gR 8 1 0) (fun v5 => bd (ldR 3 v5 (nI j)) (fun v6 => bd (gR 8 1 2) (fun v7 => bd (m_Lg_latestMade v7) (fun v8 => bd (m_Rl_sampleOf v6 ((i.toInt64 + (nI k).toInt64).toInt32) v8) (fun v9 => bd (m_Ob_makeOne 1 v9) (fun v10 => if 0 ≤ v10 then (l_Ob_run_25 n 1 (nI j) i (nI m) (nI k + 1)) else (rt v10)))))))) else (if 0 ≤ v4 then (l_Ob_run_25 n 1 (nI j) i (nI m) (nI k + 1)) else (rt v4))) (lay σc) := by
      show b_Ob_run_25 (l_Ob_run_25 n) 1 (nI j) i (nI m) (nI k) (lay σc) = _
      unfold b_Ob_run_25
      rw [ap_ite, if_neg (fun w => hq ((le_nn (by omega) (by omega)).mp w)), ap_lt]
    have ref : ∀ τ : SS, τ.1 82 = σ.1 82 → τ.1 83 = σ.1 83 → τ.1 84 = σ.1 84 → l_Md_run_25 (n + 1) 81 (nI j) i (nI m) (nI k) (lay τ) = (if (if σ.1 82 j = 0 then (1 : Int32) else if 0 ≤ i.toInt + k ∧ i.toInt + k < z then 0 else 2) ≤ 0 then bd (m_Md_sampleOf 81 (((60 * nI j) + i) + nI k) (nI f)) (fun v7 => bd (m_Md_does 81 v7) (fun v8 => if 0 ≤ v8 then (l_Md_run_25 n 81 (nI j) i (nI m) (nI k + 1)) else (rt v8))) (lay τ) else bd (m_Md_meets 81 (if σ.1 82 j = 0 then (1 : Int32) else if 0 ≤ i.toInt + k ∧ i.toInt + k < z then 0 else 2)) (fun v9 => rt v9) (lay τ)) := fun τ t82 t83 t84 => by
      have t84' : τ.1 84 j = nI z := by rw [t84]; exact hz2
      show b_Md_run_25 (l_Md_run_25 n) 81 (nI j) i (nI m) (nI k) (lay τ) = _
      unfold b_Md_run_25
      simp (disch := first | assumption | rfl | decide | omega) only [↓ckd_lay, ↓bd_gI, ↓bd_gL, ↓bd_pI, ↓bd_pL, ↓bd_pZ, ↓bd_now, ↓bd_next, ↓bd_ldR3, ↓bd_ldR4, ↓ap_ite, ↓ap_rt, ↓ap_lt, ↓rz_0, ↓rz_1, rz_bi, ↓gr_81_0, ↓gr_81_1, ↓gr_81_2, ↓gr_81_3, ↓gr_81_4, ↓gr_81_7, ↓gr_81_8, ↓gr_81_9, ↓gr_81_11, ↓gr_81_14, ↓gr_81_17, ↓gr_81_18, ↓gr_81_20, ↓gr_81_21, ↓gr_81_25, ↓gr_81_26, ↓gr_81_27, ↓gr_81_28, ↓gr_81_29, ↓gr_81_31, ↓gr_81_32, ↓gr_81_33, ↓gr_81_34, ↓gr_81_36, ↓gr_81_39, ln_0, ln_1, ln_2, ln_3, ln_4, ln_5, ln_6, ln_7, ln_8, ln_10, ln_11, ln_12, ln_13, ln_15, ln_16, ln_30, ln_60, ln_256, ln_300, ln_400, ln_500, ln_1023, ln_1024, nl_0, nl_1, nl_2, nl_3, nl_4, nl_5, nl_6, nl_7, nl_8, nl_10, nl_11, nl_12, nl_13, nl_15, nl_16, nl_30, nl_60, nl_256, nl_300, nl_400, nl_500, nl_1023, nl_1024, tn_0, tn_1, tn_2, tn_3, tn_4, tn_5, tn_6, tn_7, tn_8, tn_10, tn_11, tn_12, tn_13, tn_15, tn_16, tn_30, tn_60, tn_256, tn_300, tn_400, tn_500, tn_1023, tn_1024, nt_0, nt_1, nt_2, nt_3, nt_4, nt_5, nt_6, nt_7, nt_8, nt_10, nt_11, nt_12, nt_13, nt_15, nt_16, nt_30, nt_60, nt_256, nt_300, nt_400, nt_500, nt_1023, nt_1024, ne_0, ne_1, ne_2, ne_3, ne_4, ne_5, ne_6, ne_7, ne_8, ne_10, ne_11, ne_12, ne_13, ne_15, ne_16, ne_30, ne_60, ne_256, ne_300, ne_400, ne_500, ne_1023, ne_1024, le_nn, lt_nn, eq_nn, hq, if_false, ↓la_83, ↓st_83]
      rw [bd_eq (s_lacks hj ⟨z, hz, t84'⟩), lack_same t84', t82]
      have : (if σ.1 82 j = 0 then (1 : Int32) else if 0 ≤ i + nI k ∧ i + nI k < nI z then 0 else 2) = (if σ.1 82 j = 0 then (1 : Int32) else if 0 ≤ i.toInt + k ∧ i.toInt + k < z then 0 else 2) := by
        simp only [ei]
      rw [this, ap_ite]
      simp (disch := first | assumption | rfl | decide | omega) only [↓ckd_lay, ↓bd_gI, ↓bd_gL, ↓bd_pI, ↓bd_pL, ↓bd_pZ, ↓bd_now, ↓bd_next, ↓bd_ldR3, ↓bd_ldR4, ↓ap_ite, ↓ap_rt, ↓ap_lt, ↓rz_0, ↓rz_1, rz_bi, ↓gr_81_0, ↓gr_81_1, ↓gr_81_2, ↓gr_81_3, ↓gr_81_4, ↓gr_81_7, ↓gr_81_8, ↓gr_81_9, ↓gr_81_11, ↓gr_81_14, ↓gr_81_17, ↓gr_81_18, ↓gr_81_20, ↓gr_81_21, ↓gr_81_25, ↓gr_81_26, ↓gr_81_27, ↓gr_81_28, ↓gr_81_29, ↓gr_81_31, ↓gr_81_32, ↓gr_81_33, ↓gr_81_34, ↓gr_81_36, ↓gr_81_39, ↓la_83, ↓st_83, t83, hf2]
    by_cases q1 : σ.1 82 j = 0
    · refine ⟨-11, sI σc (fa 1 9) (fun _ => 1), S, a, b, some 1, ?_, hM.tr (Mod.p (Mod.I (by simp))), c.mod (Mod.I (L := [fa 1 9]) (by simp)) (by decide), p, sI_row, fun τ r t82 t83 t84 t85 => ⟨sI τ (fa 81 5) (fun _ => 1), ?_, Mod.I (by simp), r.mod (Mod.p (Mod.I (L := [fa 81 5]) (by simp))) (by decide), sI_row⟩⟩
      · rw [cls, bd_eq (er.trans (if_pos q1)), ap_ite, if_neg (by decide), ap_ite, if_neg (by decide), ap_rt]
      · rw [ref τ t82 t83 t84, if_pos q1, if_neg (by decide), bd_eq s_meets, ap_rt]
        rfl
    · by_cases q2 : 0 ≤ i.toInt + k ∧ i.toInt + k < z
      · obtain ⟨w, hw⟩ : ∃ w : Nat, i.toInt + k = w := ⟨(i.toInt + k).toNat, by omega⟩
        have hwz : w < z := by omega
        have ew : i + nI k = nI w := by
          apply Int32.toInt_inj.mp
          rw [Int32.toInt_add, ek, nI_toInt (show w < 2 ^ 31 by omega), show (2 : Nat) ^ 32 = 4294967296 from rfl, Int.bmod_eq_of_le (by omega) (by omega)]
          exact hw
        have ew2 : (i.toInt64 + (nI k).toInt64).toInt32 = nI w := by
          have : i.toInt64 + (nI k).toInt64 = lN w := by
            apply Int64.toInt_inj.mp
            rw [es, lN_T (by omega)]
            exact hw
          rw [this, lN_i32]
        have ew3 : ((60 : Int32) * nI j + i) + nI k = nI (60 * j + w) := by
          rw [Int32.add_assoc, ew, mn_60, nI_add]
        obtain ⟨d1, d2⟩ := h6 w (by omega)
        rw [hf2] at d2
        obtain ⟨u, v1, v2, v3⟩ := smp_both hf d2 (lat_smp p)
        obtain ⟨k1, k2, k3, k4, k5, k6⟩ := hRc j hj
        obtain ⟨σ2, a2, b2, f1, m1, c1⟩ := s_makeOne c p v1
        have p1 : PI P fs (pDo P u S).2 := p.do v1
        have eC : l_Ob_run_25 (n + 1) 1 (nI j) i (nI m) (nI k) (lay σc) = if 0 ≤ (pDo P u S).1 then l_Ob_run_25 n 1 (nI j) i (nI m) (nI (k + 1)) (lay σ2) else some ((pDo P u S).1, lay σ2) := by
          rw [cls, bd_eq (er.trans ((if_neg q1).trans (if_pos q2))), ap_ite, if_pos rfl]
          simp (disch := first | assumption | rfl | decide | omega) only [↓ckd_lay, ↓bd_gI, ↓bd_gL, ↓bd_pI, ↓bd_pL, ↓bd_pZ, ↓bd_now, ↓bd_next, ↓bd_ldR3, ↓bd_ldR4, ↓ap_ite, ↓ap_rt, ↓ap_lt, ↓rz_0, ↓rz_1, rz_bi, ↓gr_1_0, ↓gr_1_1, ↓gr_1_2, ↓gr_1_3, ↓gr_1_4, ↓gr_1_5, ↓gr_1_6, ↓gr_15_0, ↓gr_15_1, ↓gr_15_2, ↓gr_15_3, ↓gr_20_0, ↓gr_20_1, ↓gr_23_0, ↓gr_23_1, ↓gr_23_2, ↓gr_27_0, ↓gr_27_1, ↓gr_27_2, ↓gr_29_0, ↓gr_29_1, ↓gr_29_2, ↓gr_29_3, ↓gr_29_4, ↓gr_33_0, ↓gr_33_1, ↓gr_now, ↓gr_next]
          rw [bd_eq (lat_C c p), ew2, bd_eq (v2 σc j w hj (by omega) (by rw [k2, c83]; exact hf2) (by rw [(k6 w (by omega)).1, c85])), bd_eq f1, ap_ite, na_1, ap_rt]
        have eR : ∀ τ : SS, RI τ P fs S → τ.1 82 = σ.1 82 → τ.1 83 = σ.1 83 → τ.1 84 = σ.1 84 → τ.2.1 85 = σ.2.1 85 → ∃ υ1, Mod rL τ υ1 ∧ RI υ1 P fs (pDo P u S).2 ∧ l_Md_run_25 (n + 1) 81 (nI j) i (nI m) (nI k) (lay τ) = if 0 ≤ (pDo P u S).1 then l_Md_run_25 n 81 (nI j) i (nI m) (nI (k + 1)) (lay υ1) else some ((pDo P u S).1, lay υ1) := fun τ r t82 t83 t84 t85 => by
          obtain ⟨υ1, g1, g2, g3⟩ := s_does (u := u) r p
          refine ⟨υ1, g2, g3, ?_⟩
          rw [ref τ t82 t83 t84, if_neg q1, if_pos q2, if_pos (by decide), ew3, bd_eq (v3 τ (60 * j + w) S.1 (by omega) p.2.1 (by rw [t85]) r.2.2.2.2.2.1 (lat_R r)), bd_eq g1, ap_ite, na_1, ap_rt]
        have hM2 : Mdp cF σ σ2 := hM.tr (m1.mono (fun o ho => List.mem_cons_of_mem _ ho))
        have f19 : σ2.1 (fa 1 9) 0 = σc.1 (fa 1 9) 0 := by rw [(m1 (fa 1 9) (by decide)).1]
        by_cases q3 : 0 ≤ (pDo P u S).1
        · obtain ⟨v, σ', S', a', b', F, e1, e2, e3, e4, e5, e6⟩ := s_run hR hj hm r (k + 1) n σ2 _ a2 b2 (by omega) (by omega) hM2 c1 p1
          refine ⟨v, σ', S', a', b', F, by rw [eC, if_pos q3, e1], e2, e3, e4, by rw [e5, f19], fun τ r t82 t83 t84 t85 => ?_⟩
          obtain ⟨υ1, g1, g2, g3⟩ := eR τ r t82 t83 t84 t85
          obtain ⟨υ, y1, y2, y3, y4⟩ := e6 υ1 g2 (by rw [g1.i (by decide)]; exact t82) (by rw [g1.i (by decide)]; exact t83) (by rw [g1.i (by decide)]; exact t84) (by rw [g1.l (by decide)]; exact t85)
          refine ⟨υ, by rw [g3, if_pos q3, y1], (g1.mono (fun o ho => List.mem_cons_of_mem _ ho)).tr y2, y3, ?_⟩
          rw [y4, g1.i (by decide)]
        · refine ⟨(pDo P u S).1, σ2, _, a2, b2, none, by rw [eC, if_neg q3], hM2, c1, p1, f19, fun τ r t82 t83 t84 t85 => ?_⟩
          obtain ⟨υ1, g1, g2, g3⟩ := eR τ r t82 t83 t84 t85
          refine ⟨υ1, by rw [g3, if_neg q3], g1.mono (fun o ho => List.mem_cons_of_mem _ ho), g2, ?_⟩
          show _ = τ.1 (fa 81 5) 0
          rw [g1.i (by decide)]
      · refine ⟨-12, sI σc (fa 1 9) (fun _ => 2), S, a, b, some 2, ?_, hM.tr (Mod.p (Mod.I (by simp))), c.mod (Mod.I (L := [fa 1 9]) (by simp)) (by decide), p, sI_row, fun τ r t82 t83 t84 t85 => ⟨sI τ (fa 81 5) (fun _ => 2), ?_, Mod.I (by simp), r.mod (Mod.p (Mod.I (L := [fa 81 5]) (by simp))) (by decide), sI_row⟩⟩
        · rw [cls, bd_eq (er.trans ((if_neg q1).trans (if_neg q2))), ap_ite, if_neg (by decide), ap_ite, if_neg (by decide), ap_rt]
        · rw [ref τ t82 t83 t84, if_neg q1, if_neg q2, if_neg (by decide), bd_eq s_meets, ap_rt]
          rfl
theorem d_run {σ : SS} {i k m : Int32} (h : Rel σ) : Duo (m_Ob_run 1 i k m) (m_Md_run 81 i k m) σ := by
  have a1 : (m < 1) ↔ ¬ (1 ≤ m.toInt) := by
    rw [Int32.lt_iff_toInt_lt, show (1 : Int32).toInt = 1 from rfl]; omega
  have a2 : (m ≤ 300) ↔ (m.toInt ≤ 300) := by
    rw [Int32.le_iff_toInt_le, show (300 : Int32).toInt = 300 from rfl]
  have a3 : ((1 : Int64) ≤ m.toInt64 ∧ m.toInt64 ≤ 300) ↔ (1 ≤ m.toInt ∧ m.toInt ≤ 300) := by
    simp only [Int64.le_iff_toInt_le, Int32.toInt_toInt64, show (1 : Int64).toInt = 1 from rfl, show (300 : Int64).toInt = 300 from rfl]
  by_cases hi : 0 ≤ i ∧ i < 6
  · by_cases hm : 1 ≤ m.toInt ∧ m.toInt ≤ 300
    · obtain ⟨j, hj, rfl⟩ := nI_ex (n := 6) (by omega) hi.1 hi.2
      obtain ⟨M, hM, rfl⟩ := nI_ex (n := 301) (x := m) (by omega) (by rw [Int32.le_iff_toInt_le, show (0 : Int32).toInt = 0 from rfl]; omega) (by rw [Int32.lt_iff_toInt_lt, show (nI 301).toInt = 301 from rfl]; omega)
      obtain ⟨⟨P, fs, a, b, S, c, r, p, z0⟩, rs⟩ := h.cut2
      obtain ⟨r1, r2, r3, r4, r5, r6⟩ := id rs
      obtain ⟨v, σ', S', a', b', F, e1, e2, e3, e4, e5, e6⟩ := s_run (i := k) (m := M) r1 hj (by omega) M 0 FU σ S a b (by omega) (by unfold FU; omega) (fun _ _ => ⟨rfl, rfl⟩) c p
      have rr : RI σ' P fs S := r.mod e2 (by decide)
      obtain ⟨υ, y1, y2, y3, y4⟩ := e6 σ' rr (e2 82 (by decide)).1 (e2 83 (by decide)).1 (e2 84 (by decide)).1 (e2 85 (by decide)).2
      have hF : RFind υ := by
        show _ = _
        rw [y4, y2.i (by decide), e5, (e2 (fa 81 5) (by decide)).1]
        have : σ.1 (fa 1 9) 0 = σ.1 (fa 81 5) 0 := r2
        rw [this]
      refine ⟨v, σ', υ, ?_, ?_, Rel.mk2 (e3.mod y2 (by decide)) y3 e4 ((z0.mdp e2 (by decide)).mdp y2.p (by decide)) ⟨(RReel.mod (σ := (σ.1, σ.2.1, σ'.2.2)) r1 e2.m (by decide)).mod y2 (by decide), hF, (RW.mod (σ := (σ.1, σ.2.1, σ'.2.2)) r3 e2.m (by decide)).mod y2 (by decide), (RHold.mod (σ := (σ.1, σ.2.1, σ'.2.2)) r4 e2.m (by decide)).mod y2 (by decide), (RReach.mod (σ := (σ.1, σ.2.1, σ'.2.2)) r5 e2.m (by decide)).mod y2 (by decide), (RWorst.mod (σ := (σ.1, σ.2.1, σ'.2.2)) r6 e2.m (by decide)).mod y2 (by decide)⟩⟩
      · unfold m_Ob_run
        rw [ckd_lay (ci := 8) (o := 1) rfl (by decide), bd_eq s_isReel, ap_ite, if_neg (by rw [bi_0]; exact fun q => q hi), ap_ite, if_neg (fun w => a1.mp w hm.1), ap_ite, if_pos (a2.mpr hm.2)]
        exact e1
      · unfold m_Md_run
        rw [ckd_lay (ci := 9) (o := 81) rfl (by decide), bd_eq s_isReelM, ap_ite, if_neg (by rw [bi_0]; exact fun q => q hi), q_in, ap_ite, if_neg (by rw [bi_0, a3]; exact fun q => q hm)]
        exact y1
    · refine Duo.same h (-2) ?_ ?_
      · unfold m_Ob_run
        rw [ckd_lay (ci := 8) (o := 1) rfl (by decide), bd_eq s_isReel, ap_ite, if_neg (by rw [bi_0]; exact fun q => q hi), ap_ite]
        by_cases q1 : m < 1
        · rw [if_pos q1, ap_rt]
        · rw [if_neg q1, ap_ite, if_neg (fun w => hm ⟨Classical.not_not.mp (fun z => q1 (a1.mpr z)), a2.mp w⟩), ap_rt]
      · unfold m_Md_run
        rw [ckd_lay (ci := 9) (o := 81) rfl (by decide), bd_eq s_isReelM, ap_ite, if_neg (by rw [bi_0]; exact fun q => q hi), q_in, ap_ite, if_pos (by rw [bi_0, a3]; exact hm), ap_rt]
  · refine Duo.same h (-2) ?_ ?_
    · unfold m_Ob_run
      rw [ckd_lay (ci := 8) (o := 1) rfl (by decide), bd_eq s_isReel, ap_ite, if_pos (by rw [bi_0]; exact hi), ap_rt]
    · unfold m_Md_run
      rw [ckd_lay (ci := 9) (o := 81) rfl (by decide), bd_eq s_isReelM, ap_ite, if_pos (by rw [bi_0]; exact hi), ap_rt]
