/-! Seen: a stand asked for. -/
def wd (P : SH) : Nat := 2 * P.2.2.2.1 + (if P.2.2.2.2.2.2 = 0 then 0 else 1)
def std (P : SH) (N : Nat → Int64) (sd : Int64) : Nat → Int64 := fun i => if i < 2 * P.2.2.2.1 then N (6 * (i / 2) + i % 2) else sd
theorem s_askGo {σ0 : SS} {P : SH} {a : Nat} (hT : IsTw a) (hs : CShp σ0 P) (hF : FitP P) : ∀ (r s n : Nat) (σ : SS), s + r = P.2.2.2.1 → r < n → Mod [26, fa 23 4] σ0 σ → (∀ i, i < 2 * s → σ.2.1 26 i = σ0.2.1 (a + 1) (6 * (i / 2) + i % 2)) → ∃ τ, l_Sn_ask_10 n 23 a (nI P.2.2.2.1) (nI s) (lay σ) = some ((), lay τ) ∧ Mod [26, fa 23 4] σ0 τ ∧ τ.1 (fa 23 4) 0 = nI (wd P) ∧ ∀ i, i < wd P → τ.2.1 26 i = std P (σ0.2.1 (a + 1)) (σ0.2.1 (fa a 4) 0) i
  | r, s, 0, σ, h, hn, hM, hi => by omega
  | 0, s, n + 1, σ, h, hn, hM, hi => by
    have h6 := hT.1
    have hlt := hT.2.2.2.2.2.2
    have h5 := hF.1
    have hsp := hF.2.2.2
    have hq : P.2.2.2.1 ≤ s := by omega
    have e6 : σ.1 (fa 15 6) 0 = nI P.2.2.2.2.2.2 := by rw [hM.i (by decide)]; exact hs.2.2.2.2.2.2
    have esd : σ.2.1 (fa a 4) 0 = σ0.2.1 (fa a 4) 0 := by rw [hM.l (by unfold fa; simp; omega)]
    by_cases q0 : P.2.2.2.2.2.2 = 0
    · refine ⟨sI σ (fa 23 4) (fun _ => nI (2 * P.2.2.2.1)), ?_, hM.tr (Mod.I (by simp)), ?_, fun i hw => ?_⟩
      · show b_Sn_ask_10 (l_Sn_ask_10 n) 23 a (nI P.2.2.2.1) (nI s) (lay σ) = _
        unfold b_Sn_ask_10
        simp (disch := first | assumption | rfl | decide | omega) only [↓ckd_lay, ↓bd_gI, ↓bd_gL, ↓bd_pI, ↓bd_pL, ↓bd_pZ, ↓bd_now, ↓bd_next, ↓bd_ldR3, ↓bd_ldR4, ↓ap_ite, ↓ap_rt, ↓ap_lt, ↓rz_0, ↓rz_1, rz_bi, ↓gr_1_0, ↓gr_1_1, ↓gr_1_2, ↓gr_1_3, ↓gr_1_4, ↓gr_1_5, ↓gr_1_6, ↓gr_15_0, ↓gr_15_1, ↓gr_15_2, ↓gr_15_3, ↓gr_20_0, ↓gr_20_1, ↓gr_23_0, ↓gr_23_1, ↓gr_23_2, ↓gr_27_0, ↓gr_27_1, ↓gr_27_2, ↓gr_29_0, ↓gr_29_1, ↓gr_29_2, ↓gr_29_3, ↓gr_29_4, ↓gr_33_0, ↓gr_33_1, ↓gr_now, ↓gr_next, ↓tg0 hT, ↓tg1 hT, ↓tg2 hT, ↓tld hT, ↓tst hT, ↓tsm hT, ↓bd_ldv, ln_0, ln_1, ln_2, ln_3, ln_4, ln_5, ln_6, ln_7, ln_8, ln_10, ln_11, ln_12, ln_13, ln_15, ln_16, ln_30, ln_60, ln_256, ln_300, ln_400, ln_500, ln_1023, ln_1024, nl_0, nl_1, nl_2, nl_3, nl_4, nl_5, nl_6, nl_7, nl_8, nl_10, nl_11, nl_12, nl_13, nl_15, nl_16, nl_30, nl_60, nl_256, nl_300, nl_400, nl_500, nl_1023, nl_1024, tn_0, tn_1, tn_2, tn_3, tn_4, tn_5, tn_6, tn_7, tn_8, tn_10, tn_11, tn_12, tn_13, tn_15, tn_16, tn_30, tn_60, tn_256, tn_300, tn_400, tn_500, tn_1023, tn_1024, nt_0, nt_1, nt_2, nt_3, nt_4, nt_5, nt_6, nt_7, nt_8, nt_10, nt_11, nt_12, nt_13, nt_15, nt_16, nt_30, nt_60, nt_256, nt_300, nt_400, nt_500, nt_1023, nt_1024, ne_0, ne_1, ne_2, ne_3, ne_4, ne_5, ne_6, ne_7, ne_8, ne_10, ne_11, ne_12, ne_13, ne_15, ne_16, ne_30, ne_60, ne_256, ne_300, ne_400, ne_500, ne_1023, ne_1024, le_nn, lt_nn, eq_nn, hq, if_true, mn_2, sI_ne, e6, q0]
      · unfold wd
        rw [if_pos q0]
        exact sI_row
      · unfold wd at hw
        rw [if_pos q0] at hw
        unfold std
        rw [if_pos (by omega)]
        exact hi i (by omega)
    · have e26 : σ.2.1 26 = (sI σ (fa 23 4) (fun _ => nI (2 * P.2.2.2.1))).2.1 26 := rfl
      refine ⟨sI (sL (sI σ (fa 23 4) (fun _ => nI (2 * P.2.2.2.1))) 26 (va_up (σ.2.1 26) (2 * P.2.2.2.1) (σ0.2.1 (fa a 4) 0))) (fa 23 4) (fun _ => nI (2 * P.2.2.2.1 + 1)), ?_, hM.tr (((Mod.I (by simp)).tr (Mod.L (by simp))).tr (Mod.I (by simp))), ?_, fun i hw => ?_⟩
      · show b_Sn_ask_10 (l_Sn_ask_10 n) 23 a (nI P.2.2.2.1) (nI s) (lay σ) = _
        unfold b_Sn_ask_10
        simp (disch := first | assumption | rfl | decide | omega) only [↓ckd_lay, ↓bd_gI, ↓bd_gL, ↓bd_pI, ↓bd_pL, ↓bd_pZ, ↓bd_now, ↓bd_next, ↓bd_ldR3, ↓bd_ldR4, ↓ap_ite, ↓ap_rt, ↓ap_lt, ↓rz_0, ↓rz_1, rz_bi, ↓gr_1_0, ↓gr_1_1, ↓gr_1_2, ↓gr_1_3, ↓gr_1_4, ↓gr_1_5, ↓gr_1_6, ↓gr_15_0, ↓gr_15_1, ↓gr_15_2, ↓gr_15_3, ↓gr_20_0, ↓gr_20_1, ↓gr_23_0, ↓gr_23_1, ↓gr_23_2, ↓gr_27_0, ↓gr_27_1, ↓gr_27_2, ↓gr_29_0, ↓gr_29_1, ↓gr_29_2, ↓gr_29_3, ↓gr_29_4, ↓gr_33_0, ↓gr_33_1, ↓gr_now, ↓gr_next, ↓tg0 hT, ↓tg1 hT, ↓tg2 hT, ↓tld hT, ↓tst hT, ↓tsm hT, ↓bd_ldv, ln_0, ln_1, ln_2, ln_3, ln_4, ln_5, ln_6, ln_7, ln_8, ln_10, ln_11, ln_12, ln_13, ln_15, ln_16, ln_30, ln_60, ln_256, ln_300, ln_400, ln_500, ln_1023, ln_1024, nl_0, nl_1, nl_2, nl_3, nl_4, nl_5, nl_6, nl_7, nl_8, nl_10, nl_11, nl_12, nl_13, nl_15, nl_16, nl_30, nl_60, nl_256, nl_300, nl_400, nl_500, nl_1023, nl_1024, tn_0, tn_1, tn_2, tn_3, tn_4, tn_5, tn_6, tn_7, tn_8, tn_10, tn_11, tn_12, tn_13, tn_15, tn_16, tn_30, tn_60, tn_256, tn_300, tn_400, tn_500, tn_1023, tn_1024, nt_0, nt_1, nt_2, nt_3, nt_4, nt_5, nt_6, nt_7, nt_8, nt_10, nt_11, nt_12, nt_13, nt_15, nt_16, nt_30, nt_60, nt_256, nt_300, nt_400, nt_500, nt_1023, nt_1024, ne_0, ne_1, ne_2, ne_3, ne_4, ne_5, ne_6, ne_7, ne_8, ne_10, ne_11, ne_12, ne_13, ne_15, ne_16, ne_30, ne_60, ne_256, ne_300, ne_400, ne_500, ne_1023, ne_1024, le_nn, lt_nn, eq_nn, hq, if_true, mn_2, sI_ne, e6, q0, if_false, sI_row, sL_1, ↓la_26, ↓st_26, sI_2, esd, na_1]
      · unfold wd
        rw [if_neg q0]
        exact sI_row
      · unfold wd at hw
        rw [if_neg q0] at hw
        rw [sI_2, sL_same]
        unfold std
        by_cases q : i = 2 * P.2.2.2.1
        · rw [if_neg (by omega), q, up_same]
        · rw [up_ne q, if_pos (by omega)]
          exact hi i (by omega)
  | r + 1, s, n + 1, σ, h, hn, hM, hi => by
    have h6 := hT.1
    have hlt := hT.2.2.2.2.2.2
    have h5 := hF.1
    have hq : ¬ P.2.2.2.1 ≤ s := by omega
    have eN : σ.2.1 (a + 1) = σ0.2.1 (a + 1) := hM.l (by unfold fa; simp; omega)
    have n26 : a + 1 ≠ 26 := by omega
    have i0 : s * 6 + 0 = 6 * s + 0 := by omega
    have i1 : s * 6 + 1 = 6 * s + 1 := by omega
    obtain ⟨τ, e, d⟩ := s_askGo hT hs hF r (s + 1) n (sL (sL σ 26 (va_up (σ.2.1 26) (2 * s) (σ0.2.1 (a + 1) (6 * s + 0)))) 26 (va_up (va_up (σ.2.1 26) (2 * s) (σ0.2.1 (a + 1) (6 * s + 0))) (2 * s + 1) (σ0.2.1 (a + 1) (6 * s + 1)))) (by omega) (by omega) (hM.tr ((Mod.L (by simp)).tr (Mod.L (by simp)))) (fun i hw => by
      rw [sL_same]
      by_cases q1 : i = 2 * s + 1
      · rw [q1, up_same, show 6 * ((2 * s + 1) / 2) + (2 * s + 1) % 2 = 6 * s + 1 by omega]
      · rw [up_ne q1]
        by_cases q2 : i = 2 * s
        · rw [q2, up_same, show 6 * (2 * s / 2) + 2 * s % 2 = 6 * s + 0 by omega]
        · rw [up_ne q2]; exact hi i (by omega))
    refine ⟨τ, ?_, d⟩
    show b_Sn_ask_10 (l_Sn_ask_10 n) 23 a (nI P.2.2.2.1) (nI s) (lay σ) = _
    unfold b_Sn_ask_10
    simp (disch := first | assumption | rfl | decide | omega) only [↓ckd_lay, ↓bd_gI, ↓bd_gL, ↓bd_pI, ↓bd_pL, ↓bd_pZ, ↓bd_now, ↓bd_next, ↓bd_ldR3, ↓bd_ldR4, ↓ap_ite, ↓ap_rt, ↓ap_lt, ↓rz_0, ↓rz_1, rz_bi, ↓gr_1_0, ↓gr_1_1, ↓gr_1_2, ↓gr_1_3, ↓gr_1_4, ↓gr_1_5, ↓gr_1_6, ↓gr_15_0, ↓gr_15_1, ↓gr_15_2, ↓gr_15_3, ↓gr_20_0, ↓gr_20_1, ↓gr_23_0, ↓gr_23_1, ↓gr_23_2, ↓gr_27_0, ↓gr_27_1, ↓gr_27_2, ↓gr_29_0, ↓gr_29_1, ↓gr_29_2, ↓gr_29_3, ↓gr_29_4, ↓gr_33_0, ↓gr_33_1, ↓gr_now, ↓gr_next, ↓tg0 hT, ↓tg1 hT, ↓tg2 hT, ↓tld hT, ↓tst hT, ↓tsm hT, ↓bd_ldv, ln_0, ln_1, ln_2, ln_3, ln_4, ln_5, ln_6, ln_7, ln_8, ln_10, ln_11, ln_12, ln_13, ln_15, ln_16, ln_30, ln_60, ln_256, ln_300, ln_400, ln_500, ln_1023, ln_1024, nl_0, nl_1, nl_2, nl_3, nl_4, nl_5, nl_6, nl_7, nl_8, nl_10, nl_11, nl_12, nl_13, nl_15, nl_16, nl_30, nl_60, nl_256, nl_300, nl_400, nl_500, nl_1023, nl_1024, tn_0, tn_1, tn_2, tn_3, tn_4, tn_5, tn_6, tn_7, tn_8, tn_10, tn_11, tn_12, tn_13, tn_15, tn_16, tn_30, tn_60, tn_256, tn_300, tn_400, tn_500, tn_1023, tn_1024, nt_0, nt_1, nt_2, nt_3, nt_4, nt_5, nt_6, nt_7, nt_8, nt_10, nt_11, nt_12, nt_13, nt_15, nt_16, nt_30, nt_60, nt_256, nt_300, nt_400, nt_500, nt_1023, nt_1024, ne_0, ne_1, ne_2, ne_3, ne_4, ne_5, ne_6, ne_7, ne_8, ne_10, ne_11, ne_12, ne_13, ne_15, ne_16, ne_30, ne_60, ne_256, ne_300, ne_400, ne_500, ne_1023, ne_1024, le_nn, lt_nn, eq_nn, hq, if_false, na_0, na_1, na_2, na_3, na_4, na_5, na_6, na_7, na_8, na_10, na_11, na_12, na_13, na_15, na_16, na_30, na_60, na_300, an_0, an_1, an_2, an_3, an_4, an_5, an_6, an_7, an_8, an_10, an_11, an_12, an_13, an_15, an_16, an_30, an_60, an_300, nm_0, nm_1, nm_2, nm_3, nm_4, nm_5, nm_6, nm_7, nm_8, nm_10, nm_11, nm_12, nm_13, nm_15, nm_16, nm_30, nm_60, nm_300, mn_0, mn_1, mn_2, mn_3, mn_4, mn_5, mn_6, mn_7, mn_8, mn_10, mn_11, mn_12, mn_13, mn_15, mn_16, mn_30, mn_60, mn_300, nI_add, pk_mul, ↓la_26, ↓st_26, eN, i0, i1, sL_same, sL_ne n26]
    exact e
theorem s_ask {σ : SS} {P : SH} {a : Nat} (hT : IsTw a) (hs : CShp σ P) (hF : FitP P) : ∃ τ, m_Sn_ask 23 a (lay σ) = some ((), lay τ) ∧ Mod [26, fa 23 4] σ τ ∧ τ.1 (fa 23 4) 0 = nI (wd P) ∧ ∀ i, i < wd P → τ.2.1 26 i = std P (σ.2.1 (a + 1)) (σ.2.1 (fa a 4) 0) i := by
  have h6 := hT.1
  have h5 := hF.1
  obtain ⟨τ, e, d⟩ := s_askGo hT hs hF P.2.2.2.1 0 FU σ (by omega) (by unfold FU; omega) Mod.rf (fun i hi => by omega)
  refine ⟨τ, ?_, d⟩
  unfold m_Sn_ask
  simp (disch := first | assumption | rfl | decide | omega) only [↓ckd_lay, ↓bd_gI, ↓bd_gL, ↓bd_pI, ↓bd_pL, ↓bd_pZ, ↓bd_now, ↓bd_next, ↓bd_ldR3, ↓bd_ldR4, ↓ap_ite, ↓ap_rt, ↓ap_lt, ↓rz_0, ↓rz_1, rz_bi, ↓gr_1_0, ↓gr_1_1, ↓gr_1_2, ↓gr_1_3, ↓gr_1_4, ↓gr_1_5, ↓gr_1_6, ↓gr_15_0, ↓gr_15_1, ↓gr_15_2, ↓gr_15_3, ↓gr_20_0, ↓gr_20_1, ↓gr_23_0, ↓gr_23_1, ↓gr_23_2, ↓gr_27_0, ↓gr_27_1, ↓gr_27_2, ↓gr_29_0, ↓gr_29_1, ↓gr_29_2, ↓gr_29_3, ↓gr_29_4, ↓gr_33_0, ↓gr_33_1, ↓gr_now, ↓gr_next, ↓tg0 hT, ↓tg1 hT, ↓tg2 hT, ↓tld hT, ↓tst hT, ↓tsm hT, ↓bd_ldv, hs.2.2.2.1]
  exact e
