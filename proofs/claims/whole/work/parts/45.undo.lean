/-! undo and check. -/
theorem RunOk.det {P : SH} {fs : Int64} {md : Nat → Int64} : ∀ {T : Nat} {N N' : Nat → Int64} {sd sd' : Int64}, RunOk P fs md T N sd → RunOk P fs md T N' sd' → N = N' ∧ sd = sd'
  | 0, N, N', sd, sd', h, g => ⟨h.1.trans g.1.symm, h.2.trans g.2.symm⟩
  | T + 1, N, N', sd, sd', ⟨N0, sd0, h0, h1, h2, h3⟩, ⟨M0, td0, g0, g1, g2, g3⟩ => by
    obtain ⟨rfl, rfl⟩ := RunOk.det h0 g0
    exact ⟨h2.trans g2.symm, h3.trans g3.symm⟩
theorem RunOk.back {P : SH} {fs : Int64} {md : Nat → Int64} {t : Nat} : ∀ {T : Nat} {N : Nat → Int64} {sd : Int64}, RunOk P fs md T N sd → t ≤ T → ∃ N' sd', RunOk P fs md t N' sd'
  | 0, N, sd, h, ht => by
    have : t = 0 := by omega
    subst this
    exact ⟨N, sd, h⟩
  | T + 1, N, sd, h, ht => by
    by_cases q : t = T + 1
    · subst q; exact ⟨N, sd, h⟩
    · obtain ⟨N0, sd0, h0, -⟩ := h
      exact RunOk.back h0 (by omega)
/-- a step behind t steps, where more were made -/
theorem RunOk.on {P : SH} {fs : Int64} {md : Nat → Int64} {T t : Nat} {N M : Nat → Int64} {sd td : Int64} (h : RunOk P fs md T N sd) (g : RunOk P fs md t M td) (ht : t < T) : (pOut nR P (md t) M td).1 = true ∧ RunOk P fs md (t + 1) (pOut nR P (md t) M td).2.1 (pLot P.2.2.2.2.2.2 td).2 := by
  obtain ⟨N', sd', h'⟩ := h.back (t := t + 1) (by omega)
  obtain ⟨N0, sd0, h0, h1, h2, h3⟩ := id h'
  obtain ⟨rfl, rfl⟩ := h0.det g
  rw [h2, h3] at h'
  exact ⟨h1, h'⟩
theorem s_undoGo {σ0 : SS} {P : SH} {fs : Int64} {a b U T : Nat} {md N sd} (hab : CPt σ0 a b) (hs : CShp σ0 P) (hA : AllP P) (hU : σ0.1 (fa 20 2) 0 = nI U) (hUT : U ≤ T) (hT3 : T ≤ 300) (hm : ∀ t, t < U → σ0.2.1 22 t = md t ∧ smp (md t)) (hR : RunOk P fs md T N sd) (hz : Z30 (σ0.2.1 (a + 1))) : ∀ (r t n : Nat) (σ : SS) (M : Nat → Int64) (td : Int64), t + r = U → r < n → Mod (twL b) σ0 σ → σ.2.1 (b + 1) = M → σ.2.1 (fa b 4) 0 = td → RunOk P fs md t M td →
    ∃ τ M' td', l_Ob_undo_44 n 1 (nI t) (lay σ) = some (nI U, lay τ) ∧ Mod (twL b ++ [a + 1, fa a 4]) σ0 τ ∧ τ.2.1 (a + 1) = M' ∧ τ.2.1 (fa a 4) 0 = td' ∧ RunOk P fs md U M' td' ∧ Z30 (τ.2.1 (b + 1))
  | r, t, 0, σ, M, td, h, hn, hM, h1, h2, h3 => by omega
  | 0, t, n + 1, σ, M, td, h, hn, hM, h1, h2, h3 => by
    have hTW : IsTw a ∧ IsTw b := by
      rcases hab.2 with ⟨rfl, rfl⟩ | ⟨rfl, rfl⟩
      · exact ⟨tw_now, tw_next⟩
      · exact ⟨tw_next, tw_now⟩
    have hlt := hTW.1.2.2.2.2.2.2
    have hlb := hTW.2.2.2.2.2.2.2
    have ha : ∀ o ∈ [a + 1, a + 2, fa a 3, fa a 4], o ∉ twL b := by
      rcases hab.2 with ⟨rfl, rfl⟩ | ⟨rfl, rfl⟩ <;> decide
    have hb : b + 1 ∉ [a + 1, fa a 4] := by
      rcases hab.2 with ⟨rfl, rfl⟩ | ⟨rfl, rfl⟩ <;> decide
    have hq : U ≤ t := by omega
    have hu : t = U := by omega
    subst hu
    have eU : σ.1 (fa 20 2) 0 = nI t := by rw [hM.i (by unfold twL fa; simp; omega)]; exact hU
    have hnow : σ.2.2.1 = a := by rw [hM.2, hab.1]
    have hnext : σ.2.2.2 = b := by rw [hM.2, hab.1]
    have hzM : Z30 M := RunOk.z30 hA.1.1 h3
    obtain ⟨τ, e, m, n1, s1⟩ := s_becomeLike (σ := σ) hTW.1 hTW.2 (by rw [hM.l (ha _ (by simp))]; exact hz) (by rw [h1]; exact hzM)
    have eU2 : τ.1 (fa 20 2) 0 = nI t := by rw [m.i (by unfold fa; simp; omega)]; exact eU
    refine ⟨τ, M, td, ?_, (hM.mono (by simp)).tr (m.mono (by simp)), n1.trans h1, s1.trans h2, h3, ?_⟩
    · show b_Ob_undo_44 (l_Ob_undo_44 n) 1 (nI t) (lay σ) = _
      unfold b_Ob_undo_44
      simp (disch := first | assumption | rfl | decide | omega) only [↓ckd_lay, ↓bd_gI, ↓bd_gL, ↓bd_pI, ↓bd_pL, ↓bd_pZ, ↓bd_now, ↓bd_next, ↓bd_ldR3, ↓bd_ldR4, ↓ap_ite, ↓ap_rt, ↓ap_lt, ↓rz_0, ↓rz_1, rz_bi, ↓gr_1_0, ↓gr_1_1, ↓gr_1_2, ↓gr_1_3, ↓gr_1_4, ↓gr_1_5, ↓gr_1_6, ↓gr_15_0, ↓gr_15_1, ↓gr_15_2, ↓gr_15_3, ↓gr_20_0, ↓gr_20_1, ↓gr_23_0, ↓gr_23_1, ↓gr_23_2, ↓gr_27_0, ↓gr_27_1, ↓gr_27_2, ↓gr_29_0, ↓gr_29_1, ↓gr_29_2, ↓gr_29_3, ↓gr_29_4, ↓gr_33_0, ↓gr_33_1, ↓gr_now, ↓gr_next, eU, ln_0, ln_1, ln_2, ln_3, ln_4, ln_5, ln_6, ln_7, ln_8, ln_10, ln_11, ln_12, ln_13, ln_15, ln_16, ln_30, ln_60, ln_256, ln_300, ln_400, ln_500, ln_1023, ln_1024, nl_0, nl_1, nl_2, nl_3, nl_4, nl_5, nl_6, nl_7, nl_8, nl_10, nl_11, nl_12, nl_13, nl_15, nl_16, nl_30, nl_60, nl_256, nl_300, nl_400, nl_500, nl_1023, nl_1024, tn_0, tn_1, tn_2, tn_3, tn_4, tn_5, tn_6, tn_7, tn_8, tn_10, tn_11, tn_12, tn_13, tn_15, tn_16, tn_30, tn_60, tn_256, tn_300, tn_400, tn_500, tn_1023, tn_1024, nt_0, nt_1, nt_2, nt_3, nt_4, nt_5, nt_6, nt_7, nt_8, nt_10, nt_11, nt_12, nt_13, nt_15, nt_16, nt_30, nt_60, nt_256, nt_300, nt_400, nt_500, nt_1023, nt_1024, ne_0, ne_1, ne_2, ne_3, ne_4, ne_5, ne_6, ne_7, ne_8, ne_10, ne_11, ne_12, ne_13, ne_15, ne_16, ne_30, ne_60, ne_256, ne_300, ne_400, ne_500, ne_1023, ne_1024, le_nn, lt_nn, eq_nn, hq, if_true, hnow, hnext]
      rw [bd_eq e]
      simp (disch := first | assumption | rfl | decide | omega) only [↓ckd_lay, ↓bd_gI, ↓bd_gL, ↓bd_pI, ↓bd_pL, ↓bd_pZ, ↓bd_now, ↓bd_next, ↓bd_ldR3, ↓bd_ldR4, ↓ap_ite, ↓ap_rt, ↓ap_lt, ↓rz_0, ↓rz_1, rz_bi, ↓gr_1_0, ↓gr_1_1, ↓gr_1_2, ↓gr_1_3, ↓gr_1_4, ↓gr_1_5, ↓gr_1_6, ↓gr_15_0, ↓gr_15_1, ↓gr_15_2, ↓gr_15_3, ↓gr_20_0, ↓gr_20_1, ↓gr_23_0, ↓gr_23_1, ↓gr_23_2, ↓gr_27_0, ↓gr_27_1, ↓gr_27_2, ↓gr_29_0, ↓gr_29_1, ↓gr_29_2, ↓gr_29_3, ↓gr_29_4, ↓gr_33_0, ↓gr_33_1, ↓gr_now, ↓gr_next, eU2]
    · rw [m.l hb, h1]; exact hzM
  | r + 1, t, n + 1, σ, M, td, h, hn, hM, h1, h2, h3 => by
    have hTW : IsTw a ∧ IsTw b := by
      rcases hab.2 with ⟨rfl, rfl⟩ | ⟨rfl, rfl⟩
      · exact ⟨tw_now, tw_next⟩
      · exact ⟨tw_next, tw_now⟩
    have hlb := hTW.2.2.2.2.2.2.2
    have hq : ¬ U ≤ t := by omega
    have eU : σ.1 (fa 20 2) 0 = nI U := by rw [hM.i (by unfold twL fa; simp; omega)]; exact hU
    have hnext : σ.2.2.2 = b := by rw [hM.2, hab.1]
    have e22 : σ.2.1 22 t = md t := by rw [hM.l (by unfold twL fa; simp; omega)]; exact (hm t (by omega)).1
    have hsm := (hm t (by omega)).2
    obtain ⟨o1, o2⟩ := hR.on h3 (by omega)
    obtain ⟨σ', e, m, n1, k1, s1, d1⟩ := s_makeStep (u := md t) hTW.2 (hs.mod hTW.2 hM) hA.1.1
    rw [h1, h2, out_eq hA h3.ng hsm] at n1
    rw [h2] at s1
    obtain ⟨τ, M', td', e', d'⟩ := s_undoGo hab hs hA hU hUT hT3 hm hR hz r (t + 1) n σ' _ _ (by omega) (by omega) (hM.tr m) n1 s1 o2
    refine ⟨τ, M', td', ?_, d'⟩
    show b_Ob_undo_44 (l_Ob_undo_44 n) 1 (nI t) (lay σ) = _
    unfold b_Ob_undo_44
    simp (disch := first | assumption | rfl | decide | omega) only [↓ckd_lay, ↓bd_gI, ↓bd_gL, ↓bd_pI, ↓bd_pL, ↓bd_pZ, ↓bd_now, ↓bd_next, ↓bd_ldR3, ↓bd_ldR4, ↓ap_ite, ↓ap_rt, ↓ap_lt, ↓rz_0, ↓rz_1, rz_bi, ↓gr_1_0, ↓gr_1_1, ↓gr_1_2, ↓gr_1_3, ↓gr_1_4, ↓gr_1_5, ↓gr_1_6, ↓gr_15_0, ↓gr_15_1, ↓gr_15_2, ↓gr_15_3, ↓gr_20_0, ↓gr_20_1, ↓gr_23_0, ↓gr_23_1, ↓gr_23_2, ↓gr_27_0, ↓gr_27_1, ↓gr_27_2, ↓gr_29_0, ↓gr_29_1, ↓gr_29_2, ↓gr_29_3, ↓gr_29_4, ↓gr_33_0, ↓gr_33_1, ↓gr_now, ↓gr_next, eU, ln_0, ln_1, ln_2, ln_3, ln_4, ln_5, ln_6, ln_7, ln_8, ln_10, ln_11, ln_12, ln_13, ln_15, ln_16, ln_30, ln_60, ln_256, ln_300, ln_400, ln_500, ln_1023, ln_1024, nl_0, nl_1, nl_2, nl_3, nl_4, nl_5, nl_6, nl_7, nl_8, nl_10, nl_11, nl_12, nl_13, nl_15, nl_16, nl_30, nl_60, nl_256, nl_300, nl_400, nl_500, nl_1023, nl_1024, tn_0, tn_1, tn_2, tn_3, tn_4, tn_5, tn_6, tn_7, tn_8, tn_10, tn_11, tn_12, tn_13, tn_15, tn_16, tn_30, tn_60, tn_256, tn_300, tn_400, tn_500, tn_1023, tn_1024, nt_0, nt_1, nt_2, nt_3, nt_4, nt_5, nt_6, nt_7, nt_8, nt_10, nt_11, nt_12, nt_13, nt_15, nt_16, nt_30, nt_60, nt_256, nt_300, nt_400, nt_500, nt_1023, nt_1024, ne_0, ne_1, ne_2, ne_3, ne_4, ne_5, ne_6, ne_7, ne_8, ne_10, ne_11, ne_12, ne_13, ne_15, ne_16, ne_30, ne_60, ne_256, ne_300, ne_400, ne_500, ne_1023, ne_1024, le_nn, lt_nn, eq_nn, hq, if_false, hnext, ↓la_22, ↓st_22, e22]
    rw [bd_eq e, na_1]
    exact e'
theorem s_undoM {σ0 : SS} {P : SH} {fs : Int64} {U T : Nat} {md N sd} (hs : RShp σ0 P) (hA : AllP P) (hU : σ0.1 (fa 81 16) 0 = nI U) (hUT : U ≤ T) (hT3 : T ≤ 300) (hm : ∀ t, t < U → σ0.2.1 92 t = md t) (hR : RunOk P fs md T N sd) (hz : Z30 (σ0.2.1 91)) : ∀ (r t n : Nat) (σ : SS) (M : Nat → Int64) (td : Int64), t + r = U → r < n → Mod rwL σ0 σ → σ.2.1 95 = M → σ.2.1 (fa 81 22) 0 = td → RunOk P fs md t M td →
    ∃ τ M' td', l_Md_undo_33 n 81 (nI t) (lay σ) = some (nI U, lay τ) ∧ Mod (rwL ++ [91, fa 81 15]) σ0 τ ∧ τ.2.1 91 = M' ∧ τ.2.1 (fa 81 15) 0 = td' ∧ RunOk P fs md U M' td' ∧ Z30 (τ.2.1 95)
  | r, t, 0, σ, M, td, h, hn, hM, h1, h2, h3 => by omega
  | 0, t, n + 1, σ, M, td, h, hn, hM, h1, h2, h3 => by
    have hq : U ≤ t := by omega
    have hu : t = U := by omega
    subst hu
    have eU : σ.1 (fa 81 16) 0 = nI t := by rw [hM.i (by decide)]; exact hU
    have hzM : Z30 M := RunOk.z30 hA.1.1 h3
    obtain ⟨τ, e, m, n1, s1⟩ := s_lay (σ := σ) (by rw [hM.l (by decide)]; exact hz) (by rw [h1]; exact hzM)
    have eU2 : τ.1 (fa 81 16) 0 = nI t := by rw [m.i (by decide)]; exact eU
    refine ⟨τ, M, td, ?_, (hM.mono (by simp)).tr (m.mono (by simp)), n1.trans h1, s1.trans h2, h3, ?_⟩
    · show b_Md_undo_33 (l_Md_undo_33 n) 81 (nI t) (lay σ) = _
      unfold b_Md_undo_33
      simp (disch := first | assumption | rfl | decide | omega) only [↓ckd_lay, ↓bd_gI, ↓bd_gL, ↓bd_pI, ↓bd_pL, ↓bd_pZ, ↓bd_now, ↓bd_next, ↓bd_ldR3, ↓bd_ldR4, ↓ap_ite, ↓ap_rt, ↓ap_lt, ↓rz_0, ↓rz_1, rz_bi, ↓gr_81_0, ↓gr_81_1, ↓gr_81_2, ↓gr_81_3, ↓gr_81_4, ↓gr_81_7, ↓gr_81_8, ↓gr_81_9, ↓gr_81_11, ↓gr_81_14, ↓gr_81_17, ↓gr_81_18, ↓gr_81_20, ↓gr_81_21, ↓gr_81_25, ↓gr_81_26, ↓gr_81_27, ↓gr_81_28, ↓gr_81_29, ↓gr_81_31, ↓gr_81_32, ↓gr_81_33, ↓gr_81_34, ↓gr_81_36, ↓gr_81_39, eU, ln_0, ln_1, ln_2, ln_3, ln_4, ln_5, ln_6, ln_7, ln_8, ln_10, ln_11, ln_12, ln_13, ln_15, ln_16, ln_30, ln_60, ln_256, ln_300, ln_400, ln_500, ln_1023, ln_1024, nl_0, nl_1, nl_2, nl_3, nl_4, nl_5, nl_6, nl_7, nl_8, nl_10, nl_11, nl_12, nl_13, nl_15, nl_16, nl_30, nl_60, nl_256, nl_300, nl_400, nl_500, nl_1023, nl_1024, tn_0, tn_1, tn_2, tn_3, tn_4, tn_5, tn_6, tn_7, tn_8, tn_10, tn_11, tn_12, tn_13, tn_15, tn_16, tn_30, tn_60, tn_256, tn_300, tn_400, tn_500, tn_1023, tn_1024, nt_0, nt_1, nt_2, nt_3, nt_4, nt_5, nt_6, nt_7, nt_8, nt_10, nt_11, nt_12, nt_13, nt_15, nt_16, nt_30, nt_60, nt_256, nt_300, nt_400, nt_500, nt_1023, nt_1024, ne_0, ne_1, ne_2, ne_3, ne_4, ne_5, ne_6, ne_7, ne_8, ne_10, ne_11, ne_12, ne_13, ne_15, ne_16, ne_30, ne_60, ne_256, ne_300, ne_400, ne_500, ne_1023, ne_1024, le_nn, lt_nn, eq_nn, hq, if_true]
      rw [bd_eq e]
      simp (disch := first | assumption | rfl | decide | omega) only [↓ckd_lay, ↓bd_gI, ↓bd_gL, ↓bd_pI, ↓bd_pL, ↓bd_pZ, ↓bd_now, ↓bd_next, ↓bd_ldR3, ↓bd_ldR4, ↓ap_ite, ↓ap_rt, ↓ap_lt, ↓rz_0, ↓rz_1, rz_bi, ↓gr_81_0, ↓gr_81_1, ↓gr_81_2, ↓gr_81_3, ↓gr_81_4, ↓gr_81_7, ↓gr_81_8, ↓gr_81_9, ↓gr_81_11, ↓gr_81_14, ↓gr_81_17, ↓gr_81_18, ↓gr_81_20, ↓gr_81_21, ↓gr_81_25, ↓gr_81_26, ↓gr_81_27, ↓gr_81_28, ↓gr_81_29, ↓gr_81_31, ↓gr_81_32, ↓gr_81_33, ↓gr_81_34, ↓gr_81_36, ↓gr_81_39, eU2]
    · rw [m.l (by decide), h1]; exact hzM
  | r + 1, t, n + 1, σ, M, td, h, hn, hM, h1, h2, h3 => by
    have hq : ¬ U ≤ t := by omega
    have eU : σ.1 (fa 81 16) 0 = nI U := by rw [hM.i (by decide)]; exact hU
    have e92 : σ.2.1 92 t = md t := by rw [hM.l (by decide)]; exact hm t (by omega)
    obtain ⟨o1, o2⟩ := hR.on h3 (by omega)
    obtain ⟨σ', e, m, n1, k1, s1, d1⟩ := s_tries (u := md t) (hs.mod2 hM (by decide)) hA.1
    rw [h1, h2] at n1
    rw [h2] at s1
    obtain ⟨τ, M', td', e', d'⟩ := s_undoM hs hA hU hUT hT3 hm hR hz r (t + 1) n σ' _ _ (by omega) (by omega) (hM.tr m) n1 s1 o2
    refine ⟨τ, M', td', ?_, d'⟩
    show b_Md_undo_33 (l_Md_undo_33 n) 81 (nI t) (lay σ) = _
    unfold b_Md_undo_33
    simp (disch := first | assumption | rfl | decide | omega) only [↓ckd_lay, ↓bd_gI, ↓bd_gL, ↓bd_pI, ↓bd_pL, ↓bd_pZ, ↓bd_now, ↓bd_next, ↓bd_ldR3, ↓bd_ldR4, ↓ap_ite, ↓ap_rt, ↓ap_lt, ↓rz_0, ↓rz_1, rz_bi, ↓gr_81_0, ↓gr_81_1, ↓gr_81_2, ↓gr_81_3, ↓gr_81_4, ↓gr_81_7, ↓gr_81_8, ↓gr_81_9, ↓gr_81_11, ↓gr_81_14, ↓gr_81_17, ↓gr_81_18, ↓gr_81_20, ↓gr_81_21, ↓gr_81_25, ↓gr_81_26, ↓gr_81_27, ↓gr_81_28, ↓gr_81_29, ↓gr_81_31, ↓gr_81_32, ↓gr_81_33, ↓gr_81_34, ↓gr_81_36, ↓gr_81_39, eU, ln_0, ln_1, ln_2, ln_3, ln_4, ln_5, ln_6, ln_7, ln_8, ln_10, ln_11, ln_12, ln_13, ln_15, ln_16, ln_30, ln_60, ln_256, ln_300, ln_400, ln_500, ln_1023, ln_1024, nl_0, nl_1, nl_2, nl_3, nl_4, nl_5, nl_6, nl_7, nl_8, nl_10, nl_11, nl_12, nl_13, nl_15, nl_16, nl_30, nl_60, nl_256, nl_300, nl_400, nl_500, nl_1023, nl_1024, tn_0, tn_1, tn_2, tn_3, tn_4, tn_5, tn_6, tn_7, tn_8, tn_10, tn_11, tn_12, tn_13, tn_15, tn_16, tn_30, tn_60, tn_256, tn_300, tn_400, tn_500, tn_1023, tn_1024, nt_0, nt_1, nt_2, nt_3, nt_4, nt_5, nt_6, nt_7, nt_8, nt_10, nt_11, nt_12, nt_13, nt_15, nt_16, nt_30, nt_60, nt_256, nt_300, nt_400, nt_500, nt_1023, nt_1024, ne_0, ne_1, ne_2, ne_3, ne_4, ne_5, ne_6, ne_7, ne_8, ne_10, ne_11, ne_12, ne_13, ne_15, ne_16, ne_30, ne_60, ne_256, ne_300, ne_400, ne_500, ne_1023, ne_1024, le_nn, lt_nn, eq_nn, hq, if_false, ↓la_92, ↓st_92, e92]
    rw [bd_eq e, na_1]
    exact e'
theorem ite_in3 {β : Type} {i : Int32} {n : Nat} {A B : β} (hn : n < 2 ^ 30) : (if i < 0 then A else if i ≤ nI n then B else A) = if 0 ≤ i ∧ i < nI (n + 1) then B else A := by
  rw [← ite_in2]
  have : (i ≤ nI n) ↔ (i < nI (n + 1)) := by
    simp only [Int32.le_iff_toInt_le, Int32.lt_iff_toInt_lt, nI_toInt (show n < 2 ^ 31 by omega), nI_toInt (show n + 1 < 2 ^ 31 by omega)]
    omega
  simp only [this]
theorem d_undo {σ : SS} {i : Int32} (h : Rel σ) : Duo (m_Ob_undo 1 i) (m_Md_undo 81 i) σ := by
  obtain ⟨⟨P, fs, a, b, S, c, r, p, z⟩, rs⟩ := h.cut2
  obtain ⟨h1, h2, h5, h7, h9, h11, h15, hm, hr, l2⟩ := id c
  obtain ⟨g2, g5, g7, g9, g11, g15, gm, gr, gl⟩ := id r
  obtain ⟨p1, p2, p3, p4, p5, p6⟩ := id p
  have hc : (nI S.1).toInt64.toInt = ((S.1 + 1 : Nat) : Int) - 1 := by
    rw [Int32.toInt_toInt64, nI_toInt (by omega)]; omega
  by_cases hi : 0 ≤ i ∧ i < nI (S.1 + 1)
  · obtain ⟨j, hj, rfl⟩ := nI_ex (by omega) hi.1 hi.2
    have hTW := c.tw
    have hT := hTW.2
    have h6 := hT.1
    have hlt := hTW.1.2.2.2.2.2.2
    have hlb := hT.2.2.2.2.2.2
    have hz := RunOk.z30 p1.1.1 p4
    have hnext : σ.2.2.2 = b := by rw [h1.1]
    have hjT : j ≤ S.1 := by omega
    have hjn : ¬ nI j < 0 := nI_pos (by omega)
    -- the class
    have hcls : ∃ τ N' sd', m_Ob_undo 1 (nI j) (lay σ) = some (nI (S.1 - j), lay τ) ∧ Mod [76, 77, fa 75 3, fa 75 4, fa 75 5, 79, 80, fa 78 3, fa 78 4, fa 78 5, fa 20 2] σ τ ∧ CI τ P fs a b (S.1 - j, N', sd', S.2.2.2) ∧ RunOk P fs S.2.2.2.1 (S.1 - j) N' sd' := by
      by_cases h0 : j = 0
      · subst h0
        refine ⟨σ, S.2.1, S.2.2.1, ?_, Mod.rf, c, p4⟩
        unfold m_Ob_undo
        simp (disch := first | assumption | rfl | decide | omega) only [↓ckd_lay, ↓bd_gI, ↓bd_gL, ↓bd_pI, ↓bd_pL, ↓bd_pZ, ↓bd_now, ↓bd_next, ↓bd_ldR3, ↓bd_ldR4, ↓ap_ite, ↓ap_rt, ↓ap_lt, ↓rz_0, ↓rz_1, rz_bi, ↓gr_1_0, ↓gr_1_1, ↓gr_1_2, ↓gr_1_3, ↓gr_1_4, ↓gr_1_5, ↓gr_1_6, ↓gr_15_0, ↓gr_15_1, ↓gr_15_2, ↓gr_15_3, ↓gr_20_0, ↓gr_20_1, ↓gr_23_0, ↓gr_23_1, ↓gr_23_2, ↓gr_27_0, ↓gr_27_1, ↓gr_27_2, ↓gr_29_0, ↓gr_29_1, ↓gr_29_2, ↓gr_29_3, ↓gr_29_4, ↓gr_33_0, ↓gr_33_1, ↓gr_now, ↓gr_next, h15, hjn, hjT, ln_0, ln_1, ln_2, ln_3, ln_4, ln_5, ln_6, ln_7, ln_8, ln_10, ln_11, ln_12, ln_13, ln_15, ln_16, ln_30, ln_60, ln_256, ln_300, ln_400, ln_500, ln_1023, ln_1024, nl_0, nl_1, nl_2, nl_3, nl_4, nl_5, nl_6, nl_7, nl_8, nl_10, nl_11, nl_12, nl_13, nl_15, nl_16, nl_30, nl_60, nl_256, nl_300, nl_400, nl_500, nl_1023, nl_1024, tn_0, tn_1, tn_2, tn_3, tn_4, tn_5, tn_6, tn_7, tn_8, tn_10, tn_11, tn_12, tn_13, tn_15, tn_16, tn_30, tn_60, tn_256, tn_300, tn_400, tn_500, tn_1023, tn_1024, nt_0, nt_1, nt_2, nt_3, nt_4, nt_5, nt_6, nt_7, nt_8, nt_10, nt_11, nt_12, nt_13, nt_15, nt_16, nt_30, nt_60, nt_256, nt_300, nt_400, nt_500, nt_1023, nt_1024, ne_0, ne_1, ne_2, ne_3, ne_4, ne_5, ne_6, ne_7, ne_8, ne_10, ne_11, ne_12, ne_13, ne_15, ne_16, ne_30, ne_60, ne_256, ne_300, ne_400, ne_500, ne_1023, ne_1024, le_nn, lt_nn, eq_nn, if_true, if_false, Nat.le_refl, Nat.sub_zero]
      · obtain ⟨τ1, e1, m1, n1, s1⟩ := s_beginAgain (σ := sI σ (fa 20 2) (fun _ => nI (S.1 - j))) hT h11
        have mA : Mod [b + 1, fa b 4, fa 20 2] σ τ1 := (Mod.I (by simp)).tr (m1.mono (by simp))
        have hab1 : CPt τ1 a b := ⟨mA.2.trans h1.1, h1.2⟩
        have o1 : ∀ o ∈ [a + 1, a + 2, fa a 3, fa a 4, 21, 22, fa 15 7, 16, 17, 18, 19, fa 15 4, fa 15 5, fa 15 6], o ∉ twL b ++ [fa 20 2] := by
          rcases h1.2 with ⟨rfl, rfl⟩ | ⟨rfl, rfl⟩ <;> decide
        have o2 : ∀ o ∈ [a + 2, fa a 3, 21, 22, fa 20 2, fa 15 7, 16, 17, 18, 19, fa 15 4, fa 15 5, fa 15 6], o ∉ twL b ++ [a + 1, fa a 4] := by
          rcases h1.2 with ⟨rfl, rfl⟩ | ⟨rfl, rfl⟩ <;> decide
        have mA' : Mod (twL b ++ [fa 20 2]) σ τ1 := mA.mono (by simp)
        have e20 : τ1.1 (fa 20 2) 0 = nI (S.1 - j) := by rw [m1.i (by unfold fa; simp; omega)]; exact sI_row
        have sh1 : CShp τ1 P := h2.mod2 mA (by
          rcases h1.2 with ⟨rfl, rfl⟩ | ⟨rfl, rfl⟩ <;> decide)
        obtain ⟨τ, N', sd', e, m, k1, k2, k3, k4⟩ := s_undoGo (U := S.1 - j) (T := S.1) (md := S.2.2.2.1) (fs := fs) hab1 sh1 p1 e20 (by omega) p2 (fun t ht => ⟨by rw [mA'.l (o1 _ (by simp))]; exact hm t (by omega), p3 t (by omega)⟩) p4 (by rw [mA'.l (o1 _ (by simp)), h9]; exact hz) (S.1 - j) 0 FU τ1 (fun _ => 0) fs (by omega) (by unfold FU; omega) Mod.rf n1 (s1.trans h5) ⟨rfl, rfl⟩
        refine ⟨τ, N', sd', ?_, ?_, ⟨⟨m.2.trans hab1.1, h1.2⟩, ?_, ?_, k2, k1, k4, ?_, ?_, ?_, ?_⟩, k3⟩
        · unfold m_Ob_undo
          simp (disch := first | assumption | rfl | decide | omega) only [↓ckd_lay, ↓bd_gI, ↓bd_gL, ↓bd_pI, ↓bd_pL, ↓bd_pZ, ↓bd_now, ↓bd_next, ↓bd_ldR3, ↓bd_ldR4, ↓ap_ite, ↓ap_rt, ↓ap_lt, ↓rz_0, ↓rz_1, rz_bi, ↓gr_1_0, ↓gr_1_1, ↓gr_1_2, ↓gr_1_3, ↓gr_1_4, ↓gr_1_5, ↓gr_1_6, ↓gr_15_0, ↓gr_15_1, ↓gr_15_2, ↓gr_15_3, ↓gr_20_0, ↓gr_20_1, ↓gr_23_0, ↓gr_23_1, ↓gr_23_2, ↓gr_27_0, ↓gr_27_1, ↓gr_27_2, ↓gr_29_0, ↓gr_29_1, ↓gr_29_2, ↓gr_29_3, ↓gr_29_4, ↓gr_33_0, ↓gr_33_1, ↓gr_now, ↓gr_next, h15, hjn, hjT, ln_0, ln_1, ln_2, ln_3, ln_4, ln_5, ln_6, ln_7, ln_8, ln_10, ln_11, ln_12, ln_13, ln_15, ln_16, ln_30, ln_60, ln_256, ln_300, ln_400, ln_500, ln_1023, ln_1024, nl_0, nl_1, nl_2, nl_3, nl_4, nl_5, nl_6, nl_7, nl_8, nl_10, nl_11, nl_12, nl_13, nl_15, nl_16, nl_30, nl_60, nl_256, nl_300, nl_400, nl_500, nl_1023, nl_1024, tn_0, tn_1, tn_2, tn_3, tn_4, tn_5, tn_6, tn_7, tn_8, tn_10, tn_11, tn_12, tn_13, tn_15, tn_16, tn_30, tn_60, tn_256, tn_300, tn_400, tn_500, tn_1023, tn_1024, nt_0, nt_1, nt_2, nt_3, nt_4, nt_5, nt_6, nt_7, nt_8, nt_10, nt_11, nt_12, nt_13, nt_15, nt_16, nt_30, nt_60, nt_256, nt_300, nt_400, nt_500, nt_1023, nt_1024, ne_0, ne_1, ne_2, ne_3, ne_4, ne_5, ne_6, ne_7, ne_8, ne_10, ne_11, ne_12, ne_13, ne_15, ne_16, ne_30, ne_60, ne_256, ne_300, ne_400, ne_500, ne_1023, ne_1024, le_nn, lt_nn, eq_nn, if_true, if_false, sI_2, hnext]
          rw [if_neg (by omega), pk_sub (by omega), bd_eq e1]
          exact e
        · rcases h1.2 with ⟨rfl, rfl⟩ | ⟨rfl, rfl⟩
          · exact (mA.mono (by decide)).tr (m.mono (by decide))
          · exact (mA.mono (by decide)).tr (m.mono (by decide))
        · refine sh1.mod2 m ?_
          rcases h1.2 with ⟨rfl, rfl⟩ | ⟨rfl, rfl⟩ <;> decide
        · rw [m.l (o2 _ (by simp)), mA'.l (o1 _ (by simp))]; exact h5
        · rw [m.i (o2 _ (by simp))]; exact e20
        · rw [m.l (o2 _ (by simp)), mA'.l (o1 _ (by simp))]; exact fun t ht => hm t (by have : t < S.1 - j := ht; omega)
        · rw [m.l (o2 _ (by simp)), mA'.l (o1 _ (by simp))]; exact fun t ht => hr t (by have : t < S.1 - j := ht; omega)
        · rw [m.i (o2 _ (by simp)), m.i (o2 _ (by simp)), mA'.i (o1 _ (by simp)), mA'.i (o1 _ (by simp))]; exact l2
    obtain ⟨τ, N', sd', e1, m1, c1, q1⟩ := hcls
    have r1 : RI τ P fs S := r.mod m1.p (by decide)
    obtain ⟨f2, f5, f7, f9, f11, f15, fm, fr, fl⟩ := r1
    obtain ⟨υ1, e2, m2, n2, s2⟩ := s_rest (σ := sI τ (fa 81 16) (fun _ => nI (S.1 - j))) f11
    have mB : Mod [fa 81 16, 95, fa 81 22] τ υ1 := (Mod.I (by simp)).tr (m2.mono (by simp))
    obtain ⟨υ, N2, sd2, e3, m3, k1, k2, k3, k4⟩ := s_undoM (U := S.1 - j) (T := S.1) (md := S.2.2.2.1) (fs := fs) (f2.mod2 mB (by decide)) p1 (by rw [m2.i (by decide)]; exact sI_row) (by omega) p2 (fun t ht => by rw [mB.l (by decide)]; exact fm t (by omega)) p4 (by rw [mB.l (by decide), f9]; exact hz) (S.1 - j) 0 FU υ1 (fun _ => 0) fs (by omega) (by unfold FU; omega) Mod.rf n2 (s2.trans f5) ⟨rfl, rfl⟩
    obtain ⟨rfl, rfl⟩ := k3.det q1
    have mr : Mod rL τ υ := (mB.mono (by decide)).tr (m3.mono (by decide))
    have r2 : RI υ P fs (S.1 - j, N2, sd2, S.2.2.2) := by
      refine ⟨(f2.mod2 mB (by decide)).mod2 m3 (by decide), ?_, k2, k1, k4, ?_, ?_, ?_, ?_⟩
      · rw [mr.l (by decide)]; exact f5
      · rw [m3.i (by decide), m2.i (by decide)]; exact sI_row
      · rw [m3.l (by decide), mB.l (by decide)]; exact fun t ht => fm t (by have : t < S.1 - j := ht; omega)
      · rw [m3.l (by decide), mB.l (by decide)]; exact fun t ht => fr t (by have : t < S.1 - j := ht; omega)
      · rw [m3.i (by decide), m3.i (by decide), mB.i (by decide), mB.i (by decide)]; exact fl
    have pp : PI P fs (S.1 - j, N2, sd2, S.2.2.2) := ⟨p1, by show S.1 - j ≤ 300; omega, fun t ht => p3 t (by have : t < S.1 - j := ht; omega), q1, fun t ht => p5 t (by have : t < S.1 - j := ht; omega), p6⟩
    refine ⟨_, τ, υ, e1, ?_, Rel.mk2 (c1.mod mr (by decide)) r2 pp ((z.mdp m1.p (by decide)).mdp mr.p (by decide)) ((rs.mdp m1.p (by decide)).mdp mr.p (by decide))⟩
    unfold m_Md_undo
    simp (disch := first | assumption | rfl | decide | omega) only [↓ckd_lay, ↓bd_gI, ↓bd_gL, ↓bd_pI, ↓bd_pL, ↓bd_pZ, ↓bd_now, ↓bd_next, ↓bd_ldR3, ↓bd_ldR4, ↓ap_ite, ↓ap_rt, ↓ap_lt, ↓rz_0, ↓rz_1, rz_bi, ↓gr_81_0, ↓gr_81_1, ↓gr_81_2, ↓gr_81_3, ↓gr_81_4, ↓gr_81_7, ↓gr_81_8, ↓gr_81_9, ↓gr_81_11, ↓gr_81_14, ↓gr_81_17, ↓gr_81_18, ↓gr_81_20, ↓gr_81_21, ↓gr_81_25, ↓gr_81_26, ↓gr_81_27, ↓gr_81_28, ↓gr_81_29, ↓gr_81_31, ↓gr_81_32, ↓gr_81_33, ↓gr_81_34, ↓gr_81_36, ↓gr_81_39, f15]
    rw [q_inC (S.1 + 1) (by omega) hc, if_neg (by rw [bi_0]; exact fun q => q hi)]
    simp (disch := first | assumption | rfl | decide | omega) only [↓ckd_lay, ↓bd_gI, ↓bd_gL, ↓bd_pI, ↓bd_pL, ↓bd_pZ, ↓bd_now, ↓bd_next, ↓bd_ldR3, ↓bd_ldR4, ↓ap_ite, ↓ap_rt, ↓ap_lt, ↓rz_0, ↓rz_1, rz_bi, ↓gr_81_0, ↓gr_81_1, ↓gr_81_2, ↓gr_81_3, ↓gr_81_4, ↓gr_81_7, ↓gr_81_8, ↓gr_81_9, ↓gr_81_11, ↓gr_81_14, ↓gr_81_17, ↓gr_81_18, ↓gr_81_20, ↓gr_81_21, ↓gr_81_25, ↓gr_81_26, ↓gr_81_27, ↓gr_81_28, ↓gr_81_29, ↓gr_81_31, ↓gr_81_32, ↓gr_81_33, ↓gr_81_34, ↓gr_81_36, ↓gr_81_39, f15]
    rw [pk_sub (by omega), bd_eq e2]
    exact e3
  · refine Duo.same h (-2) ?_ ?_
    · unfold m_Ob_undo
      simp (disch := first | assumption | rfl | decide | omega) only [↓ckd_lay, ↓bd_gI, ↓bd_gL, ↓bd_pI, ↓bd_pL, ↓bd_pZ, ↓bd_now, ↓bd_next, ↓bd_ldR3, ↓bd_ldR4, ↓ap_ite, ↓ap_rt, ↓ap_lt, ↓rz_0, ↓rz_1, rz_bi, ↓gr_1_0, ↓gr_1_1, ↓gr_1_2, ↓gr_1_3, ↓gr_1_4, ↓gr_1_5, ↓gr_1_6, ↓gr_15_0, ↓gr_15_1, ↓gr_15_2, ↓gr_15_3, ↓gr_20_0, ↓gr_20_1, ↓gr_23_0, ↓gr_23_1, ↓gr_23_2, ↓gr_27_0, ↓gr_27_1, ↓gr_27_2, ↓gr_29_0, ↓gr_29_1, ↓gr_29_2, ↓gr_29_3, ↓gr_29_4, ↓gr_33_0, ↓gr_33_1, ↓gr_now, ↓gr_next, h15]
      rw [ite_in3 (by omega), if_neg hi]
    · unfold m_Md_undo
      simp (disch := first | assumption | rfl | decide | omega) only [↓ckd_lay, ↓bd_gI, ↓bd_gL, ↓bd_pI, ↓bd_pL, ↓bd_pZ, ↓bd_now, ↓bd_next, ↓bd_ldR3, ↓bd_ldR4, ↓ap_ite, ↓ap_rt, ↓ap_lt, ↓rz_0, ↓rz_1, rz_bi, ↓gr_81_0, ↓gr_81_1, ↓gr_81_2, ↓gr_81_3, ↓gr_81_4, ↓gr_81_7, ↓gr_81_8, ↓gr_81_9, ↓gr_81_11, ↓gr_81_14, ↓gr_81_17, ↓gr_81_18, ↓gr_81_20, ↓gr_81_21, ↓gr_81_25, ↓gr_81_26, ↓gr_81_27, ↓gr_81_28, ↓gr_81_29, ↓gr_81_31, ↓gr_81_32, ↓gr_81_33, ↓gr_81_34, ↓gr_81_36, ↓gr_81_39, g15]
      rw [q_inC (S.1 + 1) (by omega) hc, if_pos (by rw [bi_0]; exact hi), ap_rt]
