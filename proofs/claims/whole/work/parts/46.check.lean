/-! check. -/
def pAgr (f N : Nat → Int64) (t : Nat) : Nat → Nat → Bool
  | 0, _ => true
  | r + 1, s => if f (7 * t + 2 + s) = N (6 * s) then pAgr f N t r (s + 1) else false
theorem pAgr_congr {f g N : Nat → Int64} {t : Nat} : ∀ (r s : Nat), (∀ w, w < s + r → f (7 * t + 2 + w) = g (7 * t + 2 + w)) → pAgr f N t r s = pAgr g N t r s
  | 0, s, h => rfl
  | r + 1, s, h => by
    unfold pAgr
    rw [h s (by omega), pAgr_congr r (s + 1) (fun w hw => h w (by omega))]
/-- what check answers: T steps, r of them still to be looked at -/
def pChk (P : SH) (rc : Nat → Int64) : Nat → Nat → (Nat → Int64) → Int64 → Int32
  | 0, _, _, _ => -1
  | r + 1, t, N, sd => if (pOut nR P (rc (7 * t)) N sd).1 = true ∧ P.2.2.2.2.1 (pTold nR P (rc (7 * t)) N sd) = rc (7 * t + 1) ∧ pAgr rc (pOut nR P (rc (7 * t)) N sd).2.1 t P.2.2.2.1 0 = true then pChk P rc r (t + 1) (pOut nR P (rc (7 * t)) N sd).2.1 (pLot P.2.2.2.2.2.2 sd).2 else nI t
theorem s_agreesGo {σ : SS} {b t S : Nat} (hT : IsTw b) (hS : σ.1 (fa 15 4) 0 = nI S) (hS5 : S ≤ 5) (ht : t < 300) : ∀ (r s n : Nat), s + r = S → r < n → l_Lg_agrees_25 n 20 (nI t) b (nI s) (lay σ) = some (bi (pAgr (σ.2.1 21) (σ.2.1 (b + 1)) t r s = true), lay σ)
  | r, s, 0, h, hn => by omega
  | 0, s, n + 1, h, hn => by
    have hq : S ≤ s := by omega
    show b_Lg_agrees_25 (l_Lg_agrees_25 n) 20 (nI t) b (nI s) (lay σ) = _
    unfold b_Lg_agrees_25
    simp (disch := first | assumption | rfl | decide | omega) only [↓ckd_lay, ↓bd_gI, ↓bd_gL, ↓bd_pI, ↓bd_pL, ↓bd_pZ, ↓bd_now, ↓bd_next, ↓bd_ldR3, ↓bd_ldR4, ↓ap_ite, ↓ap_rt, ↓ap_lt, ↓rz_0, ↓rz_1, rz_bi, ↓tg0 hT, ↓tg1 hT, ↓tg2 hT, ↓tld hT, ↓tst hT, ↓tsm hT, ↓bd_ldv, hS, ln_0, ln_1, ln_2, ln_3, ln_4, ln_5, ln_6, ln_7, ln_8, ln_10, ln_11, ln_12, ln_13, ln_15, ln_16, ln_30, ln_60, ln_256, ln_300, ln_400, ln_500, ln_1023, ln_1024, nl_0, nl_1, nl_2, nl_3, nl_4, nl_5, nl_6, nl_7, nl_8, nl_10, nl_11, nl_12, nl_13, nl_15, nl_16, nl_30, nl_60, nl_256, nl_300, nl_400, nl_500, nl_1023, nl_1024, tn_0, tn_1, tn_2, tn_3, tn_4, tn_5, tn_6, tn_7, tn_8, tn_10, tn_11, tn_12, tn_13, tn_15, tn_16, tn_30, tn_60, tn_256, tn_300, tn_400, tn_500, tn_1023, tn_1024, nt_0, nt_1, nt_2, nt_3, nt_4, nt_5, nt_6, nt_7, nt_8, nt_10, nt_11, nt_12, nt_13, nt_15, nt_16, nt_30, nt_60, nt_256, nt_300, nt_400, nt_500, nt_1023, nt_1024, ne_0, ne_1, ne_2, ne_3, ne_4, ne_5, ne_6, ne_7, ne_8, ne_10, ne_11, ne_12, ne_13, ne_15, ne_16, ne_30, ne_60, ne_256, ne_300, ne_400, ne_500, ne_1023, ne_1024, le_nn, lt_nn, eq_nn, hq, if_true]
    rfl
  | r + 1, s, n + 1, h, hn => by
    have hq : ¬ S ≤ s := by omega
    have e1 : t * 7 + 2 + s = 7 * t + 2 + s := by omega
    have e2 : s * 6 + 0 = 6 * s := by omega
    show b_Lg_agrees_25 (l_Lg_agrees_25 n) 20 (nI t) b (nI s) (lay σ) = _
    unfold b_Lg_agrees_25
    simp (disch := first | assumption | rfl | decide | omega) only [↓ckd_lay, ↓bd_gI, ↓bd_gL, ↓bd_pI, ↓bd_pL, ↓bd_pZ, ↓bd_now, ↓bd_next, ↓bd_ldR3, ↓bd_ldR4, ↓ap_ite, ↓ap_rt, ↓ap_lt, ↓rz_0, ↓rz_1, rz_bi, ↓gr_1_0, ↓gr_1_1, ↓gr_1_2, ↓gr_1_3, ↓gr_1_4, ↓gr_1_5, ↓gr_1_6, ↓gr_15_0, ↓gr_15_1, ↓gr_15_2, ↓gr_15_3, ↓gr_20_0, ↓gr_20_1, ↓gr_23_0, ↓gr_23_1, ↓gr_23_2, ↓gr_27_0, ↓gr_27_1, ↓gr_27_2, ↓gr_29_0, ↓gr_29_1, ↓gr_29_2, ↓gr_29_3, ↓gr_29_4, ↓gr_33_0, ↓gr_33_1, ↓gr_now, ↓gr_next, ↓tg0 hT, ↓tg1 hT, ↓tg2 hT, ↓tld hT, ↓tst hT, ↓tsm hT, ↓bd_ldv, hS, ln_0, ln_1, ln_2, ln_3, ln_4, ln_5, ln_6, ln_7, ln_8, ln_10, ln_11, ln_12, ln_13, ln_15, ln_16, ln_30, ln_60, ln_256, ln_300, ln_400, ln_500, ln_1023, ln_1024, nl_0, nl_1, nl_2, nl_3, nl_4, nl_5, nl_6, nl_7, nl_8, nl_10, nl_11, nl_12, nl_13, nl_15, nl_16, nl_30, nl_60, nl_256, nl_300, nl_400, nl_500, nl_1023, nl_1024, tn_0, tn_1, tn_2, tn_3, tn_4, tn_5, tn_6, tn_7, tn_8, tn_10, tn_11, tn_12, tn_13, tn_15, tn_16, tn_30, tn_60, tn_256, tn_300, tn_400, tn_500, tn_1023, tn_1024, nt_0, nt_1, nt_2, nt_3, nt_4, nt_5, nt_6, nt_7, nt_8, nt_10, nt_11, nt_12, nt_13, nt_15, nt_16, nt_30, nt_60, nt_256, nt_300, nt_400, nt_500, nt_1023, nt_1024, ne_0, ne_1, ne_2, ne_3, ne_4, ne_5, ne_6, ne_7, ne_8, ne_10, ne_11, ne_12, ne_13, ne_15, ne_16, ne_30, ne_60, ne_256, ne_300, ne_400, ne_500, ne_1023, ne_1024, le_nn, lt_nn, eq_nn, hq, if_false, na_0, na_1, na_2, na_3, na_4, na_5, na_6, na_7, na_8, na_10, na_11, na_12, na_13, na_15, na_16, na_30, na_60, na_300, an_0, an_1, an_2, an_3, an_4, an_5, an_6, an_7, an_8, an_10, an_11, an_12, an_13, an_15, an_16, an_30, an_60, an_300, nm_0, nm_1, nm_2, nm_3, nm_4, nm_5, nm_6, nm_7, nm_8, nm_10, nm_11, nm_12, nm_13, nm_15, nm_16, nm_30, nm_60, nm_300, mn_0, mn_1, mn_2, mn_3, mn_4, mn_5, mn_6, mn_7, mn_8, mn_10, mn_11, mn_12, mn_13, mn_15, mn_16, mn_30, mn_60, mn_300, nI_add, pk_mul, ↓la_21, ↓st_21]
    rw [e1, e2, s_agreesGo hT hS hS5 ht r (s + 1) n (by omega) (by omega)]
    by_cases q : σ.2.1 21 (7 * t + 2 + s) = σ.2.1 (b + 1) (6 * s)
    · rw [if_pos q]
      have : pAgr (σ.2.1 21) (σ.2.1 (b + 1)) t (r + 1) s = pAgr (σ.2.1 21) (σ.2.1 (b + 1)) t r (s + 1) := if_pos q
      rw [this]
    · rw [if_neg q]
      have : pAgr (σ.2.1 21) (σ.2.1 (b + 1)) t (r + 1) s = false := if_neg q
      rw [this]
      rfl
theorem s_agrees {σ : SS} {b t S td : Nat} (hT : IsTw b) (hS : σ.1 (fa 15 4) 0 = nI S) (hS5 : S ≤ 5) (ht : t < 300) (hd : σ.1 (fa b 5) 0 = nI td) (hd16 : td < 16) : m_Lg_agrees 20 (nI t) b (lay σ) = some (bi (σ.2.1 19 td = σ.2.1 21 (7 * t + 1) ∧ pAgr (σ.2.1 21) (σ.2.1 (b + 1)) t S 0 = true), lay σ) := by
  have h6 := hT.1
  have hlt := hT.2.2.2.2.2.2
  have e0 : m_Lg_levelOf 20 (nI t) (lay σ) = some (σ.2.1 21 (7 * t + 1), lay σ) := by
    unfold m_Lg_levelOf
    have e1 : t * 7 + 1 = 7 * t + 1 := by omega
    simp (disch := first | assumption | rfl | decide | omega) only [↓ckd_lay, ↓bd_gI, ↓bd_gL, ↓bd_pI, ↓bd_pL, ↓bd_pZ, ↓bd_now, ↓bd_next, ↓bd_ldR3, ↓bd_ldR4, ↓ap_ite, ↓ap_rt, ↓ap_lt, ↓rz_0, ↓rz_1, rz_bi, ↓gr_1_0, ↓gr_1_1, ↓gr_1_2, ↓gr_1_3, ↓gr_1_4, ↓gr_1_5, ↓gr_1_6, ↓gr_15_0, ↓gr_15_1, ↓gr_15_2, ↓gr_15_3, ↓gr_20_0, ↓gr_20_1, ↓gr_23_0, ↓gr_23_1, ↓gr_23_2, ↓gr_27_0, ↓gr_27_1, ↓gr_27_2, ↓gr_29_0, ↓gr_29_1, ↓gr_29_2, ↓gr_29_3, ↓gr_29_4, ↓gr_33_0, ↓gr_33_1, ↓gr_now, ↓gr_next, na_0, na_1, na_2, na_3, na_4, na_5, na_6, na_7, na_8, na_10, na_11, na_12, na_13, na_15, na_16, na_30, na_60, na_300, an_0, an_1, an_2, an_3, an_4, an_5, an_6, an_7, an_8, an_10, an_11, an_12, an_13, an_15, an_16, an_30, an_60, an_300, nm_0, nm_1, nm_2, nm_3, nm_4, nm_5, nm_6, nm_7, nm_8, nm_10, nm_11, nm_12, nm_13, nm_15, nm_16, nm_30, nm_60, nm_300, mn_0, mn_1, mn_2, mn_3, mn_4, mn_5, mn_6, mn_7, mn_8, mn_10, mn_11, mn_12, mn_13, mn_15, mn_16, mn_30, mn_60, mn_300, nI_add, pk_mul, ↓la_21, ↓st_21, e1]
  unfold m_Lg_agrees
  rw [ckd_lay (ci := 1) (o := 20) rfl (by decide), bd_eq e0]
  simp (disch := first | assumption | rfl | decide | omega) only [↓ckd_lay, ↓bd_gI, ↓bd_gL, ↓bd_pI, ↓bd_pL, ↓bd_pZ, ↓bd_now, ↓bd_next, ↓bd_ldR3, ↓bd_ldR4, ↓ap_ite, ↓ap_rt, ↓ap_lt, ↓rz_0, ↓rz_1, rz_bi, ↓gr_1_0, ↓gr_1_1, ↓gr_1_2, ↓gr_1_3, ↓gr_1_4, ↓gr_1_5, ↓gr_1_6, ↓gr_15_0, ↓gr_15_1, ↓gr_15_2, ↓gr_15_3, ↓gr_20_0, ↓gr_20_1, ↓gr_23_0, ↓gr_23_1, ↓gr_23_2, ↓gr_27_0, ↓gr_27_1, ↓gr_27_2, ↓gr_29_0, ↓gr_29_1, ↓gr_29_2, ↓gr_29_3, ↓gr_29_4, ↓gr_33_0, ↓gr_33_1, ↓gr_now, ↓gr_next, ↓tg0 hT, ↓tg1 hT, ↓tg2 hT, ↓tld hT, ↓tst hT, ↓tsm hT, ↓bd_ldv, hd, ↓la_19, ↓st_19]
  rw [show l_Lg_agrees_25 FU 20 (nI t) b 0 (lay σ) = _ from s_agreesGo hT hS hS5 ht S 0 FU (by omega) (by unfold FU; omega)]
  by_cases q : σ.2.1 21 (7 * t + 1) = σ.2.1 19 td
  · rw [if_pos q]
    congr 2
    exact bi_congr ⟨fun h => ⟨q.symm, h⟩, fun h => h.2⟩
  · rw [if_neg q]
    have : ¬ (σ.2.1 19 td = σ.2.1 21 (7 * t + 1) ∧ pAgr (σ.2.1 21) (σ.2.1 (b + 1)) t S 0 = true) := fun h => q h.1.symm
    unfold bi
    rw [if_neg this]
theorem s_checkGo {σ0 : SS} {P : SH} {a b T : Nat} {rc : Nat → Int64} (hab : CPt σ0 a b) (hs : CShp σ0 P) (hA : AllP P) (hU : σ0.1 (fa 20 2) 0 = nI T) (hT3 : T ≤ 300) (hm : ∀ t, t < T → smp (rc (7 * t)) ∧ ∀ w, w < 2 + P.2.2.2.1 → σ0.2.1 21 (7 * t + w) = rc (7 * t + w)) : ∀ (r t n : Nat) (σ : SS) (M : Nat → Int64) (td : Int64), t + r = T → r < n → Mod (twL b) σ0 σ → σ.2.1 (b + 1) = M → σ.2.1 (fa b 4) 0 = td → NG P M → Z30 M →
    ∃ τ, l_Ob_check_9 n 1 (nI t) (lay σ) = some (pChk P rc r t M td, lay τ) ∧ Mod (twL b) σ0 τ ∧ Z30 (τ.2.1 (b + 1))
  | r, t, 0, σ, M, td, h, hn, hM, h1, h2, h3, h4 => by omega
  | 0, t, n + 1, σ, M, td, h, hn, hM, h1, h2, h3, h4 => by
    have hlb : 34 < b ∧ b < 79 := by rcases hab.2 with ⟨rfl, rfl⟩ | ⟨rfl, rfl⟩ <;> decide
    have hq : T ≤ t := by omega
    have eU : σ.1 (fa 20 2) 0 = nI T := by rw [hM.i (by unfold twL fa; simp; omega)]; exact hU
    refine ⟨σ, ?_, hM, by rw [h1]; exact h4⟩
    show b_Ob_check_9 (l_Ob_check_9 n) 1 (nI t) (lay σ) = _
    unfold b_Ob_check_9
    simp (disch := first | assumption | rfl | decide | omega) only [↓ckd_lay, ↓bd_gI, ↓bd_gL, ↓bd_pI, ↓bd_pL, ↓bd_pZ, ↓bd_now, ↓bd_next, ↓bd_ldR3, ↓bd_ldR4, ↓ap_ite, ↓ap_rt, ↓ap_lt, ↓rz_0, ↓rz_1, rz_bi, ↓gr_1_0, ↓gr_1_1, ↓gr_1_2, ↓gr_1_3, ↓gr_1_4, ↓gr_1_5, ↓gr_1_6, ↓gr_15_0, ↓gr_15_1, ↓gr_15_2, ↓gr_15_3, ↓gr_20_0, ↓gr_20_1, ↓gr_23_0, ↓gr_23_1, ↓gr_23_2, ↓gr_27_0, ↓gr_27_1, ↓gr_27_2, ↓gr_29_0, ↓gr_29_1, ↓gr_29_2, ↓gr_29_3, ↓gr_29_4, ↓gr_33_0, ↓gr_33_1, ↓gr_now, ↓gr_next, eU, ln_0, ln_1, ln_2, ln_3, ln_4, ln_5, ln_6, ln_7, ln_8, ln_10, ln_11, ln_12, ln_13, ln_15, ln_16, ln_30, ln_60, ln_256, ln_300, ln_400, ln_500, ln_1023, ln_1024, nl_0, nl_1, nl_2, nl_3, nl_4, nl_5, nl_6, nl_7, nl_8, nl_10, nl_11, nl_12, nl_13, nl_15, nl_16, nl_30, nl_60, nl_256, nl_300, nl_400, nl_500, nl_1023, nl_1024, tn_0, tn_1, tn_2, tn_3, tn_4, tn_5, tn_6, tn_7, tn_8, tn_10, tn_11, tn_12, tn_13, tn_15, tn_16, tn_30, tn_60, tn_256, tn_300, tn_400, tn_500, tn_1023, tn_1024, nt_0, nt_1, nt_2, nt_3, nt_4, nt_5, nt_6, nt_7, nt_8, nt_10, nt_11, nt_12, nt_13, nt_15, nt_16, nt_30, nt_60, nt_256, nt_300, nt_400, nt_500, nt_1023, nt_1024, ne_0, ne_1, ne_2, ne_3, ne_4, ne_5, ne_6, ne_7, ne_8, ne_10, ne_11, ne_12, ne_13, ne_15, ne_16, ne_30, ne_60, ne_256, ne_300, ne_400, ne_500, ne_1023, ne_1024, le_nn, lt_nn, eq_nn, hq, if_true]
    rfl
  | r + 1, t, n + 1, σ, M, td, h, hn, hM, h1, h2, h3, h4 => by
    have hTW : IsTw b := by
      rcases hab.2 with ⟨rfl, rfl⟩ | ⟨rfl, rfl⟩
      · exact tw_next
      · exact tw_now
    have hlb := hTW.2.2.2.2.2.2
    have hq : ¬ T ≤ t := by omega
    have eU : σ.1 (fa 20 2) 0 = nI T := by rw [hM.i (by unfold twL fa; simp; omega)]; exact hU
    have hnext : σ.2.2.2 = b := by rw [hM.2, hab.1]
    have hmt := hm t (by omega)
    have e21 : σ.2.1 21 (t * 7 + 0) = rc (7 * t) := by rw [hM.l (by unfold twL fa; simp; omega), show t * 7 + 0 = 7 * t + 0 by omega]; exact hmt.2 0 (by omega)
    have hsm := hmt.1
    obtain ⟨σ', e, m, n1, k1, s1, d1⟩ := s_makeStep (u := rc (7 * t)) hTW (hs.mod hTW hM) hA.1.1
    rw [h1, h2, out_eq hA h3 hsm] at n1 e
    rw [h1, h2, told_eq hA h3 hsm] at d1
    rw [h2] at s1
    have hs' : CShp σ' P := (hs.mod hTW hM).mod hTW m
    have hnext' : σ'.2.2.2 = b := by rw [m.2]; exact hnext
    have e21' : σ'.2.1 21 = σ0.2.1 21 := by rw [m.l (by unfold twL fa; simp; omega), hM.l (by unfold twL fa; simp; omega)]
    have htl := told_lt (u := rc (7 * t)) (sd := td) (N := M) hA.1.1
    have ea := s_agrees (t := t) hTW hs'.2.2.2.1 hA.1.1.1 (by omega) d1 (by have := hA.1.1.2.2.1; omega)
    rw [n1, hs'.2.2.2.2.1, e21', hmt.2 1 (by omega), pAgr_congr (f := σ0.2.1 21) (g := rc) P.2.2.2.1 0 (fun w hw => by rw [Nat.add_assoc]; exact hmt.2 (2 + w) (by omega))] at ea
    have step : l_Ob_check_9 (n + 1) 1 (nI t) (lay σ) = bd (m_Tw_makeStep b (rc (7 * t))) (fun v7 => if v7 = 0 then (rt (nI t)) else (bd (gR 8 1 2) (fun v8 => bd (gR 8 1 8) (fun v9 => bd (m_Lg_agrees v8 (nI t) v9) (fun v10 => if v10 = 0 then (rt (nI t)) else (l_Ob_check_9 n 1 (nI t + 1))))))) (lay σ) := by
      show b_Ob_check_9 (l_Ob_check_9 n) 1 (nI t) (lay σ) = _
      unfold b_Ob_check_9
      simp (disch := first | assumption | rfl | decide | omega) only [↓ckd_lay, ↓bd_gI, ↓bd_gL, ↓bd_pI, ↓bd_pL, ↓bd_pZ, ↓bd_now, ↓bd_next, ↓bd_ldR3, ↓bd_ldR4, ↓ap_ite, ↓ap_rt, ↓ap_lt, ↓rz_0, ↓rz_1, rz_bi, ↓gr_1_0, ↓gr_1_1, ↓gr_1_2, ↓gr_1_3, ↓gr_1_4, ↓gr_1_5, ↓gr_1_6, ↓gr_15_0, ↓gr_15_1, ↓gr_15_2, ↓gr_15_3, ↓gr_20_0, ↓gr_20_1, ↓gr_23_0, ↓gr_23_1, ↓gr_23_2, ↓gr_27_0, ↓gr_27_1, ↓gr_27_2, ↓gr_29_0, ↓gr_29_1, ↓gr_29_2, ↓gr_29_3, ↓gr_29_4, ↓gr_33_0, ↓gr_33_1, ↓gr_now, ↓gr_next, eU, ln_0, ln_1, ln_2, ln_3, ln_4, ln_5, ln_6, ln_7, ln_8, ln_10, ln_11, ln_12, ln_13, ln_15, ln_16, ln_30, ln_60, ln_256, ln_300, ln_400, ln_500, ln_1023, ln_1024, nl_0, nl_1, nl_2, nl_3, nl_4, nl_5, nl_6, nl_7, nl_8, nl_10, nl_11, nl_12, nl_13, nl_15, nl_16, nl_30, nl_60, nl_256, nl_300, nl_400, nl_500, nl_1023, nl_1024, tn_0, tn_1, tn_2, tn_3, tn_4, tn_5, tn_6, tn_7, tn_8, tn_10, tn_11, tn_12, tn_13, tn_15, tn_16, tn_30, tn_60, tn_256, tn_300, tn_400, tn_500, tn_1023, tn_1024, nt_0, nt_1, nt_2, nt_3, nt_4, nt_5, nt_6, nt_7, nt_8, nt_10, nt_11, nt_12, nt_13, nt_15, nt_16, nt_30, nt_60, nt_256, nt_300, nt_400, nt_500, nt_1023, nt_1024, ne_0, ne_1, ne_2, ne_3, ne_4, ne_5, ne_6, ne_7, ne_8, ne_10, ne_11, ne_12, ne_13, ne_15, ne_16, ne_30, ne_60, ne_256, ne_300, ne_400, ne_500, ne_1023, ne_1024, le_nn, lt_nn, eq_nn, hq, if_false, hnext, na_0, na_1, na_2, na_3, na_4, na_5, na_6, na_7, na_8, na_10, na_11, na_12, na_13, na_15, na_16, na_30, na_60, na_300, an_0, an_1, an_2, an_3, an_4, an_5, an_6, an_7, an_8, an_10, an_11, an_12, an_13, an_15, an_16, an_30, an_60, an_300, nm_0, nm_1, nm_2, nm_3, nm_4, nm_5, nm_6, nm_7, nm_8, nm_10, nm_11, nm_12, nm_13, nm_15, nm_16, nm_30, nm_60, nm_300, mn_0, mn_1, mn_2, mn_3, mn_4, mn_5, mn_6, mn_7, mn_8, mn_10, mn_11, mn_12, mn_13, mn_15, mn_16, mn_30, mn_60, mn_300, nI_add, pk_mul, ↓la_21, ↓st_21, e21]
    rw [step, bd_eq e]
    have hz' : Z30 (σ'.2.1 (b + 1)) := by rw [n1]; exact Z30.out hA.1.1 h4
    by_cases o1 : (pOut nR P (rc (7 * t)) M td).1 = true
    · by_cases o2 : P.2.2.2.2.1 (pTold nR P (rc (7 * t)) M td) = rc (7 * t + 1) ∧ pAgr rc (pOut nR P (rc (7 * t)) M td).2.1 t P.2.2.2.1 0 = true
      · obtain ⟨τ, e', d'⟩ := s_checkGo hab hs hA hU hT3 hm r (t + 1) n σ' _ _ (by omega) (by omega) (hM.tr m) n1 s1 (NG.out o1) (Z30.out hA.1.1 h4)
        refine ⟨τ, ?_, d'⟩
        rw [ap_ite, if_neg (by rw [bi_0]; exact fun q => q o1)]
        simp (disch := first | assumption | rfl | decide | omega) only [↓ckd_lay, ↓bd_gI, ↓bd_gL, ↓bd_pI, ↓bd_pL, ↓bd_pZ, ↓bd_now, ↓bd_next, ↓bd_ldR3, ↓bd_ldR4, ↓ap_ite, ↓ap_rt, ↓ap_lt, ↓rz_0, ↓rz_1, rz_bi, ↓gr_1_0, ↓gr_1_1, ↓gr_1_2, ↓gr_1_3, ↓gr_1_4, ↓gr_1_5, ↓gr_1_6, ↓gr_15_0, ↓gr_15_1, ↓gr_15_2, ↓gr_15_3, ↓gr_20_0, ↓gr_20_1, ↓gr_23_0, ↓gr_23_1, ↓gr_23_2, ↓gr_27_0, ↓gr_27_1, ↓gr_27_2, ↓gr_29_0, ↓gr_29_1, ↓gr_29_2, ↓gr_29_3, ↓gr_29_4, ↓gr_33_0, ↓gr_33_1, ↓gr_now, ↓gr_next, hnext']
        rw [bd_eq ea, ap_ite, if_neg (by rw [bi_0]; exact fun q => q o2), na_1, e']
        have : pChk P rc (r + 1) t M td = pChk P rc r (t + 1) (pOut nR P (rc (7 * t)) M td).2.1 (pLot P.2.2.2.2.2.2 td).2 := if_pos ⟨o1, o2⟩
        rw [this]
      · refine ⟨σ', ?_, hM.tr m, hz'⟩
        rw [ap_ite, if_neg (by rw [bi_0]; exact fun q => q o1)]
        simp (disch := first | assumption | rfl | decide | omega) only [↓ckd_lay, ↓bd_gI, ↓bd_gL, ↓bd_pI, ↓bd_pL, ↓bd_pZ, ↓bd_now, ↓bd_next, ↓bd_ldR3, ↓bd_ldR4, ↓ap_ite, ↓ap_rt, ↓ap_lt, ↓rz_0, ↓rz_1, rz_bi, ↓gr_1_0, ↓gr_1_1, ↓gr_1_2, ↓gr_1_3, ↓gr_1_4, ↓gr_1_5, ↓gr_1_6, ↓gr_15_0, ↓gr_15_1, ↓gr_15_2, ↓gr_15_3, ↓gr_20_0, ↓gr_20_1, ↓gr_23_0, ↓gr_23_1, ↓gr_23_2, ↓gr_27_0, ↓gr_27_1, ↓gr_27_2, ↓gr_29_0, ↓gr_29_1, ↓gr_29_2, ↓gr_29_3, ↓gr_29_4, ↓gr_33_0, ↓gr_33_1, ↓gr_now, ↓gr_next, hnext']
        rw [bd_eq ea, ap_ite, if_pos (by rw [bi_0]; exact o2), ap_rt]
        have : pChk P rc (r + 1) t M td = nI t := if_neg (fun q => o2 q.2)
        rw [this]
    · refine ⟨σ', ?_, hM.tr m, hz'⟩
      rw [ap_ite, if_pos (by rw [bi_0]; exact o1), ap_rt]
      have : pChk P rc (r + 1) t M td = nI t := if_neg (fun q => o1 q.1)
      rw [this]
theorem s_check58 {σ : SS} {t S : Nat} {k6 : Nat → Int32 → M Int32} (hS : σ.1 (fa 81 6) 0 = nI S) (hS5 : S ≤ 5) (ht : t < 300) : ∀ (r s n : Nat), s + r = S → r < n → l_Md_check_58 k6 n 81 (nI t) (nI s) (lay σ) = if pAgr (σ.2.1 93) (σ.2.1 95) t r s = true then k6 81 (nI (t + 1)) (lay σ) else some (nI t, lay σ)
  | r, s, 0, h, hn => by omega
  | 0, s, n + 1, h, hn => by
    have hq : S ≤ s := by omega
    show b_Md_check_58 k6 (l_Md_check_58 k6 n) 81 (nI t) (nI s) (lay σ) = _
    unfold b_Md_check_58
    simp (disch := first | assumption | rfl | decide | omega) only [↓ckd_lay, ↓bd_gI, ↓bd_gL, ↓bd_pI, ↓bd_pL, ↓bd_pZ, ↓bd_now, ↓bd_next, ↓bd_ldR3, ↓bd_ldR4, ↓ap_ite, ↓ap_rt, ↓ap_lt, ↓rz_0, ↓rz_1, rz_bi, hS, ln_0, ln_1, ln_2, ln_3, ln_4, ln_5, ln_6, ln_7, ln_8, ln_10, ln_11, ln_12, ln_13, ln_15, ln_16, ln_30, ln_60, ln_256, ln_300, ln_400, ln_500, ln_1023, ln_1024, nl_0, nl_1, nl_2, nl_3, nl_4, nl_5, nl_6, nl_7, nl_8, nl_10, nl_11, nl_12, nl_13, nl_15, nl_16, nl_30, nl_60, nl_256, nl_300, nl_400, nl_500, nl_1023, nl_1024, tn_0, tn_1, tn_2, tn_3, tn_4, tn_5, tn_6, tn_7, tn_8, tn_10, tn_11, tn_12, tn_13, tn_15, tn_16, tn_30, tn_60, tn_256, tn_300, tn_400, tn_500, tn_1023, tn_1024, nt_0, nt_1, nt_2, nt_3, nt_4, nt_5, nt_6, nt_7, nt_8, nt_10, nt_11, nt_12, nt_13, nt_15, nt_16, nt_30, nt_60, nt_256, nt_300, nt_400, nt_500, nt_1023, nt_1024, ne_0, ne_1, ne_2, ne_3, ne_4, ne_5, ne_6, ne_7, ne_8, ne_10, ne_11, ne_12, ne_13, ne_15, ne_16, ne_30, ne_60, ne_256, ne_300, ne_400, ne_500, ne_1023, ne_1024, le_nn, lt_nn, eq_nn, hq, if_true, na_1]
    rfl
  | r + 1, s, n + 1, h, hn => by
    have hq : ¬ S ≤ s := by omega
    show b_Md_check_58 k6 (l_Md_check_58 k6 n) 81 (nI t) (nI s) (lay σ) = _
    unfold b_Md_check_58
    simp (disch := first | assumption | rfl | decide | omega) only [↓ckd_lay, ↓bd_gI, ↓bd_gL, ↓bd_pI, ↓bd_pL, ↓bd_pZ, ↓bd_now, ↓bd_next, ↓bd_ldR3, ↓bd_ldR4, ↓ap_ite, ↓ap_rt, ↓ap_lt, ↓rz_0, ↓rz_1, rz_bi, ↓gr_81_0, ↓gr_81_1, ↓gr_81_2, ↓gr_81_3, ↓gr_81_4, ↓gr_81_7, ↓gr_81_8, ↓gr_81_9, ↓gr_81_11, ↓gr_81_14, ↓gr_81_17, ↓gr_81_18, ↓gr_81_20, ↓gr_81_21, ↓gr_81_25, ↓gr_81_26, ↓gr_81_27, ↓gr_81_28, ↓gr_81_29, ↓gr_81_31, ↓gr_81_32, ↓gr_81_33, ↓gr_81_34, ↓gr_81_36, ↓gr_81_39, hS, ln_0, ln_1, ln_2, ln_3, ln_4, ln_5, ln_6, ln_7, ln_8, ln_10, ln_11, ln_12, ln_13, ln_15, ln_16, ln_30, ln_60, ln_256, ln_300, ln_400, ln_500, ln_1023, ln_1024, nl_0, nl_1, nl_2, nl_3, nl_4, nl_5, nl_6, nl_7, nl_8, nl_10, nl_11, nl_12, nl_13, nl_15, nl_16, nl_30, nl_60, nl_256, nl_300, nl_400, nl_500, nl_1023, nl_1024, tn_0, tn_1, tn_2, tn_3, tn_4, tn_5, tn_6, tn_7, tn_8, tn_10, tn_11, tn_12, tn_13, tn_15, tn_16, tn_30, tn_60, tn_256, tn_300, tn_400, tn_500, tn_1023, tn_1024, nt_0, nt_1, nt_2, nt_3, nt_4, nt_5, nt_6, nt_7, nt_8, nt_10, nt_11, nt_12, nt_13, nt_15, nt_16, nt_30, nt_60, nt_256, nt_300, nt_400, nt_500, nt_1023, nt_1024, ne_0, ne_1, ne_2, ne_3, ne_4, ne_5, ne_6, ne_7, ne_8, ne_10, ne_11, ne_12, ne_13, ne_15, ne_16, ne_30, ne_60, ne_256, ne_300, ne_400, ne_500, ne_1023, ne_1024, le_nn, lt_nn, eq_nn, hq, if_false, na_0, na_1, na_2, na_3, na_4, na_5, na_6, na_7, na_8, na_10, na_11, na_12, na_13, na_15, na_16, na_30, na_60, na_300, an_0, an_1, an_2, an_3, an_4, an_5, an_6, an_7, an_8, an_10, an_11, an_12, an_13, an_15, an_16, an_30, an_60, an_300, nm_0, nm_1, nm_2, nm_3, nm_4, nm_5, nm_6, nm_7, nm_8, nm_10, nm_11, nm_12, nm_13, nm_15, nm_16, nm_30, nm_60, nm_300, mn_0, mn_1, mn_2, mn_3, mn_4, mn_5, mn_6, mn_7, mn_8, mn_10, mn_11, mn_12, mn_13, mn_15, mn_16, mn_30, mn_60, mn_300, nI_add, pk_mul, ↓la_93, ↓st_93, ↓la_95, ↓st_95]
    rw [s_check58 hS hS5 ht r (s + 1) n (by omega) (by omega)]
    by_cases q : σ.2.1 93 (7 * t + 2 + s) = σ.2.1 95 (6 * s)
    · rw [if_pos q.symm]
      have : pAgr (σ.2.1 93) (σ.2.1 95) t (r + 1) s = pAgr (σ.2.1 93) (σ.2.1 95) t r (s + 1) := if_pos q
      rw [this]
    · rw [if_neg (fun z => q z.symm)]
      have : pAgr (σ.2.1 93) (σ.2.1 95) t (r + 1) s = false := if_neg q
      rw [this]
      rfl
theorem s_checkM {σ0 : SS} {P : SH} {T : Nat} {rc : Nat → Int64} (hs : RShp σ0 P) (hA : AllP P) (hU : σ0.1 (fa 81 16) 0 = nI T) (hT3 : T ≤ 300) (hm : ∀ t, t < T → ∀ w, w < 2 + P.2.2.2.1 → σ0.2.1 93 (7 * t + w) = rc (7 * t + w)) : ∀ (r t n : Nat) (σ : SS) (M : Nat → Int64) (td : Int64), t + r = T → r < n → Mod rwL σ0 σ → σ.2.1 95 = M → σ.2.1 (fa 81 22) 0 = td → Z30 M →
    ∃ τ, l_Md_check_6 n 81 (nI t) (lay σ) = some (pChk P rc r t M td, lay τ) ∧ Mod rwL σ0 τ ∧ Z30 (τ.2.1 95)
  | r, t, 0, σ, M, td, h, hn, hM, h1, h2, h4 => by omega
  | 0, t, n + 1, σ, M, td, h, hn, hM, h1, h2, h4 => by
    have hq : T ≤ t := by omega
    have eU : σ.1 (fa 81 16) 0 = nI T := by rw [hM.i (by decide)]; exact hU
    refine ⟨σ, ?_, hM, by rw [h1]; exact h4⟩
    show b_Md_check_6 (l_Md_check_6 n) 81 (nI t) (lay σ) = _
    unfold b_Md_check_6
    simp (disch := first | assumption | rfl | decide | omega) only [↓ckd_lay, ↓bd_gI, ↓bd_gL, ↓bd_pI, ↓bd_pL, ↓bd_pZ, ↓bd_now, ↓bd_next, ↓bd_ldR3, ↓bd_ldR4, ↓ap_ite, ↓ap_rt, ↓ap_lt, ↓rz_0, ↓rz_1, rz_bi, ↓gr_81_0, ↓gr_81_1, ↓gr_81_2, ↓gr_81_3, ↓gr_81_4, ↓gr_81_7, ↓gr_81_8, ↓gr_81_9, ↓gr_81_11, ↓gr_81_14, ↓gr_81_17, ↓gr_81_18, ↓gr_81_20, ↓gr_81_21, ↓gr_81_25, ↓gr_81_26, ↓gr_81_27, ↓gr_81_28, ↓gr_81_29, ↓gr_81_31, ↓gr_81_32, ↓gr_81_33, ↓gr_81_34, ↓gr_81_36, ↓gr_81_39, eU, ln_0, ln_1, ln_2, ln_3, ln_4, ln_5, ln_6, ln_7, ln_8, ln_10, ln_11, ln_12, ln_13, ln_15, ln_16, ln_30, ln_60, ln_256, ln_300, ln_400, ln_500, ln_1023, ln_1024, nl_0, nl_1, nl_2, nl_3, nl_4, nl_5, nl_6, nl_7, nl_8, nl_10, nl_11, nl_12, nl_13, nl_15, nl_16, nl_30, nl_60, nl_256, nl_300, nl_400, nl_500, nl_1023, nl_1024, tn_0, tn_1, tn_2, tn_3, tn_4, tn_5, tn_6, tn_7, tn_8, tn_10, tn_11, tn_12, tn_13, tn_15, tn_16, tn_30, tn_60, tn_256, tn_300, tn_400, tn_500, tn_1023, tn_1024, nt_0, nt_1, nt_2, nt_3, nt_4, nt_5, nt_6, nt_7, nt_8, nt_10, nt_11, nt_12, nt_13, nt_15, nt_16, nt_30, nt_60, nt_256, nt_300, nt_400, nt_500, nt_1023, nt_1024, ne_0, ne_1, ne_2, ne_3, ne_4, ne_5, ne_6, ne_7, ne_8, ne_10, ne_11, ne_12, ne_13, ne_15, ne_16, ne_30, ne_60, ne_256, ne_300, ne_400, ne_500, ne_1023, ne_1024, le_nn, lt_nn, eq_nn, hq, if_true]
    rfl
  | r + 1, t, n + 1, σ, M, td, h, hn, hM, h1, h2, h4 => by
    have hq : ¬ T ≤ t := by omega
    have eU : σ.1 (fa 81 16) 0 = nI T := by rw [hM.i (by decide)]; exact hU
    have hmt := hm t (by omega)
    have e93 : σ.2.1 93 (7 * t) = rc (7 * t) := by rw [hM.l (by decide)]; exact hmt 0 (by omega)
    obtain ⟨σ', e, m, n1, k1, s1, d1⟩ := s_tries (u := rc (7 * t)) (hs.mod2 hM (by decide)) hA.1
    rw [h1, h2] at n1 e d1
    rw [h2] at s1
    have hs' : RShp σ' P := (hs.mod2 hM (by decide)).mod2 m (by decide)
    have e93' : σ'.2.1 93 = σ0.2.1 93 := by rw [m.l (by decide), hM.l (by decide)]
    have htl := told_lt (u := rc (7 * t)) (sd := td) (N := M) hA.1.1
    have h16 := hA.1.1.2.2.1
    have ea := s_check58 (k6 := l_Md_check_6 n) (t := t) hs'.2.2.2.1 hA.1.1.1 (by omega) P.2.2.2.1 0 FU (by omega) (by unfold FU; have := hA.1.1.1; omega)
    rw [n1, e93', pAgr_congr (f := σ0.2.1 93) (g := rc) P.2.2.2.1 0 (fun w hw => by rw [Nat.add_assoc]; exact hmt (2 + w) (by omega))] at ea
    have hz' : Z30 (σ'.2.1 95) := by rw [n1]; exact Z30.out hA.1.1 h4
    have step : l_Md_check_6 (n + 1) 81 (nI t) (lay σ) = if (pOut nR P (rc (7 * t)) M td).1 = true then (if P.2.2.2.2.1 (pTold nR P (rc (7 * t)) M td) = rc (7 * t + 1) then (if pAgr rc (pOut nR P (rc (7 * t)) M td).2.1 t P.2.2.2.1 0 = true then l_Md_check_6 n 81 (nI (t + 1)) (lay σ') else some (nI t, lay σ')) else some (nI t, lay σ')) else some (nI t, lay σ') := by
      show b_Md_check_6 (l_Md_check_6 n) 81 (nI t) (lay σ) = _
      unfold b_Md_check_6
      simp (disch := first | assumption | rfl | decide | omega) only [↓ckd_lay, ↓bd_gI, ↓bd_gL, ↓bd_pI, ↓bd_pL, ↓bd_pZ, ↓bd_now, ↓bd_next, ↓bd_ldR3, ↓bd_ldR4, ↓ap_ite, ↓ap_rt, ↓ap_lt, ↓rz_0, ↓rz_1, rz_bi, ↓gr_81_0, ↓gr_81_1, ↓gr_81_2, ↓gr_81_3, ↓gr_81_4, ↓gr_81_7, ↓gr_81_8, ↓gr_81_9, ↓gr_81_11, ↓gr_81_14, ↓gr_81_17, ↓gr_81_18, ↓gr_81_20, ↓gr_81_21, ↓gr_81_25, ↓gr_81_26, ↓gr_81_27, ↓gr_81_28, ↓gr_81_29, ↓gr_81_31, ↓gr_81_32, ↓gr_81_33, ↓gr_81_34, ↓gr_81_36, ↓gr_81_39, eU, ln_0, ln_1, ln_2, ln_3, ln_4, ln_5, ln_6, ln_7, ln_8, ln_10, ln_11, ln_12, ln_13, ln_15, ln_16, ln_30, ln_60, ln_256, ln_300, ln_400, ln_500, ln_1023, ln_1024, nl_0, nl_1, nl_2, nl_3, nl_4, nl_5, nl_6, nl_7, nl_8, nl_10, nl_11, nl_12, nl_13, nl_15, nl_16, nl_30, nl_60, nl_256, nl_300, nl_400, nl_500, nl_1023, nl_1024, tn_0, tn_1, tn_2, tn_3, tn_4, tn_5, tn_6, tn_7, tn_8, tn_10, tn_11, tn_12, tn_13, tn_15, tn_16, tn_30, tn_60, tn_256, tn_300, tn_400, tn_500, tn_1023, tn_1024, nt_0, nt_1, nt_2, nt_3, nt_4, nt_5, nt_6, nt_7, nt_8, nt_10, nt_11, nt_12, nt_13, nt_15, nt_16, nt_30, nt_60, nt_256, nt_300, nt_400, nt_500, nt_1023, nt_1024, ne_0, ne_1, ne_2, ne_3, ne_4, ne_5, ne_6, ne_7, ne_8, ne_10, ne_11, ne_12, ne_13, ne_15, ne_16, ne_30, ne_60, ne_256, ne_300, ne_400, ne_500, ne_1023, ne_1024, le_nn, lt_nn, eq_nn, hq, if_false, na_0, na_1, na_2, na_3, na_4, na_5, na_6, na_7, na_8, na_10, na_11, na_12, na_13, na_15, na_16, na_30, na_60, na_300, an_0, an_1, an_2, an_3, an_4, an_5, an_6, an_7, an_8, an_10, an_11, an_12, an_13, an_15, an_16, an_30, an_60, an_300, nm_0, nm_1, nm_2, nm_3, nm_4, nm_5, nm_6, nm_7, nm_8, nm_10, nm_11, nm_12, nm_13, nm_15, nm_16, nm_30, nm_60, nm_300, mn_0, mn_1, mn_2, mn_3, mn_4, mn_5, mn_6, mn_7, mn_8, mn_10, mn_11, mn_12, mn_13, mn_15, mn_16, mn_30, mn_60, mn_300, nI_add, pk_mul, ↓la_93, ↓st_93, e93]
      rw [bd_eq e, ap_ite]
      by_cases o1 : (pOut nR P (rc (7 * t)) M td).1 = true
      · rw [if_pos o1, if_neg (by rw [bi_0]; exact fun q => q o1)]
        simp (disch := first | assumption | rfl | decide | omega) only [↓ckd_lay, ↓bd_gI, ↓bd_gL, ↓bd_pI, ↓bd_pL, ↓bd_pZ, ↓bd_now, ↓bd_next, ↓bd_ldR3, ↓bd_ldR4, ↓ap_ite, ↓ap_rt, ↓ap_lt, ↓rz_0, ↓rz_1, rz_bi, ↓gr_81_0, ↓gr_81_1, ↓gr_81_2, ↓gr_81_3, ↓gr_81_4, ↓gr_81_7, ↓gr_81_8, ↓gr_81_9, ↓gr_81_11, ↓gr_81_14, ↓gr_81_17, ↓gr_81_18, ↓gr_81_20, ↓gr_81_21, ↓gr_81_25, ↓gr_81_26, ↓gr_81_27, ↓gr_81_28, ↓gr_81_29, ↓gr_81_31, ↓gr_81_32, ↓gr_81_33, ↓gr_81_34, ↓gr_81_36, ↓gr_81_39, d1, na_0, na_1, na_2, na_3, na_4, na_5, na_6, na_7, na_8, na_10, na_11, na_12, na_13, na_15, na_16, na_30, na_60, na_300, an_0, an_1, an_2, an_3, an_4, an_5, an_6, an_7, an_8, an_10, an_11, an_12, an_13, an_15, an_16, an_30, an_60, an_300, nm_0, nm_1, nm_2, nm_3, nm_4, nm_5, nm_6, nm_7, nm_8, nm_10, nm_11, nm_12, nm_13, nm_15, nm_16, nm_30, nm_60, nm_300, mn_0, mn_1, mn_2, mn_3, mn_4, mn_5, mn_6, mn_7, mn_8, mn_10, mn_11, mn_12, mn_13, mn_15, mn_16, mn_30, mn_60, mn_300, nI_add, pk_mul, ↓la_90, ↓st_90, ↓la_93, ↓st_93, hs'.2.2.2.2.1, e93', hmt 1 (by omega)]
        rw [← ea]
        rfl
      · rw [if_neg o1, if_pos (by rw [bi_0]; exact o1), ap_rt]
    rw [step]
    by_cases o1 : (pOut nR P (rc (7 * t)) M td).1 = true
    · rw [if_pos o1]
      by_cases o2 : P.2.2.2.2.1 (pTold nR P (rc (7 * t)) M td) = rc (7 * t + 1)
      · rw [if_pos o2]
        by_cases o3 : pAgr rc (pOut nR P (rc (7 * t)) M td).2.1 t P.2.2.2.1 0 = true
        · rw [if_pos o3]
          obtain ⟨τ, e', d'⟩ := s_checkM hs hA hU hT3 hm r (t + 1) n σ' _ _ (by omega) (by omega) (hM.tr m) n1 s1 (Z30.out hA.1.1 h4)
          refine ⟨τ, ?_, d'⟩
          rw [e']
          have : pChk P rc (r + 1) t M td = pChk P rc r (t + 1) (pOut nR P (rc (7 * t)) M td).2.1 (pLot P.2.2.2.2.2.2 td).2 := if_pos ⟨o1, o2, o3⟩
          rw [this]
        · have : pChk P rc (r + 1) t M td = nI t := if_neg (fun q => o3 q.2.2)
          rw [if_neg o3, this]
          exact ⟨σ', rfl, hM.tr m, hz'⟩
      · have : pChk P rc (r + 1) t M td = nI t := if_neg (fun q => o2 q.2.1)
        rw [if_neg o2, this]
        exact ⟨σ', rfl, hM.tr m, hz'⟩
    · have : pChk P rc (r + 1) t M td = nI t := if_neg (fun q => o1 q.1)
      rw [if_neg o1, this]
      exact ⟨σ', rfl, hM.tr m, hz'⟩
/-- next emptied and used, nothing else: the loop stands -/
theorem CI.next {σ τ : SS} {P : SH} {fs : Int64} {a b : Nat} {S : SG} (h : CI σ P fs a b S) (hM : Mod (twL b) σ τ) (hz : Z30 (τ.2.1 (b + 1))) : CI τ P fs a b S := by
  obtain ⟨h1, h2, h5, h7, h9, h11, h15, hm, hr, l2⟩ := id h
  have o1 : ∀ o ∈ [a + 1, a + 2, fa a 3, fa a 4, 21, 22, fa 15 7, fa 20 2], o ∉ twL b := by
    rcases h1.2 with ⟨rfl, rfl⟩ | ⟨rfl, rfl⟩ <;> decide
  refine ⟨h1.mod hM, h2.mod h.tw.2 hM, ?_⟩
  rw [hM.l (o1 (a + 1) (by simp)), hM.l (o1 (fa a 4) (by simp)), hM.l (o1 21 (by simp)), hM.l (o1 22 (by simp)), hM.l (o1 (fa 15 7) (by simp)), hM.i (o1 (fa 20 2) (by simp)), hM.i (o1 (a + 2) (by simp)), hM.i (o1 (fa a 3) (by simp))]
  exact ⟨h5, h7, h9, hz, h15, hm, hr, l2⟩
theorem RI.trial {σ τ : SS} {P : SH} {fs : Int64} {S : SG} (h : RI σ P fs S) (hM : Mod rwL σ τ) (hz : Z30 (τ.2.1 95)) : RI τ P fs S := by
  obtain ⟨h2, h5, h7, h9, h11, h15, hm, hr, l2⟩ := h
  refine ⟨h2.mod2 hM (by decide), ?_⟩
  rw [hM.l (by decide : fa 81 13 ∉ rwL), hM.l (by decide : fa 81 15 ∉ rwL), hM.l (by decide : 91 ∉ rwL), hM.i (by decide : fa 81 16 ∉ rwL), hM.l (by decide : 92 ∉ rwL), hM.l (by decide : 93 ∉ rwL), hM.i (by decide : 94 ∉ rwL), hM.i (by decide : fa 81 19 ∉ rwL)]
  exact ⟨h5, h7, h9, hz, h15, hm, hr, l2⟩
theorem d_check {σ : SS} (h : Rel σ) : Duo (m_Ob_check 1) (m_Md_check 81) σ := by
  obtain ⟨⟨P, fs, a, b, S, c, r, p, z⟩, rs⟩ := h.cut2
  obtain ⟨h1, h2, h5, h7, h9, h11, h15, hm, hr, l2⟩ := id c
  obtain ⟨p1, p2, p3, p4, p5, p6⟩ := id p
  have hT := c.tw.2
  have hlb := hT.2.2.2.2.2.2
  have hnext : σ.2.2.2 = b := by rw [h1.1]
  have hN : Z30 (fun _ => (0 : Int64)) := fun _ _ => rfl
  obtain ⟨σ1, e1, m1, n1, s1⟩ := s_beginAgain (σ := σ) hT h11
  have m1' : Mod (twL b) σ σ1 := m1.mono (by simp)
  have c1 : CI σ1 P fs a b S := c.next m1' (by rw [n1]; exact hN)
  obtain ⟨k1, k2, k5, k7, k9, k11, k15, km, kr, kl⟩ := id c1
  obtain ⟨τ, e2, m2, z2⟩ := s_checkGo (rc := S.2.2.2.2.1) k1 k2 p1 k15 p2 (fun t ht => ⟨p5 t ht, kr t ht⟩) S.1 0 FU σ1 (fun _ => 0) fs (by omega) (by unfold FU; omega) Mod.rf n1 (s1.trans h5) NG.zero hN
  have c2 : CI τ P fs a b S := c1.next m2 z2
  have mc : Mdp [76, 77, fa 75 3, fa 75 4, fa 75 5, 79, 80, fa 78 3, fa 78 4, fa 78 5] σ τ := by
    have := m1'.tr m2
    rcases h1.2 with ⟨rfl, rfl⟩ | ⟨rfl, rfl⟩
    · exact (this.mono (by decide)).p
    · exact (this.mono (by decide)).p
  have r1 : RI τ P fs S := r.mod mc (by decide)
  obtain ⟨υ1, e3, m3, n3, s3⟩ := s_rest (σ := τ) r1.2.2.2.2.1
  have m3' : Mod rwL τ υ1 := m3.mono (by decide)
  have r2 : RI υ1 P fs S := r1.trial m3' (by rw [n3]; exact hN)
  obtain ⟨f2, f5, f7, f9, f11, f15, fm, fr, fl⟩ := id r2
  obtain ⟨υ, e4, m4, z4⟩ := s_checkM (rc := S.2.2.2.2.1) f2 p1 f15 p2 fr S.1 0 FU υ1 (fun _ => 0) fs (by omega) (by unfold FU; omega) Mod.rf n3 (s3.trans r1.2.1) hN
  have r3 : RI υ P fs S := r2.trial m4 z4
  have mr := m3'.tr m4
  refine ⟨pChk P S.2.2.2.2.1 S.1 0 (fun _ => 0) fs, τ, υ, ?_, ?_, Rel.mk2 (c2.mod mr (by decide)) r3 p ((z.mdp mc (by decide)).mdp mr.p (by decide)) ((rs.mdp mc (by decide)).mdp mr.p (by decide))⟩
  · unfold m_Ob_check
    simp (disch := first | assumption | rfl | decide | omega) only [↓ckd_lay, ↓bd_gI, ↓bd_gL, ↓bd_pI, ↓bd_pL, ↓bd_pZ, ↓bd_now, ↓bd_next, ↓bd_ldR3, ↓bd_ldR4, ↓ap_ite, ↓ap_rt, ↓ap_lt, ↓rz_0, ↓rz_1, rz_bi, ↓gr_1_0, ↓gr_1_1, ↓gr_1_2, ↓gr_1_3, ↓gr_1_4, ↓gr_1_5, ↓gr_1_6, ↓gr_15_0, ↓gr_15_1, ↓gr_15_2, ↓gr_15_3, ↓gr_20_0, ↓gr_20_1, ↓gr_23_0, ↓gr_23_1, ↓gr_23_2, ↓gr_27_0, ↓gr_27_1, ↓gr_27_2, ↓gr_29_0, ↓gr_29_1, ↓gr_29_2, ↓gr_29_3, ↓gr_29_4, ↓gr_33_0, ↓gr_33_1, ↓gr_now, ↓gr_next, hnext]
    rw [bd_eq e1]
    exact e2
  · unfold m_Md_check
    rw [ckd_lay (ci := 9) (o := 81) rfl (by decide), bd_eq e3]
    exact e4
