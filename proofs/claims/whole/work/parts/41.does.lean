/-! A step as both make it: the class's makeOne, the reference's does. -/
/-- steps made, numbers, seed, samples, records, trace -/
abbrev SG : Type := Nat × (Nat → Int64) × Int64 × (Nat → Int64) × (Nat → Int64) × List Int32
def CI (σ : SS) (P : SH) (fs : Int64) (a b : Nat) (S : SG) : Prop :=
  CPt σ a b ∧ CShp σ P ∧ σ.2.1 (fa 15 7) 0 = fs ∧ σ.2.1 (fa a 4) 0 = S.2.2.1 ∧ σ.2.1 (a + 1) = S.2.1 ∧ Z30 (σ.2.1 (b + 1)) ∧ σ.1 (fa 20 2) 0 = nI S.1 ∧ (∀ t, t < S.1 → σ.2.1 22 t = S.2.2.2.1 t) ∧ (∀ t, t < S.1 → ∀ w, w < 2 + P.2.2.2.1 → σ.2.1 21 (7 * t + w) = S.2.2.2.2.1 (7 * t + w)) ∧ HasM (σ.1 (a + 2)) (σ.1 (fa a 3) 0) S.2.2.2.2.2
def RI (σ : SS) (P : SH) (fs : Int64) (S : SG) : Prop :=
  RShp σ P ∧ σ.2.1 (fa 81 13) 0 = fs ∧ σ.2.1 (fa 81 15) 0 = S.2.2.1 ∧ σ.2.1 91 = S.2.1 ∧ Z30 (σ.2.1 95) ∧ σ.1 (fa 81 16) 0 = nI S.1 ∧ (∀ t, t < S.1 → σ.2.1 92 t = S.2.2.2.1 t) ∧ (∀ t, t < S.1 → ∀ w, w < 2 + P.2.2.2.1 → σ.2.1 93 (7 * t + w) = S.2.2.2.2.1 (7 * t + w)) ∧ HasM (σ.1 94) (σ.1 (fa 81 19) 0) S.2.2.2.2.2
def PI (P : SH) (fs : Int64) (S : SG) : Prop := AllP P ∧ S.1 ≤ 300 ∧ (∀ t, t < S.1 → smp (S.2.2.2.1 t)) ∧ RunOk P fs S.2.2.2.1 S.1 S.2.1 S.2.2.1 ∧ (∀ t, t < S.1 → smp (S.2.2.2.2.1 (7 * t))) ∧ S.2.2.2.2.2.length ≤ 15
def TZ (σ : SS) : Prop := ∀ d, d < 13 → Z30 (σ.2.1 (36 + 3 * d))
theorem Rel.cut {σ : SS} (h : Rel σ) : ∃ P fs a b S, CI σ P fs a b S ∧ RI σ P fs S ∧ PI P fs S ∧ TZ σ := by
  obtain ⟨⟨P, a, b, T, N, sd, fs, ⟨h1, ⟨h2, h3, h4⟩, ⟨h5, h6, h7, h8⟩, ⟨h9, h10⟩, ⟨h11, h12, h13⟩, ⟨h14, h15, h16⟩, h17, h18, h19⟩, ⟨l, l1, l2, l3⟩⟩, -⟩ := h
  exact ⟨P, fs, a, b, (T, N, sd, σ.2.1 92, σ.2.1 93, l), ⟨h1, h2, h5, h7, h9, h11, h15, fun t ht => (h17 t ht).1, fun t ht w hw => (h19 t ht).2 w hw, l2⟩, ⟨h3, h6, h8, h10, h12, h16, fun t _ => rfl, fun t _ w _ => rfl, l3⟩, ⟨h4, h14, fun t ht => (h17 t ht).2, h18, fun t ht => (h19 t ht).1, l1⟩, h13⟩
theorem Rel.core {σ : SS} {P : SH} {fs : Int64} {a b : Nat} {S : SG} (c : CI σ P fs a b S) (r : RI σ P fs S) (p : PI P fs S) (z : TZ σ) : ∃ P a b T N sd fs, RCore σ P a b T N sd fs ∧ RTrace σ a := by
  obtain ⟨h1, h2, h5, h7, h9, h11, h15, hm, hr, l2⟩ := c
  obtain ⟨h3, h6, h8, h10, h12, h16, gm, gr, l3⟩ := r
  obtain ⟨h4, h14, pm, h18, pr, l1⟩ := p
  refine ⟨P, a, b, S.1, S.2.1, S.2.2.1, fs, ⟨h1, ⟨h2, h3, h4⟩, ⟨h5, h6, h7, h8⟩, ⟨h9, h10⟩, ⟨h11, h12, z⟩, ⟨h14, h15, h16⟩, fun t ht => ⟨(hm t ht).trans (gm t ht).symm, ?_⟩, h18.congr gm, fun t ht => ⟨?_, fun w hw => (hr t ht w hw).trans (gr t ht w hw).symm⟩⟩, ⟨S.2.2.2.2.2, l1, l2, l3⟩⟩
  · rw [gm t ht]; exact pm t ht
  · have := gr t ht 0 (by omega)
    rw [Nat.add_zero] at this
    rw [this]; exact pr t ht
def pRc (n T : Nat) (u v : Int64) (N rc : Nat → Int64) : Nat → Int64 := fun k => if k = 7 * T then u else if k = 7 * T + 1 then v else if 7 * T + 2 ≤ k ∧ k < 7 * T + 2 + n then N (6 * (k - 7 * T - 2)) else rc k
theorem pRc_eq {n T k : Nat} {u v : Int64} {N rc rc' : Nat → Int64} (h : k < 7 * T ∨ 7 * T + 2 + n ≤ k → rc k = rc' k) : pRc n T u v N rc k = pRc n T u v N rc' k := by
  unfold pRc
  by_cases q0 : k = 7 * T
  · rw [if_pos q0, if_pos q0]
  · rw [if_neg q0, if_neg q0]
    by_cases q1 : k = 7 * T + 1
    · rw [if_pos q1, if_pos q1]
    · rw [if_neg q1, if_neg q1]
      by_cases q2 : 7 * T + 2 ≤ k ∧ k < 7 * T + 2 + n
      · rw [if_pos q2, if_pos q2]
      · rw [if_neg q2, if_neg q2]; exact h (by omega)
def pNext (P : SH) (u : Int64) (S : SG) : SG := (S.1 + 1, (pOut nR P u S.2.1 S.2.2.1).2.1, (pLot P.2.2.2.2.2.2 S.2.2.1).2, va_up S.2.2.2.1 S.1 u, pRc P.2.2.2.1 S.1 u (P.2.2.2.2.1 (pTold nR P u S.2.1 S.2.2.1)) (pOut nR P u S.2.1 S.2.2.1).2.1 S.2.2.2.2.1, (pOut nR P u S.2.1 S.2.2.1).2.2)
def pDo (P : SH) (u : Int64) (S : SG) : Int32 × SG := if S.1 = 300 then (-4, S) else if (pOut nR P u S.2.1 S.2.2.1).1 = true then (nI (pTold nR P u S.2.1 S.2.2.1), pNext P u S) else (-6, S)
theorem PI.do {P : SH} {fs u : Int64} {S : SG} (h : PI P fs S) (hu : smp u) : PI P fs (pDo P u S).2 := by
  unfold pDo
  split
  · exact h
  · next h3 =>
    split
    · next ho =>
      obtain ⟨p1, p2, p3, p4, p5, p6⟩ := h
      refine ⟨p1, by show S.1 + 1 ≤ 300; omega, fun t ht => ?_, ⟨S.2.1, S.2.2.1, p4.congr (fun t ht => up_ne (by omega)), ?_, ?_, rfl⟩, fun t ht => ?_, pOut_len p1.1.1⟩
      · show smp (va_up S.2.2.2.1 S.1 u t)
        by_cases q : t = S.1
        · subst q; rw [up_same]; exact hu
        · rw [up_ne q]; exact p3 t (by have : t < S.1 + 1 := ht; omega)
      · show (pOut nR P (va_up S.2.2.2.1 S.1 u S.1) S.2.1 S.2.2.1).1 = true
        rw [up_same]; exact ho
      · show (pOut nR P u S.2.1 S.2.2.1).2.1 = (pOut nR P (va_up S.2.2.2.1 S.1 u S.1) S.2.1 S.2.2.1).2.1
        rw [up_same]
      · show smp (pRc _ _ _ _ _ _ (7 * t))
        have ht' : t < S.1 + 1 := ht
        unfold pRc
        by_cases q : t = S.1
        · rw [if_pos (by omega)]; exact hu
        · rw [if_neg (by omega), if_neg (by omega), if_neg (by omega)]; exact p5 t (by omega)
    · exact h
/-- like Mod, but now and next may have changed places -/
def Mdp (L : List Nat) (σ τ : SS) : Prop := ∀ o, o ∉ L → τ.1 o = σ.1 o ∧ τ.2.1 o = σ.2.1 o
theorem Mod.p {L : List Nat} {σ τ : SS} (h : Mod L σ τ) : Mdp L σ τ := h.1
theorem Mdp.tr {L : List Nat} {σ τ υ : SS} (h : Mdp L σ τ) (g : Mdp L τ υ) : Mdp L σ υ := fun o ho => ⟨((g o ho).1).trans (h o ho).1, ((g o ho).2).trans (h o ho).2⟩
theorem Mdp.mono {L K : List Nat} {σ τ : SS} (h : Mdp L σ τ) (hs : ∀ o ∈ L, o ∈ K) : Mdp K σ τ := fun o ho => h o (fun q => ho (hs o q))
theorem Mdp.m {L : List Nat} {σ τ : SS} (h : Mdp L σ τ) : Mod L (σ.1, σ.2.1, τ.2.2) τ := ⟨h, rfl⟩
abbrev cL : List Nat := [76, 77, fa 75 3, fa 75 4, fa 75 5, 79, 80, fa 78 3, fa 78 4, fa 78 5, 21, 22, fa 20 2]
abbrev rL : List Nat := [95, 96, fa 81 24, fa 81 22, fa 81 23, 91, fa 81 15, 92, 93, 94, fa 81 19, fa 81 16]
theorem s_writeGo {σ0 : SS} {a T S : Nat} (hT : IsTw a) (hS : σ0.1 (fa 15 4) 0 = nI S) (hS5 : S ≤ 5) (hT3 : T < 300) : ∀ (r s n : Nat) (σ : SS), s + r = S → r < n → Mod [21, fa 20 2] σ0 σ → σ.1 (fa 20 2) 0 = nI T → ∃ τ, l_Lg_write_53 n 20 a (nI (T * 7)) (nI s) (lay σ) = some ((), lay τ) ∧ Mod [21, fa 20 2] σ0 τ ∧ τ.1 (fa 20 2) 0 = nI (T + 1) ∧ ∀ k, τ.2.1 21 k = if 7 * T + 2 + s ≤ k ∧ k < 7 * T + 2 + S then σ0.2.1 (a + 1) (6 * (k - 7 * T - 2)) else σ.2.1 21 k
  | r, s, 0, σ, h, hn, hM, ht => by omega
  | 0, s, n + 1, σ, h, hn, hM, ht => by
    have h6 := hT.1
    have hs : ¬ s < S := by omega
    have hs' : S ≤ s := by omega
    have hS' : σ.1 (fa 15 4) 0 = nI S := by rw [hM.i (by decide)]; exact hS
    refine ⟨sI σ (fa 20 2) (fun _ => nI (T + 1)), ?_, hM.tr (Mod.I (by simp)), sI_row, fun k => ?_⟩
    · show b_Lg_write_53 (l_Lg_write_53 n) 20 a (nI (T * 7)) (nI s) (lay σ) = _
      unfold b_Lg_write_53
      simp (disch := first | assumption | rfl | decide | omega) only [↓ckd_lay, ↓bd_gI, ↓bd_gL, ↓bd_pI, ↓bd_pL, ↓bd_pZ, ↓bd_now, ↓bd_next, ↓bd_ldR3, ↓bd_ldR4, ↓ap_ite, ↓ap_rt, ↓ap_lt, ↓rz_0, ↓rz_1, rz_bi, ↓tg0 hT, ↓tg1 hT, ↓tg2 hT, ↓tld hT, ↓tst hT, ↓tsm hT, ↓bd_ldv, hS', ln_0, ln_1, ln_2, ln_3, ln_4, ln_5, ln_6, ln_7, ln_8, ln_10, ln_11, ln_12, ln_13, ln_15, ln_16, ln_30, ln_60, ln_256, ln_300, ln_400, ln_500, ln_1023, ln_1024, nl_0, nl_1, nl_2, nl_3, nl_4, nl_5, nl_6, nl_7, nl_8, nl_10, nl_11, nl_12, nl_13, nl_15, nl_16, nl_30, nl_60, nl_256, nl_300, nl_400, nl_500, nl_1023, nl_1024, tn_0, tn_1, tn_2, tn_3, tn_4, tn_5, tn_6, tn_7, tn_8, tn_10, tn_11, tn_12, tn_13, tn_15, tn_16, tn_30, tn_60, tn_256, tn_300, tn_400, tn_500, tn_1023, tn_1024, nt_0, nt_1, nt_2, nt_3, nt_4, nt_5, nt_6, nt_7, nt_8, nt_10, nt_11, nt_12, nt_13, nt_15, nt_16, nt_30, nt_60, nt_256, nt_300, nt_400, nt_500, nt_1023, nt_1024, ne_0, ne_1, ne_2, ne_3, ne_4, ne_5, ne_6, ne_7, ne_8, ne_10, ne_11, ne_12, ne_13, ne_15, ne_16, ne_30, ne_60, ne_256, ne_300, ne_400, ne_500, ne_1023, ne_1024, le_nn, lt_nn, eq_nn, hs', if_true, ht, na_1]
    · rw [if_neg (by omega)]; rfl
  | r + 1, s, n + 1, σ, h, hn, hM, ht => by
    have h6 := hT.1
    have hl := hT.2.2.2.2.2.2
    have hs' : ¬ S ≤ s := by omega
    have hS' : σ.1 (fa 15 4) 0 = nI S := by rw [hM.i (by decide)]; exact hS
    have hN : σ.2.1 (a + 1) = σ0.2.1 (a + 1) := hM.l (by unfold fa; simp; omega)
    obtain ⟨τ, e, m, t, k⟩ := s_writeGo hT hS hS5 hT3 r (s + 1) n (sL σ 21 (va_up (σ.2.1 21) (T * 7 + 2 + s) (σ0.2.1 (a + 1) (s * 6 + 0)))) (by omega) (by omega) (hM.tr (Mod.L (by simp))) ht
    refine ⟨τ, ?_, m, t, fun j => ?_⟩
    · show b_Lg_write_53 (l_Lg_write_53 n) 20 a (nI (T * 7)) (nI s) (lay σ) = _
      unfold b_Lg_write_53
      simp (disch := first | assumption | rfl | decide | omega) only [↓ckd_lay, ↓bd_gI, ↓bd_gL, ↓bd_pI, ↓bd_pL, ↓bd_pZ, ↓bd_now, ↓bd_next, ↓bd_ldR3, ↓bd_ldR4, ↓ap_ite, ↓ap_rt, ↓ap_lt, ↓rz_0, ↓rz_1, rz_bi, ↓gr_1_0, ↓gr_1_1, ↓gr_1_2, ↓gr_1_3, ↓gr_1_4, ↓gr_1_5, ↓gr_1_6, ↓gr_15_0, ↓gr_15_1, ↓gr_15_2, ↓gr_15_3, ↓gr_20_0, ↓gr_20_1, ↓gr_23_0, ↓gr_23_1, ↓gr_23_2, ↓gr_27_0, ↓gr_27_1, ↓gr_27_2, ↓gr_29_0, ↓gr_29_1, ↓gr_29_2, ↓gr_29_3, ↓gr_29_4, ↓gr_33_0, ↓gr_33_1, ↓gr_now, ↓gr_next, ↓tg0 hT, ↓tg1 hT, ↓tg2 hT, ↓tld hT, ↓tst hT, ↓tsm hT, ↓bd_ldv, hS', ln_0, ln_1, ln_2, ln_3, ln_4, ln_5, ln_6, ln_7, ln_8, ln_10, ln_11, ln_12, ln_13, ln_15, ln_16, ln_30, ln_60, ln_256, ln_300, ln_400, ln_500, ln_1023, ln_1024, nl_0, nl_1, nl_2, nl_3, nl_4, nl_5, nl_6, nl_7, nl_8, nl_10, nl_11, nl_12, nl_13, nl_15, nl_16, nl_30, nl_60, nl_256, nl_300, nl_400, nl_500, nl_1023, nl_1024, tn_0, tn_1, tn_2, tn_3, tn_4, tn_5, tn_6, tn_7, tn_8, tn_10, tn_11, tn_12, tn_13, tn_15, tn_16, tn_30, tn_60, tn_256, tn_300, tn_400, tn_500, tn_1023, tn_1024, nt_0, nt_1, nt_2, nt_3, nt_4, nt_5, nt_6, nt_7, nt_8, nt_10, nt_11, nt_12, nt_13, nt_15, nt_16, nt_30, nt_60, nt_256, nt_300, nt_400, nt_500, nt_1023, nt_1024, ne_0, ne_1, ne_2, ne_3, ne_4, ne_5, ne_6, ne_7, ne_8, ne_10, ne_11, ne_12, ne_13, ne_15, ne_16, ne_30, ne_60, ne_256, ne_300, ne_400, ne_500, ne_1023, ne_1024, le_nn, lt_nn, eq_nn, hs', if_false, na_0, na_1, na_2, na_3, na_4, na_5, na_6, na_7, na_8, na_10, na_11, na_12, na_13, na_15, na_16, na_30, na_60, na_300, an_0, an_1, an_2, an_3, an_4, an_5, an_6, an_7, an_8, an_10, an_11, an_12, an_13, an_15, an_16, an_30, an_60, an_300, nm_0, nm_1, nm_2, nm_3, nm_4, nm_5, nm_6, nm_7, nm_8, nm_10, nm_11, nm_12, nm_13, nm_15, nm_16, nm_30, nm_60, nm_300, mn_0, mn_1, mn_2, mn_3, mn_4, mn_5, mn_6, mn_7, mn_8, mn_10, mn_11, mn_12, mn_13, mn_15, mn_16, mn_30, mn_60, mn_300, nI_add, pk_mul, ↓la_21, ↓st_21, hN]
      exact e
    · rw [k j, sL_same]
      by_cases q : j = T * 7 + 2 + s
      · have e6 : s * 6 + 0 = 6 * (j - 7 * T - 2) := by omega
        rw [if_neg (by omega), if_pos (by omega), ← e6, q, up_same]
      · rw [up_ne q]
        by_cases q2 : 7 * T + 2 + s ≤ j ∧ j < 7 * T + 2 + S
        · rw [if_pos (by omega), if_pos q2]
        · rw [if_neg (by omega), if_neg q2]
theorem s_write {σ : SS} {a T S td : Nat} {u : Int64} (hT : IsTw a) (hS : σ.1 (fa 15 4) 0 = nI S) (hS5 : S ≤ 5) (ht : σ.1 (fa 20 2) 0 = nI T) (hT3 : T < 300) (hd : σ.1 (fa a 5) 0 = nI td) (hd16 : td < 16) :
    ∃ τ, m_Lg_write 20 u a (lay σ) = some ((), lay τ) ∧ Mod [21, 22, fa 20 2] σ τ ∧ τ.1 (fa 20 2) 0 = nI (T + 1) ∧ τ.2.1 22 = va_up (σ.2.1 22) T u ∧ τ.2.1 21 = pRc S T u (σ.2.1 19 td) (σ.2.1 (a + 1)) (σ.2.1 21) := by
  have h6 := hT.1
  have hl := hT.2.2.2.2.2.2
  obtain ⟨τ, e, m, t, k⟩ := s_writeGo (σ0 := sL (sL (sL σ 22 (va_up (σ.2.1 22) T u)) 21 (va_up (σ.2.1 21) (T * 7) u)) 21 (va_up (va_up (σ.2.1 21) (T * 7) u) (T * 7 + 1) (σ.2.1 19 td))) (T := T) (S := S) hT hS hS5 hT3 S 0 FU (sL (sL (sL σ 22 (va_up (σ.2.1 22) T u)) 21 (va_up (σ.2.1 21) (T * 7) u)) 21 (va_up (va_up (σ.2.1 21) (T * 7) u) (T * 7 + 1) (σ.2.1 19 td))) (by omega) (by unfold FU; omega) Mod.rf ht
  refine ⟨τ, ?_, ?_, t, ?_, ?_⟩
  · unfold m_Lg_write
    simp (disch := first | assumption | rfl | decide | omega) only [↓ckd_lay, ↓bd_gI, ↓bd_gL, ↓bd_pI, ↓bd_pL, ↓bd_pZ, ↓bd_now, ↓bd_next, ↓bd_ldR3, ↓bd_ldR4, ↓ap_ite, ↓ap_rt, ↓ap_lt, ↓rz_0, ↓rz_1, rz_bi, ↓gr_1_0, ↓gr_1_1, ↓gr_1_2, ↓gr_1_3, ↓gr_1_4, ↓gr_1_5, ↓gr_1_6, ↓gr_15_0, ↓gr_15_1, ↓gr_15_2, ↓gr_15_3, ↓gr_20_0, ↓gr_20_1, ↓gr_23_0, ↓gr_23_1, ↓gr_23_2, ↓gr_27_0, ↓gr_27_1, ↓gr_27_2, ↓gr_29_0, ↓gr_29_1, ↓gr_29_2, ↓gr_29_3, ↓gr_29_4, ↓gr_33_0, ↓gr_33_1, ↓gr_now, ↓gr_next, ↓tg0 hT, ↓tg1 hT, ↓tg2 hT, ↓tld hT, ↓tst hT, ↓tsm hT, ↓bd_ldv, ht, na_0, na_1, na_2, na_3, na_4, na_5, na_6, na_7, na_8, na_10, na_11, na_12, na_13, na_15, na_16, na_30, na_60, na_300, an_0, an_1, an_2, an_3, an_4, an_5, an_6, an_7, an_8, an_10, an_11, an_12, an_13, an_15, an_16, an_30, an_60, an_300, nm_0, nm_1, nm_2, nm_3, nm_4, nm_5, nm_6, nm_7, nm_8, nm_10, nm_11, nm_12, nm_13, nm_15, nm_16, nm_30, nm_60, nm_300, mn_0, mn_1, mn_2, mn_3, mn_4, mn_5, mn_6, mn_7, mn_8, mn_10, mn_11, mn_12, mn_13, mn_15, mn_16, mn_30, mn_60, mn_300, nI_add, pk_mul, ↓la_21, ↓st_21, ↓la_22, ↓st_22, ↓la_19, ↓st_19, hd, sL_ne, sL_same, sL_1, Nat.add_zero]
    exact e
  · exact ((Mod.L (by simp)).tr (Mod.L (by simp))).tr ((Mod.L (by simp)).tr (m.mono (by decide)))
  · rw [m.l (by decide), sL_ne (by decide), sL_ne (by decide), sL_same]
  · funext j
    rw [k j, sL_same, sL_ne (by omega), sL_ne (by omega), sL_ne (by omega)]
    unfold pRc
    by_cases q0 : j = 7 * T
    · rw [if_pos q0, if_neg (by omega), up_ne (by omega), q0, Nat.mul_comm, up_same]
    · rw [if_neg q0]
      by_cases q1 : j = 7 * T + 1
      · rw [if_pos q1, if_neg (by omega), q1, Nat.mul_comm, up_same]
      · rw [if_neg q1, up_ne (by omega), up_ne (by omega)]
theorem s_makeOne {σ : SS} {P : SH} {fs u : Int64} {a b : Nat} {S : SG} (c : CI σ P fs a b S) (p : PI P fs S) (hu : smp u) :
    ∃ τ a' b', m_Ob_makeOne 1 u (lay σ) = some ((pDo P u S).1, lay τ) ∧ Mdp cL σ τ ∧ CI τ P fs a' b' (pDo P u S).2 := by
  obtain ⟨h1, h2, h5, h7, h9, h11, h15, hm, hr, l2⟩ := id c
  obtain ⟨p1, p2, p3, p4, p5, p6⟩ := p
  have hnow : σ.2.2.1 = a := by rw [h1.1]
  have hnext : σ.2.2.2 = b := by rw [h1.1]
  have hTW : IsTw a ∧ IsTw b := by
    rcases h1.2 with ⟨rfl, rfl⟩ | ⟨rfl, rfl⟩
    · exact ⟨tw_now, tw_next⟩
    · exact ⟨tw_next, tw_now⟩
  have hT := hTW.2
  have h6 := hT.1
  have hlt := hT.2.2.2.2.2.2
  have hla := hTW.1.2.2.2.2.2.2
  have ha : ∀ o ∈ [a + 1, a + 2, fa a 3, fa a 4], o ∉ twL b := by
    rcases h1.2 with ⟨rfl, rfl⟩ | ⟨rfl, rfl⟩ <;> decide
  by_cases h3 : S.1 = 300
  · have e : pDo P u S = (-4, S) := by unfold pDo; rw [if_pos h3]
    rw [e]
    refine ⟨σ, a, b, ?_, fun _ _ => ⟨rfl, rfl⟩, c⟩
    unfold m_Ob_makeOne
    have : ¬ S.1 < 300 := by omega
    simp (disch := first | assumption | rfl | decide | omega) only [↓ckd_lay, ↓bd_gI, ↓bd_gL, ↓bd_pI, ↓bd_pL, ↓bd_pZ, ↓bd_now, ↓bd_next, ↓bd_ldR3, ↓bd_ldR4, ↓ap_ite, ↓ap_rt, ↓ap_lt, ↓rz_0, ↓rz_1, rz_bi, ↓gr_1_0, ↓gr_1_1, ↓gr_1_2, ↓gr_1_3, ↓gr_1_4, ↓gr_1_5, ↓gr_1_6, ↓gr_15_0, ↓gr_15_1, ↓gr_15_2, ↓gr_15_3, ↓gr_20_0, ↓gr_20_1, ↓gr_23_0, ↓gr_23_1, ↓gr_23_2, ↓gr_27_0, ↓gr_27_1, ↓gr_27_2, ↓gr_29_0, ↓gr_29_1, ↓gr_29_2, ↓gr_29_3, ↓gr_29_4, ↓gr_33_0, ↓gr_33_1, ↓gr_now, ↓gr_next, h15, ln_0, ln_1, ln_2, ln_3, ln_4, ln_5, ln_6, ln_7, ln_8, ln_10, ln_11, ln_12, ln_13, ln_15, ln_16, ln_30, ln_60, ln_256, ln_300, ln_400, ln_500, ln_1023, ln_1024, nl_0, nl_1, nl_2, nl_3, nl_4, nl_5, nl_6, nl_7, nl_8, nl_10, nl_11, nl_12, nl_13, nl_15, nl_16, nl_30, nl_60, nl_256, nl_300, nl_400, nl_500, nl_1023, nl_1024, tn_0, tn_1, tn_2, tn_3, tn_4, tn_5, tn_6, tn_7, tn_8, tn_10, tn_11, tn_12, tn_13, tn_15, tn_16, tn_30, tn_60, tn_256, tn_300, tn_400, tn_500, tn_1023, tn_1024, nt_0, nt_1, nt_2, nt_3, nt_4, nt_5, nt_6, nt_7, nt_8, nt_10, nt_11, nt_12, nt_13, nt_15, nt_16, nt_30, nt_60, nt_256, nt_300, nt_400, nt_500, nt_1023, nt_1024, ne_0, ne_1, ne_2, ne_3, ne_4, ne_5, ne_6, ne_7, ne_8, ne_10, ne_11, ne_12, ne_13, ne_15, ne_16, ne_30, ne_60, ne_256, ne_300, ne_400, ne_500, ne_1023, ne_1024, le_nn, lt_nn, eq_nn, this, if_false]
  · have hz := RunOk.z30 p1.1.1 p4
    have hng := RunOk.ng p4
    obtain ⟨τ1, e1, m1, n1, s1⟩ := s_becomeLike (σ := σ) hT hTW.1 h11 (by rw [h9]; exact hz)
    have c1 : CShp τ1 P := h2.mod hT (m1.mono (by simp))
    obtain ⟨τ2, e2, m2, n2, mk, sd2, td2⟩ := s_makeStep (u := u) hT c1 p1.1.1
    rw [n1, s1, h9, h7, out_eq p1 hng hu] at e2 n2 mk
    rw [n1, s1, h9, h7, told_eq p1 hng hu] at td2
    rw [s1, h7] at sd2
    have m12 : Mod (twL b) σ τ2 := (m1.mono (by simp)).tr m2
    have h15' : S.1 < 300 := by omega
    have hnow2 : τ2.2.2.1 = a := by rw [m12.2]; exact hnow
    have hnext2 : τ2.2.2.2 = b := by rw [m12.2]; exact hnext
    have hnext1 : τ1.2.2.2 = b := by rw [m1.2]; exact hnext
    by_cases ho : (pOut nR P u S.2.1 S.2.2.1).1 = true
    · have e : pDo P u S = (nI (pTold nR P u S.2.1 S.2.2.1), pNext P u S) := by unfold pDo; rw [if_neg h3, if_pos ho]
      rw [e]
      have c2 : CShp τ2 P := c1.mod hT m2
      have ht2 : τ2.1 (fa 20 2) 0 = nI S.1 := by rw [m12.i (by unfold twL fa; simp; omega)]; exact h15
      have htl := told_lt (u := u) (sd := S.2.2.1) (N := S.2.1) p1.1.1
      obtain ⟨τ3, e3, m3, t3, d3, r3⟩ := s_write (σ := (τ2.1, τ2.2.1, b, a)) (u := u) hT c2.2.2.2.1 p1.1.1.1 ht2 h15' td2 (by have := p1.1.1.2.2.1; omega)
      have hT5 : τ3.1 (fa b 5) 0 = nI (pTold nR P u S.2.1 S.2.2.1) := by rw [m3.i (by unfold fa; simp; omega)]; exact td2
      have hp3 : τ3.2.2 = (b, a) := m3.2
      have hnow3 : τ3.2.2.1 = b := by rw [hp3]
      refine ⟨τ3, b, a, ?_, ?_, ?_⟩
      · unfold m_Ob_makeOne
        simp (disch := first | assumption | rfl | decide | omega) only [↓ckd_lay, ↓bd_gI, ↓bd_gL, ↓bd_pI, ↓bd_pL, ↓bd_pZ, ↓bd_now, ↓bd_next, ↓bd_ldR3, ↓bd_ldR4, ↓ap_ite, ↓ap_rt, ↓ap_lt, ↓rz_0, ↓rz_1, rz_bi, ↓gr_1_0, ↓gr_1_1, ↓gr_1_2, ↓gr_1_3, ↓gr_1_4, ↓gr_1_5, ↓gr_1_6, ↓gr_15_0, ↓gr_15_1, ↓gr_15_2, ↓gr_15_3, ↓gr_20_0, ↓gr_20_1, ↓gr_23_0, ↓gr_23_1, ↓gr_23_2, ↓gr_27_0, ↓gr_27_1, ↓gr_27_2, ↓gr_29_0, ↓gr_29_1, ↓gr_29_2, ↓gr_29_3, ↓gr_29_4, ↓gr_33_0, ↓gr_33_1, ↓gr_now, ↓gr_next, h15, ln_0, ln_1, ln_2, ln_3, ln_4, ln_5, ln_6, ln_7, ln_8, ln_10, ln_11, ln_12, ln_13, ln_15, ln_16, ln_30, ln_60, ln_256, ln_300, ln_400, ln_500, ln_1023, ln_1024, nl_0, nl_1, nl_2, nl_3, nl_4, nl_5, nl_6, nl_7, nl_8, nl_10, nl_11, nl_12, nl_13, nl_15, nl_16, nl_30, nl_60, nl_256, nl_300, nl_400, nl_500, nl_1023, nl_1024, tn_0, tn_1, tn_2, tn_3, tn_4, tn_5, tn_6, tn_7, tn_8, tn_10, tn_11, tn_12, tn_13, tn_15, tn_16, tn_30, tn_60, tn_256, tn_300, tn_400, tn_500, tn_1023, tn_1024, nt_0, nt_1, nt_2, nt_3, nt_4, nt_5, nt_6, nt_7, nt_8, nt_10, nt_11, nt_12, nt_13, nt_15, nt_16, nt_30, nt_60, nt_256, nt_300, nt_400, nt_500, nt_1023, nt_1024, ne_0, ne_1, ne_2, ne_3, ne_4, ne_5, ne_6, ne_7, ne_8, ne_10, ne_11, ne_12, ne_13, ne_15, ne_16, ne_30, ne_60, ne_256, ne_300, ne_400, ne_500, ne_1023, ne_1024, le_nn, lt_nn, eq_nn, h15', if_true, hnow, hnext]
        rw [bd_eq e1]
        simp (disch := first | assumption | rfl | decide | omega) only [↓ckd_lay, ↓bd_gI, ↓bd_gL, ↓bd_pI, ↓bd_pL, ↓bd_pZ, ↓bd_now, ↓bd_next, ↓bd_ldR3, ↓bd_ldR4, ↓ap_ite, ↓ap_rt, ↓ap_lt, ↓rz_0, ↓rz_1, rz_bi, ↓gr_1_0, ↓gr_1_1, ↓gr_1_2, ↓gr_1_3, ↓gr_1_4, ↓gr_1_5, ↓gr_1_6, ↓gr_15_0, ↓gr_15_1, ↓gr_15_2, ↓gr_15_3, ↓gr_20_0, ↓gr_20_1, ↓gr_23_0, ↓gr_23_1, ↓gr_23_2, ↓gr_27_0, ↓gr_27_1, ↓gr_27_2, ↓gr_29_0, ↓gr_29_1, ↓gr_29_2, ↓gr_29_3, ↓gr_29_4, ↓gr_33_0, ↓gr_33_1, ↓gr_now, ↓gr_next, hnext1]
        rw [bd_eq e2]
        simp (disch := first | assumption | rfl | decide | omega) only [↓ckd_lay, ↓bd_gI, ↓bd_gL, ↓bd_pI, ↓bd_pL, ↓bd_pZ, ↓bd_now, ↓bd_next, ↓bd_ldR3, ↓bd_ldR4, ↓ap_ite, ↓ap_rt, ↓ap_lt, ↓rz_0, ↓rz_1, rz_bi, ↓gr_1_0, ↓gr_1_1, ↓gr_1_2, ↓gr_1_3, ↓gr_1_4, ↓gr_1_5, ↓gr_1_6, ↓gr_15_0, ↓gr_15_1, ↓gr_15_2, ↓gr_15_3, ↓gr_20_0, ↓gr_20_1, ↓gr_23_0, ↓gr_23_1, ↓gr_23_2, ↓gr_27_0, ↓gr_27_1, ↓gr_27_2, ↓gr_29_0, ↓gr_29_1, ↓gr_29_2, ↓gr_29_3, ↓gr_29_4, ↓gr_33_0, ↓gr_33_1, ↓gr_now, ↓gr_next, bi_0, ho, not_true_eq_false, if_false, hnow2, hnext2]
        rw [bd_eq e3]
        simp (disch := first | assumption | rfl | decide | omega) only [↓ckd_lay, ↓bd_gI, ↓bd_gL, ↓bd_pI, ↓bd_pL, ↓bd_pZ, ↓bd_now, ↓bd_next, ↓bd_ldR3, ↓bd_ldR4, ↓ap_ite, ↓ap_rt, ↓ap_lt, ↓rz_0, ↓rz_1, rz_bi, ↓gr_1_0, ↓gr_1_1, ↓gr_1_2, ↓gr_1_3, ↓gr_1_4, ↓gr_1_5, ↓gr_1_6, ↓gr_15_0, ↓gr_15_1, ↓gr_15_2, ↓gr_15_3, ↓gr_20_0, ↓gr_20_1, ↓gr_23_0, ↓gr_23_1, ↓gr_23_2, ↓gr_27_0, ↓gr_27_1, ↓gr_27_2, ↓gr_29_0, ↓gr_29_1, ↓gr_29_2, ↓gr_29_3, ↓gr_29_4, ↓gr_33_0, ↓gr_33_1, ↓gr_now, ↓gr_next, hnow3, hT5]
      · have mA : Mdp cL σ τ2 := by
          rcases h1.2 with ⟨rfl, rfl⟩ | ⟨rfl, rfl⟩
          · exact (m12.mono (by decide)).p
          · exact (m12.mono (by decide)).p
        have mB : Mdp cL (τ2.1, τ2.2.1, b, a) τ3 := (m3.mono (by decide)).p
        exact Mdp.tr mA mB
      · have k3 : ∀ o, o ≠ 21 → o ≠ 22 → o ≠ fa 20 2 → τ3.1 o = τ2.1 o ∧ τ3.2.1 o = τ2.2.1 o := fun o q1 q2 q3 => m3.1 o (by simp [q1, q2, q3])
        have k2 : ∀ o, o ∉ twL b → τ2.1 o = σ.1 o ∧ τ2.2.1 o = σ.2.1 o := fun o q => m12.1 o q
        have hab : a + 1 ≠ b + 1 := by
          rcases h1.2 with ⟨rfl, rfl⟩ | ⟨rfl, rfl⟩ <;> decide
        refine ⟨⟨hp3, ?_⟩, CShp.mod2 (σ := (τ2.1, τ2.2.1, b, a)) c2 m3 (by decide), ?_, ?_, ?_, ?_, t3, ?_, ?_, ?_⟩
        · rcases h1.2 with ⟨rfl, rfl⟩ | ⟨rfl, rfl⟩
          · exact Or.inr ⟨rfl, rfl⟩
          · exact Or.inl ⟨rfl, rfl⟩
        · rw [(k3 _ (by decide) (by decide) (by decide)).2, (k2 _ (by unfold twL fa; simp; omega)).2]; exact h5
        · rw [(k3 _ (by unfold fa; omega) (by unfold fa; omega) (by unfold fa; omega)).2]; exact sd2
        · rw [(k3 _ (by omega) (by omega) (by unfold fa; omega)).2]; exact n2
        · rw [(k3 _ (by omega) (by omega) (by unfold fa; omega)).2, (k2 _ (ha _ (by simp))).2, h9]; exact hz
        · intro t ht
          have ht' : t < S.1 + 1 := ht
          rw [d3]
          show va_up (τ2.2.1 22) S.1 u t = va_up S.2.2.2.1 S.1 u t
          rw [(k2 22 (by unfold twL fa; simp; omega)).2]
          by_cases q : t = S.1
          · rw [q, up_same, up_same]
          · rw [up_ne q, up_ne q]; exact hm t (by omega)
        · intro t ht w hw
          have ht' : t < S.1 + 1 := ht
          have h5' := p1.1.1.1
          rw [r3]
          show pRc _ _ _ (τ2.2.1 19 _) (τ2.2.1 (b + 1)) (τ2.2.1 21) _ = pRc _ _ _ _ _ _ _
          rw [n2, c2.2.2.2.2.1, (k2 21 (by unfold twL fa; simp; omega)).2]
          refine pRc_eq (fun q => ?_)
          exact hr t (by omega) w hw
        · rw [(k3 _ (by omega) (by omega) (by unfold fa; omega)).1, (k3 _ (by unfold fa; omega) (by unfold fa; omega) (by unfold fa; omega)).1]; exact mk
    · have e : pDo P u S = (-6, S) := by unfold pDo; rw [if_neg h3, if_neg ho]
      rw [e]
      refine ⟨τ2, a, b, ?_, ?_, ?_⟩
      · unfold m_Ob_makeOne
        simp (disch := first | assumption | rfl | decide | omega) only [↓ckd_lay, ↓bd_gI, ↓bd_gL, ↓bd_pI, ↓bd_pL, ↓bd_pZ, ↓bd_now, ↓bd_next, ↓bd_ldR3, ↓bd_ldR4, ↓ap_ite, ↓ap_rt, ↓ap_lt, ↓rz_0, ↓rz_1, rz_bi, ↓gr_1_0, ↓gr_1_1, ↓gr_1_2, ↓gr_1_3, ↓gr_1_4, ↓gr_1_5, ↓gr_1_6, ↓gr_15_0, ↓gr_15_1, ↓gr_15_2, ↓gr_15_3, ↓gr_20_0, ↓gr_20_1, ↓gr_23_0, ↓gr_23_1, ↓gr_23_2, ↓gr_27_0, ↓gr_27_1, ↓gr_27_2, ↓gr_29_0, ↓gr_29_1, ↓gr_29_2, ↓gr_29_3, ↓gr_29_4, ↓gr_33_0, ↓gr_33_1, ↓gr_now, ↓gr_next, h15, ln_0, ln_1, ln_2, ln_3, ln_4, ln_5, ln_6, ln_7, ln_8, ln_10, ln_11, ln_12, ln_13, ln_15, ln_16, ln_30, ln_60, ln_256, ln_300, ln_400, ln_500, ln_1023, ln_1024, nl_0, nl_1, nl_2, nl_3, nl_4, nl_5, nl_6, nl_7, nl_8, nl_10, nl_11, nl_12, nl_13, nl_15, nl_16, nl_30, nl_60, nl_256, nl_300, nl_400, nl_500, nl_1023, nl_1024, tn_0, tn_1, tn_2, tn_3, tn_4, tn_5, tn_6, tn_7, tn_8, tn_10, tn_11, tn_12, tn_13, tn_15, tn_16, tn_30, tn_60, tn_256, tn_300, tn_400, tn_500, tn_1023, tn_1024, nt_0, nt_1, nt_2, nt_3, nt_4, nt_5, nt_6, nt_7, nt_8, nt_10, nt_11, nt_12, nt_13, nt_15, nt_16, nt_30, nt_60, nt_256, nt_300, nt_400, nt_500, nt_1023, nt_1024, ne_0, ne_1, ne_2, ne_3, ne_4, ne_5, ne_6, ne_7, ne_8, ne_10, ne_11, ne_12, ne_13, ne_15, ne_16, ne_30, ne_60, ne_256, ne_300, ne_400, ne_500, ne_1023, ne_1024, le_nn, lt_nn, eq_nn, h15', if_true, hnow, hnext]
        rw [bd_eq e1]
        simp (disch := first | assumption | rfl | decide | omega) only [↓ckd_lay, ↓bd_gI, ↓bd_gL, ↓bd_pI, ↓bd_pL, ↓bd_pZ, ↓bd_now, ↓bd_next, ↓bd_ldR3, ↓bd_ldR4, ↓ap_ite, ↓ap_rt, ↓ap_lt, ↓rz_0, ↓rz_1, rz_bi, ↓gr_1_0, ↓gr_1_1, ↓gr_1_2, ↓gr_1_3, ↓gr_1_4, ↓gr_1_5, ↓gr_1_6, ↓gr_15_0, ↓gr_15_1, ↓gr_15_2, ↓gr_15_3, ↓gr_20_0, ↓gr_20_1, ↓gr_23_0, ↓gr_23_1, ↓gr_23_2, ↓gr_27_0, ↓gr_27_1, ↓gr_27_2, ↓gr_29_0, ↓gr_29_1, ↓gr_29_2, ↓gr_29_3, ↓gr_29_4, ↓gr_33_0, ↓gr_33_1, ↓gr_now, ↓gr_next, hnext1]
        rw [bd_eq e2]
        rw [ap_ite, if_pos (by rw [bi_0]; exact ho), ap_rt]
      · rcases h1.2 with ⟨rfl, rfl⟩ | ⟨rfl, rfl⟩
        · exact (m12.mono (by decide)).p
        · exact (m12.mono (by decide)).p
      · have k2 : ∀ o, o ∉ twL b → τ2.1 o = σ.1 o ∧ τ2.2.1 o = σ.2.1 o := fun o q => m12.1 o q
        refine ⟨⟨m12.2.trans h1.1, h1.2⟩, c1.mod hT m2, ?_, ?_, ?_, ?_, ?_, ?_, ?_, ?_⟩
        · rw [(k2 _ (by unfold twL fa; simp; omega)).2]; exact h5
        · rw [(k2 _ (ha _ (by simp))).2]; exact h7
        · rw [(k2 _ (ha _ (by simp))).2]; exact h9
        · rw [n2]; exact Z30.out p1.1.1 hz
        · rw [(k2 _ (by unfold twL fa; simp; omega)).1]; exact h15
        · rw [(k2 22 (by unfold twL fa; simp; omega)).2]; exact hm
        · rw [(k2 21 (by unfold twL fa; simp; omega)).2]; exact hr
        · rw [(k2 _ (ha _ (by simp))).1, (k2 _ (ha _ (by simp))).1]; exact l2
theorem s_does138 {σ0 : SS} {T : Nat} {l : List Int32} (hl : l.length ≤ 15) (h19 : σ0.1 (fa 81 19) 0 = nI l.length) (hM96 : ∀ i c, l[i]? = some c → σ0.1 96 i = c) (hT : σ0.1 (fa 81 16) 0 = nI T) (hT3 : T < 300) : ∀ (r i n : Nat) (σ : SS), i + r = l.length → r < n → Mod [94, fa 81 16] σ0 σ → σ.1 (fa 81 16) 0 = nI T → (∀ j, j < i → σ.1 94 j = σ0.1 96 j) → ∃ τ, l_Md_does_138 n 81 (nI i) (lay σ) = some (σ0.1 (fa 81 23) 0, lay τ) ∧ Mod [94, fa 81 16] σ0 τ ∧ τ.1 (fa 81 16) 0 = nI (T + 1) ∧ ∀ j c, l[j]? = some c → τ.1 94 j = c
  | r, i, 0, σ, h, hn, hM, ht, hj => by omega
  | 0, i, n + 1, σ, h, hn, hM, ht, hj => by
    have hs' : l.length ≤ i := by omega
    have e19 : σ.1 (fa 81 19) 0 = nI l.length := by rw [hM.i (by decide)]; exact h19
    have e23 : σ.1 (fa 81 23) 0 = σ0.1 (fa 81 23) 0 := by rw [hM.i (by decide)]
    refine ⟨sI σ (fa 81 16) (fun _ => nI (T + 1)), ?_, hM.tr (Mod.I (by simp)), sI_row, fun j c q => ?_⟩
    · show b_Md_does_138 (l_Md_does_138 n) 81 (nI i) (lay σ) = _
      unfold b_Md_does_138
      simp (disch := first | assumption | rfl | decide | omega) only [↓ckd_lay, ↓bd_gI, ↓bd_gL, ↓bd_pI, ↓bd_pL, ↓bd_pZ, ↓bd_now, ↓bd_next, ↓bd_ldR3, ↓bd_ldR4, ↓ap_ite, ↓ap_rt, ↓ap_lt, ↓rz_0, ↓rz_1, rz_bi, ↓gr_81_0, ↓gr_81_1, ↓gr_81_2, ↓gr_81_3, ↓gr_81_4, ↓gr_81_7, ↓gr_81_8, ↓gr_81_9, ↓gr_81_11, ↓gr_81_14, ↓gr_81_17, ↓gr_81_18, ↓gr_81_20, ↓gr_81_21, ↓gr_81_25, ↓gr_81_26, ↓gr_81_27, ↓gr_81_28, ↓gr_81_29, ↓gr_81_31, ↓gr_81_32, ↓gr_81_33, ↓gr_81_34, ↓gr_81_36, ↓gr_81_39, e19, ln_0, ln_1, ln_2, ln_3, ln_4, ln_5, ln_6, ln_7, ln_8, ln_10, ln_11, ln_12, ln_13, ln_15, ln_16, ln_30, ln_60, ln_256, ln_300, ln_400, ln_500, ln_1023, ln_1024, nl_0, nl_1, nl_2, nl_3, nl_4, nl_5, nl_6, nl_7, nl_8, nl_10, nl_11, nl_12, nl_13, nl_15, nl_16, nl_30, nl_60, nl_256, nl_300, nl_400, nl_500, nl_1023, nl_1024, tn_0, tn_1, tn_2, tn_3, tn_4, tn_5, tn_6, tn_7, tn_8, tn_10, tn_11, tn_12, tn_13, tn_15, tn_16, tn_30, tn_60, tn_256, tn_300, tn_400, tn_500, tn_1023, tn_1024, nt_0, nt_1, nt_2, nt_3, nt_4, nt_5, nt_6, nt_7, nt_8, nt_10, nt_11, nt_12, nt_13, nt_15, nt_16, nt_30, nt_60, nt_256, nt_300, nt_400, nt_500, nt_1023, nt_1024, ne_0, ne_1, ne_2, ne_3, ne_4, ne_5, ne_6, ne_7, ne_8, ne_10, ne_11, ne_12, ne_13, ne_15, ne_16, ne_30, ne_60, ne_256, ne_300, ne_400, ne_500, ne_1023, ne_1024, le_nn, lt_nn, eq_nn, hs', if_true, ht, na_1, sI_ne, e23]
    · have : j < l.length := (List.getElem?_eq_some_iff.mp q).1
      rw [sI_ne (by decide), hj j (by omega)]
      exact hM96 j c q
  | r + 1, i, n + 1, σ, h, hn, hM, ht, hj => by
    have hs' : ¬ l.length ≤ i := by omega
    have e19 : σ.1 (fa 81 19) 0 = nI l.length := by rw [hM.i (by decide)]; exact h19
    obtain ⟨τ, e, d⟩ := s_does138 hl h19 hM96 hT hT3 r (i + 1) n (sI σ 94 (va_up (σ.1 94) i (σ.1 96 i))) (by omega) (by omega) (hM.tr (Mod.I (by simp))) (by rw [sI_ne (by decide)]; exact ht) (fun j q => by
      rw [sI_same]
      by_cases q2 : j = i
      · subst q2; rw [up_same, hM.i (by decide)]
      · rw [up_ne q2]; exact hj j (by omega))
    refine ⟨τ, ?_, d⟩
    show b_Md_does_138 (l_Md_does_138 n) 81 (nI i) (lay σ) = _
    unfold b_Md_does_138
    simp (disch := first | assumption | rfl | decide | omega) only [↓ckd_lay, ↓bd_gI, ↓bd_gL, ↓bd_pI, ↓bd_pL, ↓bd_pZ, ↓bd_now, ↓bd_next, ↓bd_ldR3, ↓bd_ldR4, ↓ap_ite, ↓ap_rt, ↓ap_lt, ↓rz_0, ↓rz_1, rz_bi, ↓gr_81_0, ↓gr_81_1, ↓gr_81_2, ↓gr_81_3, ↓gr_81_4, ↓gr_81_7, ↓gr_81_8, ↓gr_81_9, ↓gr_81_11, ↓gr_81_14, ↓gr_81_17, ↓gr_81_18, ↓gr_81_20, ↓gr_81_21, ↓gr_81_25, ↓gr_81_26, ↓gr_81_27, ↓gr_81_28, ↓gr_81_29, ↓gr_81_31, ↓gr_81_32, ↓gr_81_33, ↓gr_81_34, ↓gr_81_36, ↓gr_81_39, e19, ln_0, ln_1, ln_2, ln_3, ln_4, ln_5, ln_6, ln_7, ln_8, ln_10, ln_11, ln_12, ln_13, ln_15, ln_16, ln_30, ln_60, ln_256, ln_300, ln_400, ln_500, ln_1023, ln_1024, nl_0, nl_1, nl_2, nl_3, nl_4, nl_5, nl_6, nl_7, nl_8, nl_10, nl_11, nl_12, nl_13, nl_15, nl_16, nl_30, nl_60, nl_256, nl_300, nl_400, nl_500, nl_1023, nl_1024, tn_0, tn_1, tn_2, tn_3, tn_4, tn_5, tn_6, tn_7, tn_8, tn_10, tn_11, tn_12, tn_13, tn_15, tn_16, tn_30, tn_60, tn_256, tn_300, tn_400, tn_500, tn_1023, tn_1024, nt_0, nt_1, nt_2, nt_3, nt_4, nt_5, nt_6, nt_7, nt_8, nt_10, nt_11, nt_12, nt_13, nt_15, nt_16, nt_30, nt_60, nt_256, nt_300, nt_400, nt_500, nt_1023, nt_1024, ne_0, ne_1, ne_2, ne_3, ne_4, ne_5, ne_6, ne_7, ne_8, ne_10, ne_11, ne_12, ne_13, ne_15, ne_16, ne_30, ne_60, ne_256, ne_300, ne_400, ne_500, ne_1023, ne_1024, le_nn, lt_nn, eq_nn, hs', if_false, ↓la_94, ↓st_94, ↓la_96, ↓st_96, na_1]
    exact e
theorem s_does80 {σ0 : SS} {T S : Nat} {l : List Int32} (hS : σ0.1 (fa 81 6) 0 = nI S) (hS5 : S ≤ 5) (hl : l.length ≤ 15) (hM96 : HasM (σ0.1 96) (σ0.1 (fa 81 24) 0) l) (hT : σ0.1 (fa 81 16) 0 = nI T) (hT3 : T < 300) : ∀ (r i n : Nat) (σ : SS), i + r = 5 → r < n → Mod [93] σ0 σ → ∃ τ, l_Md_does_80 n 81 (nI i) (lay σ) = some (σ0.1 (fa 81 23) 0, lay τ) ∧ Mod [93, 94, fa 81 19, fa 81 16] σ0 τ ∧ τ.1 (fa 81 16) 0 = nI (T + 1) ∧ HasM (τ.1 94) (τ.1 (fa 81 19) 0) l ∧ (∀ k, k < 7 * T + 2 + i → τ.2.1 93 k = σ.2.1 93 k) ∧ ∀ s, i ≤ s → s < 5 → s < S → τ.2.1 93 (7 * T + 2 + s) = σ0.2.1 91 (6 * s)
  | r, i, 0, σ, h, hn, hM => by omega
  | 0, i, n + 1, σ, h, hn, hM => by
    have hs' : 5 ≤ i := by omega
    have e24 : σ.1 (fa 81 24) 0 = nI l.length := by rw [hM.i (by decide)]; exact hM96.1
    obtain ⟨τ, e, m, t, k⟩ := s_does138 (σ0 := sI σ (fa 81 19) (fun _ => nI l.length)) hl sI_row (fun i c q => by rw [sI_ne (by decide), hM.i (by decide)]; exact hM96.2 i c q) (by rw [sI_ne (by decide), hM.i (by decide)]; exact hT) hT3 l.length 0 FU (sI σ (fa 81 19) (fun _ => nI l.length)) (by omega) (by unfold FU; omega) Mod.rf (by rw [sI_ne (by decide), hM.i (by decide)]; exact hT) (fun j q => by omega)
    rw [sI_ne (by decide), hM.i (by decide)] at e
    refine ⟨τ, ?_, (hM.mono (by simp)).tr ((Mod.I (by simp)).tr (m.mono (by simp))), t, ⟨?_, k⟩, fun k q => ?_, fun s q1 q2 => by omega⟩
    · show b_Md_does_80 (l_Md_does_80 n) 81 (nI i) (lay σ) = _
      unfold b_Md_does_80
      simp (disch := first | assumption | rfl | decide | omega) only [↓ckd_lay, ↓bd_gI, ↓bd_gL, ↓bd_pI, ↓bd_pL, ↓bd_pZ, ↓bd_now, ↓bd_next, ↓bd_ldR3, ↓bd_ldR4, ↓ap_ite, ↓ap_rt, ↓ap_lt, ↓rz_0, ↓rz_1, rz_bi, ↓gr_81_0, ↓gr_81_1, ↓gr_81_2, ↓gr_81_3, ↓gr_81_4, ↓gr_81_7, ↓gr_81_8, ↓gr_81_9, ↓gr_81_11, ↓gr_81_14, ↓gr_81_17, ↓gr_81_18, ↓gr_81_20, ↓gr_81_21, ↓gr_81_25, ↓gr_81_26, ↓gr_81_27, ↓gr_81_28, ↓gr_81_29, ↓gr_81_31, ↓gr_81_32, ↓gr_81_33, ↓gr_81_34, ↓gr_81_36, ↓gr_81_39, ln_0, ln_1, ln_2, ln_3, ln_4, ln_5, ln_6, ln_7, ln_8, ln_10, ln_11, ln_12, ln_13, ln_15, ln_16, ln_30, ln_60, ln_256, ln_300, ln_400, ln_500, ln_1023, ln_1024, nl_0, nl_1, nl_2, nl_3, nl_4, nl_5, nl_6, nl_7, nl_8, nl_10, nl_11, nl_12, nl_13, nl_15, nl_16, nl_30, nl_60, nl_256, nl_300, nl_400, nl_500, nl_1023, nl_1024, tn_0, tn_1, tn_2, tn_3, tn_4, tn_5, tn_6, tn_7, tn_8, tn_10, tn_11, tn_12, tn_13, tn_15, tn_16, tn_30, tn_60, tn_256, tn_300, tn_400, tn_500, tn_1023, tn_1024, nt_0, nt_1, nt_2, nt_3, nt_4, nt_5, nt_6, nt_7, nt_8, nt_10, nt_11, nt_12, nt_13, nt_15, nt_16, nt_30, nt_60, nt_256, nt_300, nt_400, nt_500, nt_1023, nt_1024, ne_0, ne_1, ne_2, ne_3, ne_4, ne_5, ne_6, ne_7, ne_8, ne_10, ne_11, ne_12, ne_13, ne_15, ne_16, ne_30, ne_60, ne_256, ne_300, ne_400, ne_500, ne_1023, ne_1024, le_nn, lt_nn, eq_nn, hs', if_true, e24]
      exact e
    · rw [m.i (by decide)]; exact sI_row
    · rw [m.l (by decide)]; rfl
  | r + 1, i, n + 1, σ, h, hn, hM => by
    have hs' : ¬ 5 ≤ i := by omega
    have eT : σ.1 (fa 81 16) 0 = nI T := by rw [hM.i (by decide)]; exact hT
    have eS : σ.1 (fa 81 6) 0 = nI S := by rw [hM.i (by decide)]; exact hS
    have eN : σ.2.1 91 = σ0.2.1 91 := by rw [hM.l (by decide)]
    by_cases hq : S ≤ i
    · obtain ⟨τ, e, m, t, k, w1, w2⟩ := s_does80 hS hS5 hl hM96 hT hT3 r (i + 1) n (sL σ 93 (va_up (σ.2.1 93) (7 * T + 2 + i) 0)) (by omega) (by omega) (hM.tr (Mod.L (by simp)))
      refine ⟨τ, ?_, m, t, k, fun k q => ?_, fun s q1 q2 q3 => by omega⟩
      · show b_Md_does_80 (l_Md_does_80 n) 81 (nI i) (lay σ) = _
        unfold b_Md_does_80
        simp (disch := first | assumption | rfl | decide | omega) only [↓ckd_lay, ↓bd_gI, ↓bd_gL, ↓bd_pI, ↓bd_pL, ↓bd_pZ, ↓bd_now, ↓bd_next, ↓bd_ldR3, ↓bd_ldR4, ↓ap_ite, ↓ap_rt, ↓ap_lt, ↓rz_0, ↓rz_1, rz_bi, ↓gr_81_0, ↓gr_81_1, ↓gr_81_2, ↓gr_81_3, ↓gr_81_4, ↓gr_81_7, ↓gr_81_8, ↓gr_81_9, ↓gr_81_11, ↓gr_81_14, ↓gr_81_17, ↓gr_81_18, ↓gr_81_20, ↓gr_81_21, ↓gr_81_25, ↓gr_81_26, ↓gr_81_27, ↓gr_81_28, ↓gr_81_29, ↓gr_81_31, ↓gr_81_32, ↓gr_81_33, ↓gr_81_34, ↓gr_81_36, ↓gr_81_39, ln_0, ln_1, ln_2, ln_3, ln_4, ln_5, ln_6, ln_7, ln_8, ln_10, ln_11, ln_12, ln_13, ln_15, ln_16, ln_30, ln_60, ln_256, ln_300, ln_400, ln_500, ln_1023, ln_1024, nl_0, nl_1, nl_2, nl_3, nl_4, nl_5, nl_6, nl_7, nl_8, nl_10, nl_11, nl_12, nl_13, nl_15, nl_16, nl_30, nl_60, nl_256, nl_300, nl_400, nl_500, nl_1023, nl_1024, tn_0, tn_1, tn_2, tn_3, tn_4, tn_5, tn_6, tn_7, tn_8, tn_10, tn_11, tn_12, tn_13, tn_15, tn_16, tn_30, tn_60, tn_256, tn_300, tn_400, tn_500, tn_1023, tn_1024, nt_0, nt_1, nt_2, nt_3, nt_4, nt_5, nt_6, nt_7, nt_8, nt_10, nt_11, nt_12, nt_13, nt_15, nt_16, nt_30, nt_60, nt_256, nt_300, nt_400, nt_500, nt_1023, nt_1024, ne_0, ne_1, ne_2, ne_3, ne_4, ne_5, ne_6, ne_7, ne_8, ne_10, ne_11, ne_12, ne_13, ne_15, ne_16, ne_30, ne_60, ne_256, ne_300, ne_400, ne_500, ne_1023, ne_1024, le_nn, lt_nn, eq_nn, hs', hq, if_false, if_true, eT, eS, na_0, na_1, na_2, na_3, na_4, na_5, na_6, na_7, na_8, na_10, na_11, na_12, na_13, na_15, na_16, na_30, na_60, na_300, an_0, an_1, an_2, an_3, an_4, an_5, an_6, an_7, an_8, an_10, an_11, an_12, an_13, an_15, an_16, an_30, an_60, an_300, nm_0, nm_1, nm_2, nm_3, nm_4, nm_5, nm_6, nm_7, nm_8, nm_10, nm_11, nm_12, nm_13, nm_15, nm_16, nm_30, nm_60, nm_300, mn_0, mn_1, mn_2, mn_3, mn_4, mn_5, mn_6, mn_7, mn_8, mn_10, mn_11, mn_12, mn_13, mn_15, mn_16, mn_30, mn_60, mn_300, nI_add, pk_mul, ↓la_93, ↓st_93]
        exact e
      · rw [w1 k (by omega), sL_same, up_ne (by omega)]
    · obtain ⟨τ, e, m, t, k, w1, w2⟩ := s_does80 hS hS5 hl hM96 hT hT3 r (i + 1) n (sL σ 93 (va_up (σ.2.1 93) (7 * T + 2 + i) (σ0.2.1 91 (6 * i)))) (by omega) (by omega) (hM.tr (Mod.L (by simp)))
      refine ⟨τ, ?_, m, t, k, fun k q => ?_, fun s q1 q2 q3 => ?_⟩
      · show b_Md_does_80 (l_Md_does_80 n) 81 (nI i) (lay σ) = _
        unfold b_Md_does_80
        simp (disch := first | assumption | rfl | decide | omega) only [↓ckd_lay, ↓bd_gI, ↓bd_gL, ↓bd_pI, ↓bd_pL, ↓bd_pZ, ↓bd_now, ↓bd_next, ↓bd_ldR3, ↓bd_ldR4, ↓ap_ite, ↓ap_rt, ↓ap_lt, ↓rz_0, ↓rz_1, rz_bi, ↓gr_81_0, ↓gr_81_1, ↓gr_81_2, ↓gr_81_3, ↓gr_81_4, ↓gr_81_7, ↓gr_81_8, ↓gr_81_9, ↓gr_81_11, ↓gr_81_14, ↓gr_81_17, ↓gr_81_18, ↓gr_81_20, ↓gr_81_21, ↓gr_81_25, ↓gr_81_26, ↓gr_81_27, ↓gr_81_28, ↓gr_81_29, ↓gr_81_31, ↓gr_81_32, ↓gr_81_33, ↓gr_81_34, ↓gr_81_36, ↓gr_81_39, ln_0, ln_1, ln_2, ln_3, ln_4, ln_5, ln_6, ln_7, ln_8, ln_10, ln_11, ln_12, ln_13, ln_15, ln_16, ln_30, ln_60, ln_256, ln_300, ln_400, ln_500, ln_1023, ln_1024, nl_0, nl_1, nl_2, nl_3, nl_4, nl_5, nl_6, nl_7, nl_8, nl_10, nl_11, nl_12, nl_13, nl_15, nl_16, nl_30, nl_60, nl_256, nl_300, nl_400, nl_500, nl_1023, nl_1024, tn_0, tn_1, tn_2, tn_3, tn_4, tn_5, tn_6, tn_7, tn_8, tn_10, tn_11, tn_12, tn_13, tn_15, tn_16, tn_30, tn_60, tn_256, tn_300, tn_400, tn_500, tn_1023, tn_1024, nt_0, nt_1, nt_2, nt_3, nt_4, nt_5, nt_6, nt_7, nt_8, nt_10, nt_11, nt_12, nt_13, nt_15, nt_16, nt_30, nt_60, nt_256, nt_300, nt_400, nt_500, nt_1023, nt_1024, ne_0, ne_1, ne_2, ne_3, ne_4, ne_5, ne_6, ne_7, ne_8, ne_10, ne_11, ne_12, ne_13, ne_15, ne_16, ne_30, ne_60, ne_256, ne_300, ne_400, ne_500, ne_1023, ne_1024, le_nn, lt_nn, eq_nn, hs', hq, if_false, eT, eS, na_0, na_1, na_2, na_3, na_4, na_5, na_6, na_7, na_8, na_10, na_11, na_12, na_13, na_15, na_16, na_30, na_60, na_300, an_0, an_1, an_2, an_3, an_4, an_5, an_6, an_7, an_8, an_10, an_11, an_12, an_13, an_15, an_16, an_30, an_60, an_300, nm_0, nm_1, nm_2, nm_3, nm_4, nm_5, nm_6, nm_7, nm_8, nm_10, nm_11, nm_12, nm_13, nm_15, nm_16, nm_30, nm_60, nm_300, mn_0, mn_1, mn_2, mn_3, mn_4, mn_5, mn_6, mn_7, mn_8, mn_10, mn_11, mn_12, mn_13, mn_15, mn_16, mn_30, mn_60, mn_300, nI_add, pk_mul, ↓la_91, ↓st_91, ↓la_93, ↓st_93, eN]
        exact e
      · rw [w1 k (by omega), sL_same, up_ne (by omega)]
      · by_cases q : s = i
        · subst q; rw [w1 _ (by omega), sL_same, up_same]
        · exact w2 s (by omega) q2 q3
