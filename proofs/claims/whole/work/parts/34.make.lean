/-! A step of a twin of the class. -/
def isGr (y : Int64) : Bool := decide (1125899906842624 ≤ y) || decide (y ≤ -1125899906842624)
theorem s_isGreat {y : Int64} {σ : SS} : m_Tw_isGreat y (lay σ) = some (bi (isGr y = true), lay σ) := by
  unfold m_Tw_isGreat bi isGr
  simp only [ap_ite, rz_0, rz_1]
  by_cases h : 1125899906842624 ≤ y
  · simp [h]
  · by_cases h2 : -1125899906842624 < y
    · have : ¬ y ≤ -1125899906842624 := by rw [Int64.not_le]; exact h2
      simp [h, h2, this]
    · have : y ≤ -1125899906842624 := by rw [← Int64.not_lt]; exact h2
      simp [h, h2, this]
theorem q_isGreat {α : Type} {y : Int64} {σ : SS} {f : Int32 → M α} : bd (m_Tw_isGreat y) f (lay σ) = f (bi (isGr y = true)) (lay σ) := bd_eq s_isGreat
/-- all stages take, from s on, r of them -/
def pGo (ks : Nat → Int32) (fs : Nat → Int64) (ss : Nat → Int32) (v u : Int64) : Nat → Nat → Int64 → TT → Bool × TT
  | 0, _, _, t => (true, t)
  | r + 1, s, x, t => if isGr (pNum (ks s) (fs s) (ss s) s x v u t.1 (6 * s)) = true ∨ isGr (pNum (ks s) (fs s) (ss s) s x v u t.1 (6 * s + 1)) = true then (false, (pNum (ks s) (fs s) (ss s) s x v u t.1, t.2 ++ pMrk (ks s)))
    else pGo ks fs ss v u r (s + 1) (pNum (ks s) (fs s) (ss s) s x v u t.1 (6 * s)) (pNum (ks s) (fs s) (ss s) s x v u t.1, t.2 ++ pMrk (ks s))
theorem TS.near {σ0 σ : SS} {a : Nat} {N : Nat → Int64} {l : List Int32} (h : TS σ0 a σ N l) (hT : IsTw a) {o : Nat} (ho : o < 35 ∨ (200 ≤ o ∧ o < 1950)) : σ.1 o = σ0.1 o ∧ σ.2.1 o = σ0.2.1 o := by
  refine h.1.1 o ?_
  have := hT.2.2.2.2.2.2
  unfold fa
  simp
  omega
theorem TS.now {σ0 σ : SS} {a : Nat} {N : Nat → Int64} {l : List Int32} (h : TS σ0 a σ N l) : TS σ a σ N l := ⟨Mod.rf, h.2⟩
theorem TS.then {σ0 σ τ : SS} {a : Nat} {N N' : Nat → Int64} {l l' : List Int32} (h : TS σ0 a σ N l) (g : TS σ a τ N' l') : TS σ0 a τ N' l' := ⟨h.1.tr g.1, g.2⟩
theorem s_makeGo {σ0 : SS} {a S : Nat} {u v : Int64} (hT : IsTw a) (hS : σ0.1 (fa 15 4) 0 = nI S) (hS5 : S ≤ 5) : ∀ (r s n : Nat) (σ : SS) (x : Int64) (N : Nat → Int64) (l : List Int32), s + r = S → l.length ≤ 3 * s → TS σ0 a σ N l → r < n →
    ∃ τ, l_Tw_makeStep_80 n a u v x (nI s) (lay σ) = some (bi ((pGo (σ0.1 16) (σ0.2.1 17) (σ0.1 18) v u r s x (N, l)).1 = true), lay τ) ∧ TS σ0 a τ (pGo (σ0.1 16) (σ0.2.1 17) (σ0.1 18) v u r s x (N, l)).2.1 (pGo (σ0.1 16) (σ0.2.1 17) (σ0.1 18) v u r s x (N, l)).2.2
  | r, s, 0, σ, x, N, l, hr, hl, t, hn => by omega
  | 0, s, n + 1, σ, x, N, l, hr, hl, t, hn => by
    have h6 := hT.1
    refine ⟨σ, ?_, t⟩
    show b_Tw_makeStep_80 (l_Tw_makeStep_80 n) a u v x (nI s) (lay σ) = _
    unfold b_Tw_makeStep_80
    simp (disch := first | assumption | rfl | decide | omega) only [↓ckd_lay, ↓bd_gI, ↓bd_gL, ↓bd_pI, ↓bd_pL, ↓bd_pZ, ↓bd_now, ↓bd_next, ↓bd_ldR3, ↓bd_ldR4, ↓ap_ite, ↓ap_rt, ↓ap_lt, ↓rz_0, ↓rz_1, rz_bi, ↓tg0 hT, ↓tg1 hT, ↓tg2 hT, ↓tld hT, ↓tst hT, ↓tsm hT, ↓bd_ldv, (t.near hT (by decide : fa 15 4 < 35 ∨ (200 ≤ fa 15 4 ∧ fa 15 4 < 1950))).1, hS, ln_0, ln_1, ln_2, ln_3, ln_4, ln_5, ln_6, ln_7, ln_8, ln_10, ln_11, ln_12, ln_13, ln_15, ln_16, ln_30, ln_60, ln_256, ln_300, ln_400, ln_500, ln_1023, ln_1024, nl_0, nl_1, nl_2, nl_3, nl_4, nl_5, nl_6, nl_7, nl_8, nl_10, nl_11, nl_12, nl_13, nl_15, nl_16, nl_30, nl_60, nl_256, nl_300, nl_400, nl_500, nl_1023, nl_1024, tn_0, tn_1, tn_2, tn_3, tn_4, tn_5, tn_6, tn_7, tn_8, tn_10, tn_11, tn_12, tn_13, tn_15, tn_16, tn_30, tn_60, tn_256, tn_300, tn_400, tn_500, tn_1023, tn_1024, nt_0, nt_1, nt_2, nt_3, nt_4, nt_5, nt_6, nt_7, nt_8, nt_10, nt_11, nt_12, nt_13, nt_15, nt_16, nt_30, nt_60, nt_256, nt_300, nt_400, nt_500, nt_1023, nt_1024, ne_0, ne_1, ne_2, ne_3, ne_4, ne_5, ne_6, ne_7, ne_8, ne_10, ne_11, ne_12, ne_13, ne_15, ne_16, ne_30, ne_60, ne_256, ne_300, ne_400, ne_500, ne_1023, ne_1024, le_nn, lt_nn, eq_nn]
    rw [if_pos (by omega)]
    simp [pGo, bi]
  | r + 1, s, n + 1, σ, x, N, l, hr, hl, t, hn => by
    have h6 := hT.1
    show ∃ τ, b_Tw_makeStep_80 (l_Tw_makeStep_80 n) a u v x (nI s) (lay σ) = _ ∧ _
    unfold b_Tw_makeStep_80
    simp (disch := first | assumption | rfl | decide | omega) only [↓ckd_lay, ↓bd_gI, ↓bd_gL, ↓bd_pI, ↓bd_pL, ↓bd_pZ, ↓bd_now, ↓bd_next, ↓bd_ldR3, ↓bd_ldR4, ↓ap_ite, ↓ap_rt, ↓ap_lt, ↓rz_0, ↓rz_1, rz_bi, ↓tg0 hT, ↓tg1 hT, ↓tg2 hT, ↓tld hT, ↓tst hT, ↓tsm hT, ↓bd_ldv, (t.near hT (by decide : fa 15 4 < 35 ∨ (200 ≤ fa 15 4 ∧ fa 15 4 < 1950))).1, hS, ln_0, ln_1, ln_2, ln_3, ln_4, ln_5, ln_6, ln_7, ln_8, ln_10, ln_11, ln_12, ln_13, ln_15, ln_16, ln_30, ln_60, ln_256, ln_300, ln_400, ln_500, ln_1023, ln_1024, nl_0, nl_1, nl_2, nl_3, nl_4, nl_5, nl_6, nl_7, nl_8, nl_10, nl_11, nl_12, nl_13, nl_15, nl_16, nl_30, nl_60, nl_256, nl_300, nl_400, nl_500, nl_1023, nl_1024, tn_0, tn_1, tn_2, tn_3, tn_4, tn_5, tn_6, tn_7, tn_8, tn_10, tn_11, tn_12, tn_13, tn_15, tn_16, tn_30, tn_60, tn_256, tn_300, tn_400, tn_500, tn_1023, tn_1024, nt_0, nt_1, nt_2, nt_3, nt_4, nt_5, nt_6, nt_7, nt_8, nt_10, nt_11, nt_12, nt_13, nt_15, nt_16, nt_30, nt_60, nt_256, nt_300, nt_400, nt_500, nt_1023, nt_1024, ne_0, ne_1, ne_2, ne_3, ne_4, ne_5, ne_6, ne_7, ne_8, ne_10, ne_11, ne_12, ne_13, ne_15, ne_16, ne_30, ne_60, ne_256, ne_300, ne_400, ne_500, ne_1023, ne_1024, le_nn, lt_nn, eq_nn]
    rw [if_neg (by omega)]
    obtain ⟨τ, e, t2⟩ := s_takeStage (x := x) (v := v) (u := u) (s := s) hT (by omega) t.now (by omega) rfl
    rw [bd_eq e]
    rw [(t.near hT (Or.inl (by decide : 16 < 35))).1, (t.near hT (Or.inl (by decide : 17 < 35))).2, (t.near hT (Or.inl (by decide : 18 < 35))).1] at t2
    have t3 := t.then t2
    simp (disch := first | assumption | rfl | decide | omega) only [↓ckd_lay, ↓bd_gI, ↓bd_gL, ↓bd_pI, ↓bd_pL, ↓bd_pZ, ↓bd_now, ↓bd_next, ↓bd_ldR3, ↓bd_ldR4, ↓ap_ite, ↓ap_rt, ↓ap_lt, ↓rz_0, ↓rz_1, rz_bi, ↓tg0 hT, ↓tg1 hT, ↓tg2 hT, ↓tld hT, ↓tst hT, ↓tsm hT, ↓bd_ldv, na_0, na_1, na_2, na_3, na_4, na_5, na_6, na_7, na_8, na_10, na_11, na_12, na_13, na_15, na_16, na_30, na_60, na_300, an_0, an_1, an_2, an_3, an_4, an_5, an_6, an_7, an_8, an_10, an_11, an_12, an_13, an_15, an_16, an_30, an_60, an_300, nm_0, nm_1, nm_2, nm_3, nm_4, nm_5, nm_6, nm_7, nm_8, nm_10, nm_11, nm_12, nm_13, nm_15, nm_16, nm_30, nm_60, nm_300, mn_0, mn_1, mn_2, mn_3, mn_4, mn_5, mn_6, mn_7, mn_8, mn_10, mn_11, mn_12, mn_13, mn_15, mn_16, mn_30, mn_60, mn_300, nI_add, pk_mul, Nat.mul_comm s 6, Nat.add_zero, t3.2.1, ↓q_isGreat, bi_0]
    unfold pGo
    generalize pNum (σ0.1 16 s) (σ0.2.1 17 s) (σ0.1 18 s) s x v u N = N' at t3 ⊢
    have hml := pMrk_len (σ0.1 16 s)
    by_cases g1 : isGr (N' (6 * s)) = true
    · refine ⟨τ, ?_, ?_⟩
      · simp [g1, bi]
      · simpa [g1] using t3
    · by_cases g2 : isGr (N' (6 * s + 1)) = true
      · refine ⟨τ, ?_, ?_⟩
        · simp [g1, g2, bi]
        · simpa [g1, g2] using t3
      · obtain ⟨τ2, e2, t4⟩ := s_makeGo hT hS hS5 r (s + 1) n τ (N' (6 * s)) N' (l ++ pMrk (σ0.1 16 s)) (by omega) (by simp; omega) t3 (by omega)
        refine ⟨τ2, ?_, ?_⟩
        · simp only [g1, g2, not_false_eq_true, if_true, or_self, if_false]
          exact e2
        · simpa [g1, g2] using t4
/-- the lot, and the seed behind it -/
def pLot (sp : Nat) (sd : Int64) : Int64 × Int64 := if 0 < sp then
    (((6364136223846793005 * sd + 1442695040888963407).toUInt64 >>> ((33 : Int32).toInt64.toUInt64 &&& Int64.toUInt64 63)).toInt64 - ((6364136223846793005 * sd + 1442695040888963407).toUInt64 >>> ((33 : Int32).toInt64.toUInt64 &&& Int64.toUInt64 63)).toInt64 / (2 * (nI sp).toInt64 + 1) * (2 * (nI sp).toInt64 + 1) - (nI sp).toInt64, 6364136223846793005 * sd + 1442695040888963407)
  else (0, sd)
theorem sp_ne {sp : Nat} (h : sp ≤ 1000000000) : (2 * (nI sp).toInt64 + 1 : Int64) ≠ 0 := by
  rw [nI_l (by omega), lit_lN 2, lit_lN 1, lN_mul, lN_add, lit_lN 0]
  intro e
  have := (pk_lEQ (by omega) (by omega)).mp e
  omega
theorem s_drawLot {σ : SS} {a sp : Nat} (hT : IsTw a) (hsp : σ.1 (fa 15 6) 0 = nI sp) (h : sp ≤ 1000000000) : ∃ τ, m_Tw_drawLot a (lay σ) = some ((pLot sp (σ.2.1 (fa a 4) 0)).1, lay τ) ∧ Mod [fa a 4] σ τ ∧ τ.2.1 (fa a 4) 0 = (pLot sp (σ.2.1 (fa a 4) 0)).2 := by
  have h6 := hT.1
  unfold m_Tw_drawLot pLot
  simp (disch := first | assumption | rfl | decide | omega) only [↓ckd_lay, ↓bd_gI, ↓bd_gL, ↓bd_pI, ↓bd_pL, ↓bd_pZ, ↓bd_now, ↓bd_next, ↓bd_ldR3, ↓bd_ldR4, ↓ap_ite, ↓ap_rt, ↓ap_lt, ↓rz_0, ↓rz_1, rz_bi, ↓tg0 hT, ↓tg1 hT, ↓tg2 hT, ↓tld hT, ↓tst hT, ↓tsm hT, ↓bd_ldv, hsp, ln_0, ln_1, ln_2, ln_3, ln_4, ln_5, ln_6, ln_7, ln_8, ln_10, ln_11, ln_12, ln_13, ln_15, ln_16, ln_30, ln_60, ln_256, ln_300, ln_400, ln_500, ln_1023, ln_1024, nl_0, nl_1, nl_2, nl_3, nl_4, nl_5, nl_6, nl_7, nl_8, nl_10, nl_11, nl_12, nl_13, nl_15, nl_16, nl_30, nl_60, nl_256, nl_300, nl_400, nl_500, nl_1023, nl_1024, tn_0, tn_1, tn_2, tn_3, tn_4, tn_5, tn_6, tn_7, tn_8, tn_10, tn_11, tn_12, tn_13, tn_15, tn_16, tn_30, tn_60, tn_256, tn_300, tn_400, tn_500, tn_1023, tn_1024, nt_0, nt_1, nt_2, nt_3, nt_4, nt_5, nt_6, nt_7, nt_8, nt_10, nt_11, nt_12, nt_13, nt_15, nt_16, nt_30, nt_60, nt_256, nt_300, nt_400, nt_500, nt_1023, nt_1024, ne_0, ne_1, ne_2, ne_3, ne_4, ne_5, ne_6, ne_7, ne_8, ne_10, ne_11, ne_12, ne_13, ne_15, ne_16, ne_30, ne_60, ne_256, ne_300, ne_400, ne_500, ne_1023, ne_1024, le_nn, lt_nn, eq_nn]
  by_cases h0 : 0 < sp
  · have hne := sp_ne h
    refine ⟨sL σ (fa a 4) (fun _ => 6364136223846793005 * σ.2.1 (fa a 4) 0 + 1442695040888963407), ?_, Mod.L (by simp), ?_⟩
    · simp (disch := first | assumption | rfl | decide | omega) only [↓ckd_lay, ↓bd_gI, ↓bd_gL, ↓bd_pI, ↓bd_pL, ↓bd_pZ, ↓bd_now, ↓bd_next, ↓bd_ldR3, ↓bd_ldR4, ↓ap_ite, ↓ap_rt, ↓ap_lt, ↓rz_0, ↓rz_1, rz_bi, ↓tg0 hT, ↓tg1 hT, ↓tg2 hT, ↓tld hT, ↓tst hT, ↓tsm hT, ↓bd_ldv, h0, if_true, sL_1, hsp, sL_same, ↓bd_lrm]
    · simp only [h0, if_true, sL_same]
  · refine ⟨σ, ?_, Mod.rf, ?_⟩
    · simp only [h0, if_false]
    · simp only [h0, if_false]
/-- the level nearest to x: upward while the next one is as near -/
def nearC (lv : Nat → Int64) (x : Int64) : Nat → Nat → Nat
  | 0, k => k
  | r + 1, k => if mabs (lv k - x) < mabs (lv (k + 1) - x) then k else nearC lv x r (k + 1)
theorem nearC_le (lv : Nat → Int64) (x : Int64) : ∀ r k, k ≤ nearC lv x r k ∧ nearC lv x r k ≤ k + r
  | 0, k => ⟨Nat.le_refl _, Nat.le_refl _⟩
  | r + 1, k => by
    unfold nearC
    split
    · omega
    · have := nearC_le lv x r (k + 1)
      omega
theorem s_nearGo {σ : SS} {x : Int64} {n : Nat} (hn : σ.1 (fa 15 5) 0 = nI n) (h16 : n ≤ 16) (h1 : 1 ≤ n) : ∀ (r k m : Nat), k + r + 1 = n → r < m → l_Sp_nearestTo_2 m 15 x (nI k) (lay σ) = some (nI (nearC (σ.2.1 19) x r k), lay σ)
  | r, k, 0, h, hm => by omega
  | 0, k, m + 1, h, hm => by
    show b_Sp_nearestTo_2 (l_Sp_nearestTo_2 m) 15 x (nI k) (lay σ) = _
    unfold b_Sp_nearestTo_2
    simp (disch := first | assumption | rfl | decide | omega) only [↓ckd_lay, ↓bd_gI, ↓bd_gL, ↓bd_pI, ↓bd_pL, ↓bd_pZ, ↓bd_now, ↓bd_next, ↓bd_ldR3, ↓bd_ldR4, ↓ap_ite, ↓ap_rt, ↓ap_lt, ↓rz_0, ↓rz_1, rz_bi, hn, ns_1, ln_0, ln_1, ln_2, ln_3, ln_4, ln_5, ln_6, ln_7, ln_8, ln_10, ln_11, ln_12, ln_13, ln_15, ln_16, ln_30, ln_60, ln_256, ln_300, ln_400, ln_500, ln_1023, ln_1024, nl_0, nl_1, nl_2, nl_3, nl_4, nl_5, nl_6, nl_7, nl_8, nl_10, nl_11, nl_12, nl_13, nl_15, nl_16, nl_30, nl_60, nl_256, nl_300, nl_400, nl_500, nl_1023, nl_1024, tn_0, tn_1, tn_2, tn_3, tn_4, tn_5, tn_6, tn_7, tn_8, tn_10, tn_11, tn_12, tn_13, tn_15, tn_16, tn_30, tn_60, tn_256, tn_300, tn_400, tn_500, tn_1023, tn_1024, nt_0, nt_1, nt_2, nt_3, nt_4, nt_5, nt_6, nt_7, nt_8, nt_10, nt_11, nt_12, nt_13, nt_15, nt_16, nt_30, nt_60, nt_256, nt_300, nt_400, nt_500, nt_1023, nt_1024, ne_0, ne_1, ne_2, ne_3, ne_4, ne_5, ne_6, ne_7, ne_8, ne_10, ne_11, ne_12, ne_13, ne_15, ne_16, ne_30, ne_60, ne_256, ne_300, ne_400, ne_500, ne_1023, ne_1024, le_nn, lt_nn, eq_nn]
    rw [if_pos (by omega)]
    rfl
  | r + 1, k, m + 1, h, hm => by
    show b_Sp_nearestTo_2 (l_Sp_nearestTo_2 m) 15 x (nI k) (lay σ) = _
    unfold b_Sp_nearestTo_2
    simp (disch := first | assumption | rfl | decide | omega) only [↓ckd_lay, ↓bd_gI, ↓bd_gL, ↓bd_pI, ↓bd_pL, ↓bd_pZ, ↓bd_now, ↓bd_next, ↓bd_ldR3, ↓bd_ldR4, ↓ap_ite, ↓ap_rt, ↓ap_lt, ↓rz_0, ↓rz_1, rz_bi, hn, ns_1, ln_0, ln_1, ln_2, ln_3, ln_4, ln_5, ln_6, ln_7, ln_8, ln_10, ln_11, ln_12, ln_13, ln_15, ln_16, ln_30, ln_60, ln_256, ln_300, ln_400, ln_500, ln_1023, ln_1024, nl_0, nl_1, nl_2, nl_3, nl_4, nl_5, nl_6, nl_7, nl_8, nl_10, nl_11, nl_12, nl_13, nl_15, nl_16, nl_30, nl_60, nl_256, nl_300, nl_400, nl_500, nl_1023, nl_1024, tn_0, tn_1, tn_2, tn_3, tn_4, tn_5, tn_6, tn_7, tn_8, tn_10, tn_11, tn_12, tn_13, tn_15, tn_16, tn_30, tn_60, tn_256, tn_300, tn_400, tn_500, tn_1023, tn_1024, nt_0, nt_1, nt_2, nt_3, nt_4, nt_5, nt_6, nt_7, nt_8, nt_10, nt_11, nt_12, nt_13, nt_15, nt_16, nt_30, nt_60, nt_256, nt_300, nt_400, nt_500, nt_1023, nt_1024, ne_0, ne_1, ne_2, ne_3, ne_4, ne_5, ne_6, ne_7, ne_8, ne_10, ne_11, ne_12, ne_13, ne_15, ne_16, ne_30, ne_60, ne_256, ne_300, ne_400, ne_500, ne_1023, ne_1024, le_nn, lt_nn, eq_nn, ↓gr_15_3, ↓la_19, ↓st_19, na_1]
    rw [if_neg (by omega), s_nearGo hn h16 h1 r (k + 1) m (by omega) (by omega)]
    have e : nearC (σ.2.1 19) x (r + 1) k = if mabs (σ.2.1 19 k - x) < mabs (σ.2.1 19 (k + 1) - x) then k else nearC (σ.2.1 19) x r (k + 1) := rfl
    rw [e]
    split <;> rfl
theorem s_nearestTo {σ : SS} {x : Int64} {n : Nat} (hn : σ.1 (fa 15 5) 0 = nI n) (h16 : n ≤ 16) (h1 : 1 ≤ n) : m_Sp_nearestTo 15 x (lay σ) = some (nI (nearC (σ.2.1 19) x (n - 1) 0), lay σ) := by
  unfold m_Sp_nearestTo
  rw [ckd_lay (ci := 5) (o := 15) rfl (by decide)]
  exact s_nearGo hn h16 h1 (n - 1) 0 FU (by omega) (by unfold FU; omega)
/-- a shape: kinds, firsts, seconds, how many stages, levels, how many, the span -/
abbrev SH : Type := (Nat → Int32) × (Nat → Int64) × (Nat → Int32) × Nat × (Nat → Int64) × Nat × Nat
def CShp (σ : SS) (P : SH) : Prop := σ.1 16 = P.1 ∧ σ.2.1 17 = P.2.1 ∧ σ.1 18 = P.2.2.1 ∧ σ.1 (fa 15 4) 0 = nI P.2.2.2.1 ∧ σ.2.1 19 = P.2.2.2.2.1 ∧ σ.1 (fa 15 5) 0 = nI P.2.2.2.2.2.1 ∧ σ.1 (fa 15 6) 0 = nI P.2.2.2.2.2.2
def FitP (P : SH) : Prop := P.2.2.2.1 ≤ 5 ∧ 2 ≤ P.2.2.2.2.2.1 ∧ P.2.2.2.2.2.1 ≤ 16 ∧ P.2.2.2.2.2.2 ≤ 1000000000
def askd (P : SH) (u : Int64) (N : Nat → Int64) : Int64 := if P.2.2.2.1 = 0 then u else N (6 * (P.2.2.2.1 - 1))
/-- which level a step tells (by near) -/
def pTold (near : (Nat → Int64) → Nat → Int64 → Nat) (P : SH) (u : Int64) (N : Nat → Int64) (sd : Int64) : Nat := near P.2.2.2.2.1 P.2.2.2.2.2.1 (askd P u N + (pLot P.2.2.2.2.2.2 sd).1)
def pOut (near : (Nat → Int64) → Nat → Int64 → Nat) (P : SH) (u : Int64) (N : Nat → Int64) (sd : Int64) : Bool × TT := pGo P.1 P.2.1 P.2.2.1 (P.2.2.2.2.1 (pTold near P u N sd)) u P.2.2.2.1 0 u (N, [])
def nC (lv : Nat → Int64) (n : Nat) (x : Int64) : Nat := nearC lv x (n - 1) 0
/-- what a step has left in a twin -/
def TwIs (σ : SS) (a : Nat) (N : Nat → Int64) (l : List Int32) (sd : Int64) (td : Nat) : Prop := σ.2.1 (a + 1) = N ∧ HasM (σ.1 (a + 2)) (σ.1 (fa a 3) 0) l ∧ σ.2.1 (fa a 4) 0 = sd ∧ σ.1 (fa a 5) 0 = nI td
abbrev twL (a : Nat) : List Nat := [a + 1, a + 2, fa a 3, fa a 4, fa a 5]
theorem CShp.mod {σ τ : SS} {P : SH} {a : Nat} (h : CShp σ P) (hT : IsTw a) (hM : Mod (twL a) σ τ) : CShp τ P := by
  have hl := hT.2.2.2.2.2.2
  have key : ∀ o, (o < 35 ∨ (200 ≤ o ∧ o < 1950)) → τ.1 o = σ.1 o ∧ τ.2.1 o = σ.2.1 o := fun o ho => hM.1 o (by unfold twL fa; simp; omega)
  unfold CShp
  rw [(key 16 (by decide)).1, (key 17 (by decide)).2, (key 18 (by decide)).1, (key (fa 15 4) (by decide)).1, (key 19 (by decide)).2, (key (fa 15 5) (by decide)).1, (key (fa 15 6) (by decide)).1]
  exact h
theorem s_make43 {σ : SS} {P : SH} {a : Nat} {u lot q : Int64} (hT : IsTw a) (hP : CShp σ P) (hF : FitP P) (hm : HasM (σ.1 (a + 2)) (σ.1 (fa a 3) 0) []) :
    ∃ τ, m_Tw_makeStep_43 a u lot q (lay σ) = some (bi ((pGo P.1 P.2.1 P.2.2.1 (P.2.2.2.2.1 (nC P.2.2.2.2.1 P.2.2.2.2.2.1 (q + lot))) u P.2.2.2.1 0 u (σ.2.1 (a + 1), [])).1 = true), lay τ) ∧ Mod [a + 1, a + 2, fa a 3, fa a 5] σ τ ∧
      τ.2.1 (a + 1) = (pGo P.1 P.2.1 P.2.2.1 (P.2.2.2.2.1 (nC P.2.2.2.2.1 P.2.2.2.2.2.1 (q + lot))) u P.2.2.2.1 0 u (σ.2.1 (a + 1), [])).2.1 ∧ HasM (τ.1 (a + 2)) (τ.1 (fa a 3) 0) (pGo P.1 P.2.1 P.2.2.1 (P.2.2.2.2.1 (nC P.2.2.2.2.1 P.2.2.2.2.2.1 (q + lot))) u P.2.2.2.1 0 u (σ.2.1 (a + 1), [])).2.2 ∧ τ.1 (fa a 5) 0 = nI (nC P.2.2.2.2.1 P.2.2.2.2.2.1 (q + lot)) := by
  have h6 := hT.1
  have hl := hT.2.2.2.2.2.2
  obtain ⟨f1, f2, f3, f4⟩ := hF
  have hn := s_nearestTo (x := q + lot) hP.2.2.2.2.2.1 f3 (by omega)
  rw [hP.2.2.2.2.1] at hn
  change m_Sp_nearestTo 15 (q + lot) (lay σ) = some (nI (nC P.2.2.2.2.1 P.2.2.2.2.2.1 (q + lot)), lay σ) at hn
  have hb : nC P.2.2.2.2.1 P.2.2.2.2.2.1 (q + lot) < 16 := by
    have := nearC_le P.2.2.2.2.1 (q + lot) (P.2.2.2.2.2.1 - 1) 0
    unfold nC
    omega
  generalize nC P.2.2.2.2.1 P.2.2.2.2.2.1 (q + lot) = k at hn hb ⊢
  unfold m_Tw_makeStep_43
  simp (disch := first | assumption | rfl | decide | omega) only [↓ckd_lay, ↓bd_gI, ↓bd_gL, ↓bd_pI, ↓bd_pL, ↓bd_pZ, ↓bd_now, ↓bd_next, ↓bd_ldR3, ↓bd_ldR4, ↓ap_ite, ↓ap_rt, ↓ap_lt, ↓rz_0, ↓rz_1, rz_bi, ↓tg0 hT, ↓tg1 hT, ↓tg2 hT, ↓tld hT, ↓tst hT, ↓tsm hT, ↓bd_ldv]
  rw [bd_eq hn]
  simp (disch := first | assumption | rfl | decide | omega) only [↓ckd_lay, ↓bd_gI, ↓bd_gL, ↓bd_pI, ↓bd_pL, ↓bd_pZ, ↓bd_now, ↓bd_next, ↓bd_ldR3, ↓bd_ldR4, ↓ap_ite, ↓ap_rt, ↓ap_lt, ↓rz_0, ↓rz_1, rz_bi, ↓tg0 hT, ↓tg1 hT, ↓tg2 hT, ↓tld hT, ↓tst hT, ↓tsm hT, ↓bd_ldv, ↓gr_15_3, ↓la_19, ↓st_19, sI_same, sI_2]
  have hP1 := hP.mod hT (Mod.I (L := twL a) (o := fa a 5) (f := fun _ => nI k) (by simp))
  rw [hP.2.2.2.2.1]
  have t0 : TS (sI σ (fa a 5) (fun _ => nI k)) a (sI σ (fa a 5) (fun _ => nI k)) (σ.2.1 (a + 1)) [] := by
    refine ⟨Mod.rf, rfl, ?_⟩
    rw [sI_ne (by unfold fa; omega), sI_ne (by unfold fa; omega)]
    exact hm
  obtain ⟨τ, e, t⟩ := s_makeGo (u := u) (v := P.2.2.2.2.1 k) hT hP1.2.2.2.1 f1 P.2.2.2.1 0 FU _ u _ _ (by omega) (by simp) t0 (by unfold FU; omega)
  rw [hP1.1, hP1.2.1, hP1.2.2.1] at e t
  refine ⟨τ, e, (Mod.I (by simp)).tr (t.1.mono (by simp)), t.2.1, t.2.2, ?_⟩
  rw [t.1.i (by unfold fa; simp; omega), sI_same]
theorem s_makeStep {σ : SS} {P : SH} {a : Nat} {u : Int64} (hT : IsTw a) (hP : CShp σ P) (hF : FitP P) :
    ∃ τ, m_Tw_makeStep a u (lay σ) = some (bi ((pOut nC P u (σ.2.1 (a + 1)) (σ.2.1 (fa a 4) 0)).1 = true), lay τ) ∧ Mod (twL a) σ τ ∧
      TwIs τ a (pOut nC P u (σ.2.1 (a + 1)) (σ.2.1 (fa a 4) 0)).2.1 (pOut nC P u (σ.2.1 (a + 1)) (σ.2.1 (fa a 4) 0)).2.2 (pLot P.2.2.2.2.2.2 (σ.2.1 (fa a 4) 0)).2 (pTold nC P u (σ.2.1 (a + 1)) (σ.2.1 (fa a 4) 0)) := by
  have h6 := hT.1
  have hl := hT.2.2.2.2.2.2
  have m1 : Mod (twL a) σ (sI σ (fa a 3) (fun _ => 0)) := Mod.I (by simp)
  have p1 := hP.mod hT m1
  obtain ⟨τ1, e1, d1, s1⟩ := s_drawLot (σ := sI σ (fa a 3) (fun _ => 0)) hT p1.2.2.2.2.2.2 hF.2.2.2
  have m2 : Mod (twL a) σ τ1 := m1.tr (d1.mono (by simp))
  have p2 := hP.mod hT m2
  have hN : τ1.2.1 (a + 1) = σ.2.1 (a + 1) := d1.l (by unfold fa; simp; omega)
  have hmk : HasM (τ1.1 (a + 2)) (τ1.1 (fa a 3) 0) [] := by
    rw [d1.i (by unfold fa; simp : fa a 3 ∉ [fa a 4]), sI_same]
    exact HasM.nil
  have hS5 := hF.1
  obtain ⟨τ, e, d, g1, g2, g3⟩ := s_make43 (u := u) (lot := (pLot P.2.2.2.2.2.2 (σ.2.1 (fa a 4) 0)).1) (q := askd P u (σ.2.1 (a + 1))) hT p2 hF hmk
  rw [hN] at e g1 g2
  refine ⟨τ, ?_, m2.tr (d.mono (by simp)), g1, g2, ?_, g3⟩
  · rw [show (pOut nC P u (σ.2.1 (a + 1)) (σ.2.1 (fa a 4) 0)).1 = _ from rfl]
    unfold m_Tw_makeStep
    simp (disch := first | assumption | rfl | decide | omega) only [↓ckd_lay, ↓bd_gI, ↓bd_gL, ↓bd_pI, ↓bd_pL, ↓bd_pZ, ↓bd_now, ↓bd_next, ↓bd_ldR3, ↓bd_ldR4, ↓ap_ite, ↓ap_rt, ↓ap_lt, ↓rz_0, ↓rz_1, rz_bi, ↓tg0 hT, ↓tg1 hT, ↓tg2 hT, ↓tld hT, ↓tst hT, ↓tsm hT, ↓bd_ldv]
    rw [bd_eq e1]
    simp (disch := first | assumption | rfl | decide | omega) only [↓ckd_lay, ↓bd_gI, ↓bd_gL, ↓bd_pI, ↓bd_pL, ↓bd_pZ, ↓bd_now, ↓bd_next, ↓bd_ldR3, ↓bd_ldR4, ↓ap_ite, ↓ap_rt, ↓ap_lt, ↓rz_0, ↓rz_1, rz_bi, ↓tg0 hT, ↓tg1 hT, ↓tg2 hT, ↓tld hT, ↓tst hT, ↓tsm hT, ↓bd_ldv, p2.2.2.2.1, ln_0, ln_1, ln_2, ln_3, ln_4, ln_5, ln_6, ln_7, ln_8, ln_10, ln_11, ln_12, ln_13, ln_15, ln_16, ln_30, ln_60, ln_256, ln_300, ln_400, ln_500, ln_1023, ln_1024, nl_0, nl_1, nl_2, nl_3, nl_4, nl_5, nl_6, nl_7, nl_8, nl_10, nl_11, nl_12, nl_13, nl_15, nl_16, nl_30, nl_60, nl_256, nl_300, nl_400, nl_500, nl_1023, nl_1024, tn_0, tn_1, tn_2, tn_3, tn_4, tn_5, tn_6, tn_7, tn_8, tn_10, tn_11, tn_12, tn_13, tn_15, tn_16, tn_30, tn_60, tn_256, tn_300, tn_400, tn_500, tn_1023, tn_1024, nt_0, nt_1, nt_2, nt_3, nt_4, nt_5, nt_6, nt_7, nt_8, nt_10, nt_11, nt_12, nt_13, nt_15, nt_16, nt_30, nt_60, nt_256, nt_300, nt_400, nt_500, nt_1023, nt_1024, ne_0, ne_1, ne_2, ne_3, ne_4, ne_5, ne_6, ne_7, ne_8, ne_10, ne_11, ne_12, ne_13, ne_15, ne_16, ne_30, ne_60, ne_256, ne_300, ne_400, ne_500, ne_1023, ne_1024, le_nn, lt_nn, eq_nn, sI_2]
    unfold askd at e
    by_cases hS : P.2.2.2.1 = 0
    · rw [if_pos hS] at e
      rw [if_pos hS, e]
      simp only [pOut, pTold, askd, if_pos hS]
    · rw [if_neg hS] at e
      simp (disch := first | assumption | rfl | decide | omega) only [hS, if_false, ns_1, na_0, na_1, na_2, na_3, na_4, na_5, na_6, na_7, na_8, na_10, na_11, na_12, na_13, na_15, na_16, na_30, na_60, na_300, an_0, an_1, an_2, an_3, an_4, an_5, an_6, an_7, an_8, an_10, an_11, an_12, an_13, an_15, an_16, an_30, an_60, an_300, nm_0, nm_1, nm_2, nm_3, nm_4, nm_5, nm_6, nm_7, nm_8, nm_10, nm_11, nm_12, nm_13, nm_15, nm_16, nm_30, nm_60, nm_300, mn_0, mn_1, mn_2, mn_3, mn_4, mn_5, mn_6, mn_7, mn_8, mn_10, mn_11, mn_12, mn_13, mn_15, mn_16, mn_30, mn_60, mn_300, nI_add, pk_mul, ↓tg0 hT, ↓tg1 hT, ↓tg2 hT, ↓tld hT, ↓tst hT, ↓tsm hT, ↓bd_ldv, Nat.add_zero, hN, Nat.mul_comm (P.2.2.2.1 - 1) 6]
      rw [e]
      simp only [pOut, pTold, askd, if_neg hS]
  · rw [d.l (by unfold fa; simp; omega)]
    exact s1
