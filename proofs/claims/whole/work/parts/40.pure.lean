/-! What a step can't do: numbers far off stay; behind a step that is not great none is great; the lot is within the span. -/
section Far
variable {s k : Nat} {N : Nat → Int64}
theorem pAdd_far {x v : Int64} (h : k < 6 * s ∨ 6 * s + 6 ≤ k) : pAdd s x v N k = N k := by
  unfold pAdd
  rw [up_ne (by omega), up_ne (by omega), up_ne (by omega)]
theorem pLeak_far {f : Int64} (h : k < 6 * s ∨ 6 * s + 6 ≤ k) : pLeak s f N k = N k := by
  unfold pLeak
  rw [up_ne (by omega), up_ne (by omega)]
theorem pCut_far {b : Int64} (h : k < 6 * s ∨ 6 * s + 6 ≤ k) : pCut s b N k = N k := by
  unfold pCut
  rw [up_ne (by omega), up_ne (by omega)]
theorem pNum_far {q : Int32} {f : Int64} {c : Int32} {x v u : Int64} (h : k < 6 * s ∨ 6 * s + 6 ≤ k) : pNum q f c s x v u N k = N k := by
  unfold pNum
  split
  · rw [pAdd_far h, pLeak_far h]
  · split
    · rw [pCut_far h, pAdd_far h]
    · split
      · rw [up_ne (by omega), pCut_far h, pAdd_far h]
      · split
        · rw [pAdd_far h, pLeak_far h]
        · rw [pAdd_far h]
end Far
theorem pGo_far {ks : Nat → Int32} {fs : Nat → Int64} {ss : Nat → Int32} {v u : Int64} : ∀ (r s : Nat) (x : Int64) (t : TT) (k : Nat), k < 6 * s ∨ 6 * (s + r) ≤ k → (pGo ks fs ss v u r s x t).2.1 k = t.1 k
  | 0, s, x, t, k, h => rfl
  | r + 1, s, x, t, k, h => by
    have e : pNum (ks s) (fs s) (ss s) s x v u t.1 k = t.1 k := pNum_far (by omega)
    unfold pGo
    split
    · exact e
    · rw [pGo_far r (s + 1) _ _ k (by omega)]
      exact e
theorem pGo_len {ks : Nat → Int32} {fs : Nat → Int64} {ss : Nat → Int32} {v u : Int64} : ∀ (r s : Nat) (x : Int64) (t : TT), (pGo ks fs ss v u r s x t).2.2.length ≤ t.2.length + 3 * r
  | 0, s, x, t => by simp [pGo]
  | r + 1, s, x, t => by
    have hm := pMrk_len (ks s)
    unfold pGo
    split
    · simp; omega
    · have := pGo_len r (s + 1) (pNum (ks s) (fs s) (ss s) s x v u t.1 (6 * s)) (pNum (ks s) (fs s) (ss s) s x v u t.1, t.2 ++ pMrk (ks s)) (ks := ks) (fs := fs) (ss := ss) (v := v) (u := u)
      simp at this ⊢
      omega
theorem pGo_ok {ks : Nat → Int32} {fs : Nat → Int64} {ss : Nat → Int32} {v u : Int64} : ∀ (r s : Nat) (x : Int64) (t : TT), (pGo ks fs ss v u r s x t).1 = true → ∀ i, s ≤ i → i < s + r → ¬ isGr ((pGo ks fs ss v u r s x t).2.1 (6 * i)) = true ∧ ¬ isGr ((pGo ks fs ss v u r s x t).2.1 (6 * i + 1)) = true
  | 0, s, x, t, h, i, h1, h2 => by omega
  | r + 1, s, x, t, h, i, h1, h2 => by
    unfold pGo at h ⊢
    split at h
    · cases h
    · next hg =>
      rw [if_neg hg]
      have hg' := not_or.mp hg
      by_cases hi : i = s
      · subst hi
        rw [pGo_far r (i + 1) _ _ (6 * i) (by omega), pGo_far r (i + 1) _ _ (6 * i + 1) (by omega)]
        exact hg'
      · exact pGo_ok r (s + 1) _ _ h i (by omega) (by omega)
/-- no stage is great -/
def NG (P : SH) (N : Nat → Int64) : Prop := ∀ s, s < P.2.2.2.1 → ¬ isGr (N (6 * s)) = true ∧ ¬ isGr (N (6 * s + 1)) = true
theorem NG.zero {P : SH} : NG P (fun _ => 0) := fun _ _ => ⟨(by decide : ¬ isGr 0 = true), (by decide : ¬ isGr 0 = true)⟩
theorem NG.out {near : (Nat → Int64) → Nat → Int64 → Nat} {P : SH} {u sd : Int64} {N : Nat → Int64} (h : (pOut near P u N sd).1 = true) : NG P (pOut near P u N sd).2.1 := fun s hs => pGo_ok P.2.2.2.1 0 _ _ h s (by omega) (by omega)
theorem Z30.out {near : (Nat → Int64) → Nat → Int64 → Nat} {P : SH} {u sd : Int64} {N : Nat → Int64} (hP : FitP P) (h : Z30 N) : Z30 (pOut near P u N sd).2.1 := fun k hk => by
  have := hP.1
  rw [show (pOut near P u N sd).2.1 k = N k from pGo_far P.2.2.2.1 0 _ _ k (by omega)]
  exact h k hk
theorem pOut_len {near : (Nat → Int64) → Nat → Int64 → Nat} {P : SH} {u sd : Int64} {N : Nat → Int64} (hP : FitP P) : (pOut near P u N sd).2.2.length ≤ 15 := by
  have h1 := pGo_len P.2.2.2.1 0 u (N, []) (ks := P.1) (fs := P.2.1) (ss := P.2.2.1) (v := P.2.2.2.2.1 (pTold near P u N sd)) (u := u)
  have := hP.1
  show (pGo P.1 P.2.1 P.2.2.1 (P.2.2.2.2.1 (pTold near P u N sd)) u P.2.2.2.1 0 u (N, [])).2.2.length ≤ 15
  simp at h1
  omega
theorem lot_in {sp : Nat} {sd : Int64} (h : sp ≤ 1000000000) : -(sp : Int) ≤ (pLot sp sd).1.toInt ∧ (pLot sp sd).1.toInt ≤ sp := by
  unfold pLot
  by_cases h0 : 0 < sp
  · rw [if_pos h0]
    show -(sp : Int) ≤ (_ - _ : Int64).toInt ∧ (_ - _ : Int64).toInt ≤ _
    obtain ⟨n, hn, e⟩ := wb_of (6364136223846793005 * sd + 1442695040888963407)
    rw [e]
    have e33 : (33 : Int32) = nI 33 := rfl
    rw [e33, wb_shr hn (by decide), nI_l (show sp < 2 ^ 31 by omega), lit_lN 2, lit_lN 1, lN_mul, lN_add]
    have hq : n / 2 ^ 33 < 2 ^ 31 := by
      apply Nat.div_lt_of_lt_mul
      omega
    rw [pk_lRem (by omega) (by omega) (by omega)]
    have hm : n / 2 ^ 33 % (2 * sp + 1) < 2 * sp + 1 := Nat.mod_lt _ (by omega)
    have t1 : (lN (n / 2 ^ 33 % (2 * sp + 1))).toInt = ((n / 2 ^ 33 % (2 * sp + 1) : Nat) : Int) := pk_lT (by omega)
    have t2 : (lN sp).toInt = (sp : Int) := pk_lT (by omega)
    rw [toInt_sub64 (by rw [t1]; omega) (by rw [t2]; omega), t1, t2]
    omega
  · rw [if_neg h0]
    have : sp = 0 := by omega
    subst this
    show -((0:Nat):Int) ≤ (0:Int64).toInt ∧ (0:Int64).toInt ≤ ((0:Nat):Int)
    decide
theorem isGr_in {y : Int64} (h : ¬ isGr y = true) : -1125899906842624 < y.toInt ∧ y.toInt < 1125899906842624 := by
  have := (gr_in y).mpr h
  simp only [Int64.le_iff_toInt_le, show (-1125899906842623 : Int64).toInt = -1125899906842623 from rfl, show (1125899906842623 : Int64).toInt = 1125899906842623 from rfl] at this
  omega
theorem told_eq {P : SH} {u sd : Int64} {N : Nat → Int64} (hP : AllP P) (hN : NG P N) (hu : smp u) : pTold nC P u N sd = pTold nR P u N sd := by
  obtain ⟨⟨⟨f1, f2, f3, f4⟩, -⟩, r1, r2⟩ := hP
  unfold pTold
  refine near_eq f2 r1 r2 ?_
  have hl := lot_in (sd := sd) f4
  have ha : -1125899906842624 < (askd P u N).toInt ∧ (askd P u N).toInt < 1125899906842624 := by
    unfold askd
    split
    · unfold smp at hu; omega
    · exact isGr_in (hN _ (by omega)).1
  rw [toInt_add64 (by omega) (by omega)]
  omega
theorem out_eq {P : SH} {u sd : Int64} {N : Nat → Int64} (hP : AllP P) (hN : NG P N) (hu : smp u) : pOut nC P u N sd = pOut nR P u N sd := by
  unfold pOut
  rw [told_eq hP hN hu]
theorem RunOk.ng {P : SH} {fs sd : Int64} {md : Nat → Int64} {T : Nat} {N : Nat → Int64} (h : RunOk P fs md T N sd) : NG P N := by
  cases T with
  | zero => rw [h.1]; exact NG.zero
  | succ T => obtain ⟨N0, sd0, -, h1, h2, -⟩ := h; rw [h2]; exact NG.out h1
theorem RunOk.z30 {P : SH} {fs : Int64} {md : Nat → Int64} (hP : FitP P) : ∀ {T : Nat} {N : Nat → Int64} {sd : Int64}, RunOk P fs md T N sd → Z30 N
  | 0, N, sd, h => by rw [h.1]; exact fun _ _ => rfl
  | T + 1, N, sd, ⟨N0, sd0, h0, h1, h2, h3⟩ => by rw [h2]; exact Z30.out hP (RunOk.z30 hP h0)
theorem told_lt {P : SH} {u sd : Int64} {N : Nat → Int64} (hP : FitP P) : pTold nR P u N sd < P.2.2.2.2.2.1 := by
  have := nearR_lt P.2.2.2.2.1 (askd P u N + (pLot P.2.2.2.2.2.2 sd).1) (P.2.2.2.2.2.1 - 1) 0 1 (by omega)
  have h2 := hP.2.1
  unfold pTold nR
  omega
/-! Rows copied and emptied. -/
theorem cpy30 {f g : Nat → Int64} (hf : Z30 f) (hg : Z30 g) : va_cpy f g 0 0 30 = f := by
  funext k
  unfold va_cpy
  by_cases h : k < 30
  · rw [if_pos (by omega)]; congr 1; omega
  · rw [if_neg (by omega), hg k (by omega), hf k (by omega)]
theorem s_becomeLike {σ : SS} {a b : Nat} (hT : IsTw a) (hU : IsTw b) (ha : Z30 (σ.2.1 (a + 1))) (hb : Z30 (σ.2.1 (b + 1))) : ∃ τ, m_Tw_becomeLike a b (lay σ) = some ((), lay τ) ∧ Mod [a + 1, fa a 4] σ τ ∧ τ.2.1 (a + 1) = σ.2.1 (b + 1) ∧ τ.2.1 (fa a 4) 0 = σ.2.1 (fa b 4) 0 := by
  have h6 := hT.1
  have g6 := hU.1
  have hl := hT.2.2.2.2.2.2
  have gl := hU.2.2.2.2.2.2
  have n1 : fa b 4 ≠ a + 1 := by unfold fa; omega
  refine ⟨sL (sL σ (a + 1) (σ.2.1 (b + 1))) (fa a 4) (fun _ => σ.2.1 (fa b 4) 0), ?_, (Mod.L (by simp)).tr (Mod.L (by simp)), ?_, ?_⟩
  · unfold m_Tw_becomeLike
    rw [ckd_lay h6 (by decide), tg1 hU, tg1 hT, tg1 hT, bd_alen1 hT.2.1, hT.2.2.1]
    have e := bd_acp (α := Unit) (σ := σ) (o := b + 1) (q := a + 1) (i := 0) (j := 0) (n := 30) (f := fun _ => bd (gL 6 b 4) (fun v5 => bd (pL 6 a 4 v5) (fun _ => rt ()))) hU.2.1 hT.2.1 (by rw [hU.2.2.1]; omega) (by rw [hT.2.2.1]; omega)
    rw [cpy30 hb ha] at e
    refine Eq.trans e ?_
    simp (disch := first | assumption | rfl | decide | omega) only [↓ckd_lay, ↓bd_gI, ↓bd_gL, ↓bd_pI, ↓bd_pL, ↓bd_pZ, ↓bd_now, ↓bd_next, ↓bd_ldR3, ↓bd_ldR4, ↓ap_ite, ↓ap_rt, ↓ap_lt, ↓rz_0, ↓rz_1, rz_bi, sL_ne]
  · rw [sL_ne (by unfold fa; omega), sL_same]
  · exact sL_row
theorem fill30 {f : Nat → Int64} (hf : Z30 f) : (fun k => if 0 ≤ k ∧ k < 30 then (0 : Int64) else f k) = fun _ => 0 := by
  funext k
  by_cases h : k < 30
  · rw [if_pos (by omega)]
  · rw [if_neg (by omega), hf k (by omega)]
theorem s_fill {σ : SS} {o : Nat} {v : Int64} (ho : kd o = 11) : m_J7_fill_d0a16 o v (lay σ) = some ((), lay (sL σ o (fun k => if 0 ≤ k ∧ k < ln o then v else σ.2.1 o k))) := by
  unfold m_J7_fill_d0a16
  rw [bd_alen1 ho]
  have := ln_lt o
  exact s_fillL ho FU 0 σ (by omega) (by unfold FU; omega)
theorem s_beginAgain {σ : SS} {a : Nat} (hT : IsTw a) (ha : Z30 (σ.2.1 (a + 1))) : ∃ τ, m_Tw_beginAgain a (lay σ) = some ((), lay τ) ∧ Mod [a + 1, fa a 4] σ τ ∧ τ.2.1 (a + 1) = (fun _ => 0) ∧ τ.2.1 (fa a 4) 0 = σ.2.1 (fa 15 7) 0 := by
  have h6 := hT.1
  have hl := hT.2.2.2.2.2.2
  have n1 : fa 15 7 ≠ a + 1 := by unfold fa; omega
  refine ⟨sL (sL σ (a + 1) (fun _ => 0)) (fa a 4) (fun _ => σ.2.1 (fa 15 7) 0), ?_, (Mod.L (by simp)).tr (Mod.L (by simp)), ?_, ?_⟩
  · unfold m_Tw_beginAgain
    have e := s_fill (σ := σ) (v := 0) hT.2.1
    rw [hT.2.2.1, fill30 ha] at e
    rw [ckd_lay h6 (by decide), tg1 hT, bd_eq e]
    simp (disch := first | assumption | rfl | decide | omega) only [↓ckd_lay, ↓bd_gI, ↓bd_gL, ↓bd_pI, ↓bd_pL, ↓bd_pZ, ↓bd_now, ↓bd_next, ↓bd_ldR3, ↓bd_ldR4, ↓ap_ite, ↓ap_rt, ↓ap_lt, ↓rz_0, ↓rz_1, rz_bi, ↓tg0 hT, ↓tg1 hT, ↓tg2 hT, ↓tld hT, ↓tst hT, ↓tsm hT, ↓bd_ldv, sL_ne]
  · rw [sL_ne (by unfold fa; omega), sL_same]
  · exact sL_row
theorem s_take {σ : SS} (h1 : Z30 (σ.2.1 91)) (h2 : Z30 (σ.2.1 95)) : ∃ τ, m_Md_take 81 (lay σ) = some ((), lay τ) ∧ Mod [95, fa 81 22] σ τ ∧ τ.2.1 95 = σ.2.1 91 ∧ τ.2.1 (fa 81 22) 0 = σ.2.1 (fa 81 15) 0 := by
  have go : ∀ (n j : Nat) (τ : SS), j ≤ 30 → 30 < j + n → Mod [95, fa 81 22] σ τ → (∀ k, k < j → τ.2.1 95 k = σ.2.1 91 k) → Z30 (τ.2.1 95) → ∃ υ, l_Md_take_2 n 81 (nI j) (lay τ) = some ((), lay υ) ∧ Mod [95, fa 81 22] σ υ ∧ υ.2.1 95 = σ.2.1 91 ∧ υ.2.1 (fa 81 22) 0 = σ.2.1 (fa 81 15) 0 := by
    intro n
    induction n with
    | zero => intro j τ q1 q2; omega
    | succ n ih =>
      intro j τ q1 q2 hM hk hz
      show ∃ υ, b_Md_take_2 (l_Md_take_2 n) 81 (nI j) (lay τ) = _ ∧ _
      unfold b_Md_take_2
      by_cases h : 30 ≤ j
      · refine ⟨sL τ (fa 81 22) (fun _ => σ.2.1 (fa 81 15) 0), ?_, hM.tr (Mod.L (by simp)), ?_, sL_row⟩
        · simp (disch := first | assumption | rfl | decide | omega) only [↓ckd_lay, ↓bd_gI, ↓bd_gL, ↓bd_pI, ↓bd_pL, ↓bd_pZ, ↓bd_now, ↓bd_next, ↓bd_ldR3, ↓bd_ldR4, ↓ap_ite, ↓ap_rt, ↓ap_lt, ↓rz_0, ↓rz_1, rz_bi, ln_0, ln_1, ln_2, ln_3, ln_4, ln_5, ln_6, ln_7, ln_8, ln_10, ln_11, ln_12, ln_13, ln_15, ln_16, ln_30, ln_60, ln_256, ln_300, ln_400, ln_500, ln_1023, ln_1024, nl_0, nl_1, nl_2, nl_3, nl_4, nl_5, nl_6, nl_7, nl_8, nl_10, nl_11, nl_12, nl_13, nl_15, nl_16, nl_30, nl_60, nl_256, nl_300, nl_400, nl_500, nl_1023, nl_1024, tn_0, tn_1, tn_2, tn_3, tn_4, tn_5, tn_6, tn_7, tn_8, tn_10, tn_11, tn_12, tn_13, tn_15, tn_16, tn_30, tn_60, tn_256, tn_300, tn_400, tn_500, tn_1023, tn_1024, nt_0, nt_1, nt_2, nt_3, nt_4, nt_5, nt_6, nt_7, nt_8, nt_10, nt_11, nt_12, nt_13, nt_15, nt_16, nt_30, nt_60, nt_256, nt_300, nt_400, nt_500, nt_1023, nt_1024, ne_0, ne_1, ne_2, ne_3, ne_4, ne_5, ne_6, ne_7, ne_8, ne_10, ne_11, ne_12, ne_13, ne_15, ne_16, ne_30, ne_60, ne_256, ne_300, ne_400, ne_500, ne_1023, ne_1024, le_nn, lt_nn, eq_nn, h, if_true, hM.l (by decide : fa 81 15 ∉ [95, fa 81 22])]
        · rw [sL_ne (by decide)]
          funext k
          by_cases hk2 : k < 30
          · exact hk k (by omega)
          · rw [hz k (by omega), h1 k (by omega)]
      · simp (disch := first | assumption | rfl | decide | omega) only [↓ckd_lay, ↓bd_gI, ↓bd_gL, ↓bd_pI, ↓bd_pL, ↓bd_pZ, ↓bd_now, ↓bd_next, ↓bd_ldR3, ↓bd_ldR4, ↓ap_ite, ↓ap_rt, ↓ap_lt, ↓rz_0, ↓rz_1, rz_bi, ln_0, ln_1, ln_2, ln_3, ln_4, ln_5, ln_6, ln_7, ln_8, ln_10, ln_11, ln_12, ln_13, ln_15, ln_16, ln_30, ln_60, ln_256, ln_300, ln_400, ln_500, ln_1023, ln_1024, nl_0, nl_1, nl_2, nl_3, nl_4, nl_5, nl_6, nl_7, nl_8, nl_10, nl_11, nl_12, nl_13, nl_15, nl_16, nl_30, nl_60, nl_256, nl_300, nl_400, nl_500, nl_1023, nl_1024, tn_0, tn_1, tn_2, tn_3, tn_4, tn_5, tn_6, tn_7, tn_8, tn_10, tn_11, tn_12, tn_13, tn_15, tn_16, tn_30, tn_60, tn_256, tn_300, tn_400, tn_500, tn_1023, tn_1024, nt_0, nt_1, nt_2, nt_3, nt_4, nt_5, nt_6, nt_7, nt_8, nt_10, nt_11, nt_12, nt_13, nt_15, nt_16, nt_30, nt_60, nt_256, nt_300, nt_400, nt_500, nt_1023, nt_1024, ne_0, ne_1, ne_2, ne_3, ne_4, ne_5, ne_6, ne_7, ne_8, ne_10, ne_11, ne_12, ne_13, ne_15, ne_16, ne_30, ne_60, ne_256, ne_300, ne_400, ne_500, ne_1023, ne_1024, le_nn, lt_nn, eq_nn, h, if_false, ↓gr_81_0, ↓gr_81_1, ↓gr_81_2, ↓gr_81_3, ↓gr_81_4, ↓gr_81_7, ↓gr_81_8, ↓gr_81_9, ↓gr_81_11, ↓gr_81_14, ↓gr_81_17, ↓gr_81_18, ↓gr_81_20, ↓gr_81_21, ↓gr_81_25, ↓gr_81_26, ↓gr_81_27, ↓gr_81_28, ↓gr_81_29, ↓gr_81_31, ↓gr_81_32, ↓gr_81_33, ↓gr_81_34, ↓gr_81_36, ↓gr_81_39, ↓la_91, ↓st_91, ↓la_95, ↓st_95, na_1, hM.l (by decide : 91 ∉ [95, fa 81 22])]
        refine ih (j + 1) _ (by omega) (by omega) (hM.tr (Mod.L (by simp))) (fun k hk2 => ?_) (fun k hk2 => ?_)
        · rw [sL_same]
          by_cases q : k = j
          · subst q; exact up_same
          · rw [up_ne q]; exact hk k (by omega)
        · rw [sL_same, up_ne (by omega)]; exact hz k hk2
  obtain ⟨υ, e, d⟩ := go FU 0 σ (by omega) (by unfold FU; omega) Mod.rf (fun k hk => by omega) h2
  exact ⟨υ, by unfold m_Md_take; rw [ckd_lay (ci := 9) (o := 81) rfl (by decide)]; exact e, d⟩
theorem s_lay {σ : SS} (h1 : Z30 (σ.2.1 91)) (h2 : Z30 (σ.2.1 95)) : ∃ τ, m_Md_lay 81 (lay σ) = some ((), lay τ) ∧ Mod [91, fa 81 15] σ τ ∧ τ.2.1 91 = σ.2.1 95 ∧ τ.2.1 (fa 81 15) 0 = σ.2.1 (fa 81 22) 0 := by
  have go : ∀ (n j : Nat) (τ : SS), j ≤ 30 → 30 < j + n → Mod [91, fa 81 15] σ τ → (∀ k, k < j → τ.2.1 91 k = σ.2.1 95 k) → Z30 (τ.2.1 91) → ∃ υ, l_Md_lay_2 n 81 (nI j) (lay τ) = some ((), lay υ) ∧ Mod [91, fa 81 15] σ υ ∧ υ.2.1 91 = σ.2.1 95 ∧ υ.2.1 (fa 81 15) 0 = σ.2.1 (fa 81 22) 0 := by
    intro n
    induction n with
    | zero => intro j τ q1 q2; omega
    | succ n ih =>
      intro j τ q1 q2 hM hk hz
      show ∃ υ, b_Md_lay_2 (l_Md_lay_2 n) 81 (nI j) (lay τ) = _ ∧ _
      unfold b_Md_lay_2
      by_cases h : 30 ≤ j
      · refine ⟨sL τ (fa 81 15) (fun _ => σ.2.1 (fa 81 22) 0), ?_, hM.tr (Mod.L (by simp)), ?_, sL_row⟩
        · simp (disch := first | assumption | rfl | decide | omega) only [↓ckd_lay, ↓bd_gI, ↓bd_gL, ↓bd_pI, ↓bd_pL, ↓bd_pZ, ↓bd_now, ↓bd_next, ↓bd_ldR3, ↓bd_ldR4, ↓ap_ite, ↓ap_rt, ↓ap_lt, ↓rz_0, ↓rz_1, rz_bi, ln_0, ln_1, ln_2, ln_3, ln_4, ln_5, ln_6, ln_7, ln_8, ln_10, ln_11, ln_12, ln_13, ln_15, ln_16, ln_30, ln_60, ln_256, ln_300, ln_400, ln_500, ln_1023, ln_1024, nl_0, nl_1, nl_2, nl_3, nl_4, nl_5, nl_6, nl_7, nl_8, nl_10, nl_11, nl_12, nl_13, nl_15, nl_16, nl_30, nl_60, nl_256, nl_300, nl_400, nl_500, nl_1023, nl_1024, tn_0, tn_1, tn_2, tn_3, tn_4, tn_5, tn_6, tn_7, tn_8, tn_10, tn_11, tn_12, tn_13, tn_15, tn_16, tn_30, tn_60, tn_256, tn_300, tn_400, tn_500, tn_1023, tn_1024, nt_0, nt_1, nt_2, nt_3, nt_4, nt_5, nt_6, nt_7, nt_8, nt_10, nt_11, nt_12, nt_13, nt_15, nt_16, nt_30, nt_60, nt_256, nt_300, nt_400, nt_500, nt_1023, nt_1024, ne_0, ne_1, ne_2, ne_3, ne_4, ne_5, ne_6, ne_7, ne_8, ne_10, ne_11, ne_12, ne_13, ne_15, ne_16, ne_30, ne_60, ne_256, ne_300, ne_400, ne_500, ne_1023, ne_1024, le_nn, lt_nn, eq_nn, h, if_true, hM.l (by decide : fa 81 22 ∉ [91, fa 81 15])]
        · rw [sL_ne (by decide)]
          funext k
          by_cases hk2 : k < 30
          · exact hk k (by omega)
          · rw [hz k (by omega), h2 k (by omega)]
      · simp (disch := first | assumption | rfl | decide | omega) only [↓ckd_lay, ↓bd_gI, ↓bd_gL, ↓bd_pI, ↓bd_pL, ↓bd_pZ, ↓bd_now, ↓bd_next, ↓bd_ldR3, ↓bd_ldR4, ↓ap_ite, ↓ap_rt, ↓ap_lt, ↓rz_0, ↓rz_1, rz_bi, ln_0, ln_1, ln_2, ln_3, ln_4, ln_5, ln_6, ln_7, ln_8, ln_10, ln_11, ln_12, ln_13, ln_15, ln_16, ln_30, ln_60, ln_256, ln_300, ln_400, ln_500, ln_1023, ln_1024, nl_0, nl_1, nl_2, nl_3, nl_4, nl_5, nl_6, nl_7, nl_8, nl_10, nl_11, nl_12, nl_13, nl_15, nl_16, nl_30, nl_60, nl_256, nl_300, nl_400, nl_500, nl_1023, nl_1024, tn_0, tn_1, tn_2, tn_3, tn_4, tn_5, tn_6, tn_7, tn_8, tn_10, tn_11, tn_12, tn_13, tn_15, tn_16, tn_30, tn_60, tn_256, tn_300, tn_400, tn_500, tn_1023, tn_1024, nt_0, nt_1, nt_2, nt_3, nt_4, nt_5, nt_6, nt_7, nt_8, nt_10, nt_11, nt_12, nt_13, nt_15, nt_16, nt_30, nt_60, nt_256, nt_300, nt_400, nt_500, nt_1023, nt_1024, ne_0, ne_1, ne_2, ne_3, ne_4, ne_5, ne_6, ne_7, ne_8, ne_10, ne_11, ne_12, ne_13, ne_15, ne_16, ne_30, ne_60, ne_256, ne_300, ne_400, ne_500, ne_1023, ne_1024, le_nn, lt_nn, eq_nn, h, if_false, ↓gr_81_0, ↓gr_81_1, ↓gr_81_2, ↓gr_81_3, ↓gr_81_4, ↓gr_81_7, ↓gr_81_8, ↓gr_81_9, ↓gr_81_11, ↓gr_81_14, ↓gr_81_17, ↓gr_81_18, ↓gr_81_20, ↓gr_81_21, ↓gr_81_25, ↓gr_81_26, ↓gr_81_27, ↓gr_81_28, ↓gr_81_29, ↓gr_81_31, ↓gr_81_32, ↓gr_81_33, ↓gr_81_34, ↓gr_81_36, ↓gr_81_39, ↓la_91, ↓st_91, ↓la_95, ↓st_95, na_1, hM.l (by decide : 95 ∉ [91, fa 81 15])]
        refine ih (j + 1) _ (by omega) (by omega) (hM.tr (Mod.L (by simp))) (fun k hk2 => ?_) (fun k hk2 => ?_)
        · rw [sL_same]
          by_cases q : k = j
          · subst q; exact up_same
          · rw [up_ne q]; exact hk k (by omega)
        · rw [sL_same, up_ne (by omega)]; exact hz k hk2
  obtain ⟨υ, e, d⟩ := go FU 0 σ (by omega) (by unfold FU; omega) Mod.rf (fun k hk => by omega) h1
  exact ⟨υ, by unfold m_Md_lay; rw [ckd_lay (ci := 9) (o := 81) rfl (by decide)]; exact e, d⟩
theorem s_rest {σ : SS} (h2 : Z30 (σ.2.1 95)) : ∃ τ, m_Md_rest 81 (lay σ) = some ((), lay τ) ∧ Mod [95, fa 81 22] σ τ ∧ τ.2.1 95 = (fun _ => 0) ∧ τ.2.1 (fa 81 22) 0 = σ.2.1 (fa 81 13) 0 := by
  have go : ∀ (n j : Nat) (τ : SS), j ≤ 30 → 30 < j + n → Mod [95, fa 81 22] σ τ → (∀ k, k < j → τ.2.1 95 k = 0) → Z30 (τ.2.1 95) → ∃ υ, l_Md_rest_2 n 81 (nI j) (lay τ) = some ((), lay υ) ∧ Mod [95, fa 81 22] σ υ ∧ υ.2.1 95 = (fun _ => 0) ∧ υ.2.1 (fa 81 22) 0 = σ.2.1 (fa 81 13) 0 := by
    intro n
    induction n with
    | zero => intro j τ q1 q2; omega
    | succ n ih =>
      intro j τ q1 q2 hM hk hz
      show ∃ υ, b_Md_rest_2 (l_Md_rest_2 n) 81 (nI j) (lay τ) = _ ∧ _
      unfold b_Md_rest_2
      by_cases h : 30 ≤ j
      · refine ⟨sL τ (fa 81 22) (fun _ => σ.2.1 (fa 81 13) 0), ?_, hM.tr (Mod.L (by simp)), ?_, sL_row⟩
        · simp (disch := first | assumption | rfl | decide | omega) only [↓ckd_lay, ↓bd_gI, ↓bd_gL, ↓bd_pI, ↓bd_pL, ↓bd_pZ, ↓bd_now, ↓bd_next, ↓bd_ldR3, ↓bd_ldR4, ↓ap_ite, ↓ap_rt, ↓ap_lt, ↓rz_0, ↓rz_1, rz_bi, ln_0, ln_1, ln_2, ln_3, ln_4, ln_5, ln_6, ln_7, ln_8, ln_10, ln_11, ln_12, ln_13, ln_15, ln_16, ln_30, ln_60, ln_256, ln_300, ln_400, ln_500, ln_1023, ln_1024, nl_0, nl_1, nl_2, nl_3, nl_4, nl_5, nl_6, nl_7, nl_8, nl_10, nl_11, nl_12, nl_13, nl_15, nl_16, nl_30, nl_60, nl_256, nl_300, nl_400, nl_500, nl_1023, nl_1024, tn_0, tn_1, tn_2, tn_3, tn_4, tn_5, tn_6, tn_7, tn_8, tn_10, tn_11, tn_12, tn_13, tn_15, tn_16, tn_30, tn_60, tn_256, tn_300, tn_400, tn_500, tn_1023, tn_1024, nt_0, nt_1, nt_2, nt_3, nt_4, nt_5, nt_6, nt_7, nt_8, nt_10, nt_11, nt_12, nt_13, nt_15, nt_16, nt_30, nt_60, nt_256, nt_300, nt_400, nt_500, nt_1023, nt_1024, ne_0, ne_1, ne_2, ne_3, ne_4, ne_5, ne_6, ne_7, ne_8, ne_10, ne_11, ne_12, ne_13, ne_15, ne_16, ne_30, ne_60, ne_256, ne_300, ne_400, ne_500, ne_1023, ne_1024, le_nn, lt_nn, eq_nn, h, if_true, hM.l (by decide : fa 81 13 ∉ [95, fa 81 22])]
        · rw [sL_ne (by decide)]
          funext k
          by_cases hk2 : k < 30
          · exact hk k (by omega)
          · exact hz k (by omega)
      · simp (disch := first | assumption | rfl | decide | omega) only [↓ckd_lay, ↓bd_gI, ↓bd_gL, ↓bd_pI, ↓bd_pL, ↓bd_pZ, ↓bd_now, ↓bd_next, ↓bd_ldR3, ↓bd_ldR4, ↓ap_ite, ↓ap_rt, ↓ap_lt, ↓rz_0, ↓rz_1, rz_bi, ln_0, ln_1, ln_2, ln_3, ln_4, ln_5, ln_6, ln_7, ln_8, ln_10, ln_11, ln_12, ln_13, ln_15, ln_16, ln_30, ln_60, ln_256, ln_300, ln_400, ln_500, ln_1023, ln_1024, nl_0, nl_1, nl_2, nl_3, nl_4, nl_5, nl_6, nl_7, nl_8, nl_10, nl_11, nl_12, nl_13, nl_15, nl_16, nl_30, nl_60, nl_256, nl_300, nl_400, nl_500, nl_1023, nl_1024, tn_0, tn_1, tn_2, tn_3, tn_4, tn_5, tn_6, tn_7, tn_8, tn_10, tn_11, tn_12, tn_13, tn_15, tn_16, tn_30, tn_60, tn_256, tn_300, tn_400, tn_500, tn_1023, tn_1024, nt_0, nt_1, nt_2, nt_3, nt_4, nt_5, nt_6, nt_7, nt_8, nt_10, nt_11, nt_12, nt_13, nt_15, nt_16, nt_30, nt_60, nt_256, nt_300, nt_400, nt_500, nt_1023, nt_1024, ne_0, ne_1, ne_2, ne_3, ne_4, ne_5, ne_6, ne_7, ne_8, ne_10, ne_11, ne_12, ne_13, ne_15, ne_16, ne_30, ne_60, ne_256, ne_300, ne_400, ne_500, ne_1023, ne_1024, le_nn, lt_nn, eq_nn, h, if_false, ↓gr_81_0, ↓gr_81_1, ↓gr_81_2, ↓gr_81_3, ↓gr_81_4, ↓gr_81_7, ↓gr_81_8, ↓gr_81_9, ↓gr_81_11, ↓gr_81_14, ↓gr_81_17, ↓gr_81_18, ↓gr_81_20, ↓gr_81_21, ↓gr_81_25, ↓gr_81_26, ↓gr_81_27, ↓gr_81_28, ↓gr_81_29, ↓gr_81_31, ↓gr_81_32, ↓gr_81_33, ↓gr_81_34, ↓gr_81_36, ↓gr_81_39, ↓la_95, ↓st_95, na_1]
        refine ih (j + 1) _ (by omega) (by omega) (hM.tr (Mod.L (by simp))) (fun k hk2 => ?_) (fun k hk2 => ?_)
        · rw [sL_same]
          by_cases q : k = j
          · subst q; exact up_same
          · rw [up_ne q]; exact hk k (by omega)
        · rw [sL_same, up_ne (by omega)]; exact hz k hk2
  obtain ⟨υ, e, d⟩ := go FU 0 σ (by omega) (by unfold FU; omega) Mod.rf (fun k hk => by omega) h2
  exact ⟨υ, by unfold m_Md_rest; rw [ckd_lay (ci := 9) (o := 81) rfl (by decide)]; exact e, d⟩
