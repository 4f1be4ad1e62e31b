/-! A step of the reference. -/
def RS (σ0 : SS) (σ : SS) (N : Nat → Int64) (l : List Int32) : Prop := Mod [95, 96, fa 81 24] σ0 σ ∧ σ.2.1 95 = N ∧ HasM (σ.1 96) (σ.1 (fa 81 24) 0) l
theorem RS.far {σ0 σ : SS} {N : Nat → Int64} {l : List Int32} (h : RS σ0 σ N l) {o : Nat} (ho : o ∉ [95, 96, fa 81 24]) : σ.1 o = σ0.1 o ∧ σ.2.1 o = σ0.2.1 o := h.1.1 o ho
theorem RS.setN {σ0 σ : SS} {N : Nat → Int64} {l : List Int32} (h : RS σ0 σ N l) (N' : Nat → Int64) : RS σ0 (sL σ 95 N') N' l := ⟨h.1.tr (Mod.L (by simp)), sL_same, h.2.2⟩
theorem RS.now {σ0 σ : SS} {N : Nat → Int64} {l : List Int32} (h : RS σ0 σ N l) : RS σ σ N l := ⟨Mod.rf, h.2⟩
theorem RS.then {σ0 σ τ : SS} {N N' : Nat → Int64} {l l' : List Int32} (h : RS σ0 σ N l) (g : RS σ τ N' l') : RS σ0 τ N' l' := ⟨h.1.tr g.1, g.2⟩
section RSs
variable {σ0 σ : SS} {s : Nat} {N : Nat → Int64} {l : List Int32}
theorem RS.writes (h : RS σ0 σ N l) (hl : l.length < 40) (k : Int32) : ∃ τ, m_Md_writes 81 k (lay σ) = some ((), lay τ) ∧ RS σ0 τ N (l ++ [k]) := by
  refine ⟨sI (sI σ 96 (va_up (σ.1 96) l.length k)) (fa 81 24) (fun _ => nI (l.length + 1)), ?_, (h.1.tr (Mod.I (by simp))).tr (Mod.I (by simp)), h.2.1, ?_⟩
  · unfold m_Md_writes
    simp (disch := first | assumption | rfl | decide | omega) only [↓ckd_lay, ↓bd_gI, ↓bd_gL, ↓bd_pI, ↓bd_pL, ↓bd_pZ, ↓bd_now, ↓bd_next, ↓bd_ldR3, ↓bd_ldR4, ↓ap_ite, ↓ap_rt, ↓ap_lt, ↓rz_0, ↓rz_1, rz_bi, ↓gr_81_0, ↓gr_81_1, ↓gr_81_2, ↓gr_81_3, ↓gr_81_4, ↓gr_81_7, ↓gr_81_8, ↓gr_81_9, ↓gr_81_11, ↓gr_81_14, ↓gr_81_17, ↓gr_81_18, ↓gr_81_20, ↓gr_81_21, ↓gr_81_25, ↓gr_81_26, ↓gr_81_27, ↓gr_81_28, ↓gr_81_29, ↓gr_81_31, ↓gr_81_32, ↓gr_81_33, ↓gr_81_34, ↓gr_81_36, ↓gr_81_39, h.2.2.1, ↓la_96, ↓st_96, sI_ne, na_1]
  · rw [sI_ne (by decide : (96 : Nat) ≠ fa 81 24), sI_same, sI_same, ← na_1, ← h.2.2.1]
    exact h.2.2.add _
theorem RS.plain (h : RS σ0 σ N l) (hl : l.length < 40) (hs : s < 5) (x v : Int64) : ∃ τ, m_Md_plain 81 (nI s) x v (lay σ) = some ((), lay τ) ∧ RS σ0 τ (pAdd s x v N) (l ++ [10]) := by
  obtain ⟨τ, e, t⟩ := h.writes hl 10
  refine ⟨sL τ 95 (pAdd s x v N), ?_, t.setN _⟩
  unfold m_Md_plain
  rw [ckd_lay (ci := 9) (o := 81) rfl (by decide), bd_eq e]
  simp (disch := first | assumption | rfl | decide | omega) only [↓ckd_lay, ↓bd_gI, ↓bd_gL, ↓bd_pI, ↓bd_pL, ↓bd_pZ, ↓bd_now, ↓bd_next, ↓bd_ldR3, ↓bd_ldR4, ↓ap_ite, ↓ap_rt, ↓ap_lt, ↓rz_0, ↓rz_1, rz_bi, ↓gr_81_0, ↓gr_81_1, ↓gr_81_2, ↓gr_81_3, ↓gr_81_4, ↓gr_81_7, ↓gr_81_8, ↓gr_81_9, ↓gr_81_11, ↓gr_81_14, ↓gr_81_17, ↓gr_81_18, ↓gr_81_20, ↓gr_81_21, ↓gr_81_25, ↓gr_81_26, ↓gr_81_27, ↓gr_81_28, ↓gr_81_29, ↓gr_81_31, ↓gr_81_32, ↓gr_81_33, ↓gr_81_34, ↓gr_81_36, ↓gr_81_39, na_0, na_1, na_2, na_3, na_4, na_5, na_6, na_7, na_8, na_10, na_11, na_12, na_13, na_15, na_16, na_30, na_60, na_300, an_0, an_1, an_2, an_3, an_4, an_5, an_6, an_7, an_8, an_10, an_11, an_12, an_13, an_15, an_16, an_30, an_60, an_300, nm_0, nm_1, nm_2, nm_3, nm_4, nm_5, nm_6, nm_7, nm_8, nm_10, nm_11, nm_12, nm_13, nm_15, nm_16, nm_30, nm_60, nm_300, mn_0, mn_1, mn_2, mn_3, mn_4, mn_5, mn_6, mn_7, mn_8, mn_10, mn_11, mn_12, mn_13, mn_15, mn_16, mn_30, mn_60, mn_300, nI_add, pk_mul, ↓la_95, ↓st_95, sL_same, sL_sL, up_same, up_ne, pAdd, t.2.1]
theorem RS.leaky (h : RS σ0 σ N l) (hl : l.length + 2 ≤ 40) (hs : s < 5) (x v : Int64) : ∃ τ, m_Md_leaky 81 (nI s) x v (lay σ) = some ((), lay τ) ∧ RS σ0 τ (pAdd s x v (pLeak s (σ0.2.1 88 s) N)) (l ++ [11, 10]) := by
  obtain ⟨τ, e, t⟩ := h.writes (by omega) 11
  have t2 := t.setN (pLeak s (σ0.2.1 88 s) N)
  obtain ⟨τ3, e3, t3⟩ := t2.plain (by simp; omega) hs x v
  refine ⟨τ3, ?_, by simpa using t3⟩
  unfold m_Md_leaky
  rw [ckd_lay (ci := 9) (o := 81) rfl (by decide), bd_eq e]
  have e5 : sL τ 95 (va_up (va_up N (6 * s + 4) (N (6 * s + 4) + N (6 * s) * σ0.2.1 88 s / 256)) (6 * s) (N (6 * s) - N (6 * s) * σ0.2.1 88 s / 256)) = sL τ 95 (pLeak s (σ0.2.1 88 s) N) := rfl
  simp (disch := first | assumption | rfl | decide | omega) only [↓ckd_lay, ↓bd_gI, ↓bd_gL, ↓bd_pI, ↓bd_pL, ↓bd_pZ, ↓bd_now, ↓bd_next, ↓bd_ldR3, ↓bd_ldR4, ↓ap_ite, ↓ap_rt, ↓ap_lt, ↓rz_0, ↓rz_1, rz_bi, ↓gr_81_0, ↓gr_81_1, ↓gr_81_2, ↓gr_81_3, ↓gr_81_4, ↓gr_81_7, ↓gr_81_8, ↓gr_81_9, ↓gr_81_11, ↓gr_81_14, ↓gr_81_17, ↓gr_81_18, ↓gr_81_20, ↓gr_81_21, ↓gr_81_25, ↓gr_81_26, ↓gr_81_27, ↓gr_81_28, ↓gr_81_29, ↓gr_81_31, ↓gr_81_32, ↓gr_81_33, ↓gr_81_34, ↓gr_81_36, ↓gr_81_39, na_0, na_1, na_2, na_3, na_4, na_5, na_6, na_7, na_8, na_10, na_11, na_12, na_13, na_15, na_16, na_30, na_60, na_300, an_0, an_1, an_2, an_3, an_4, an_5, an_6, an_7, an_8, an_10, an_11, an_12, an_13, an_15, an_16, an_30, an_60, an_300, nm_0, nm_1, nm_2, nm_3, nm_4, nm_5, nm_6, nm_7, nm_8, nm_10, nm_11, nm_12, nm_13, nm_15, nm_16, nm_30, nm_60, nm_300, mn_0, mn_1, mn_2, mn_3, mn_4, mn_5, mn_6, mn_7, mn_8, mn_10, mn_11, mn_12, mn_13, mn_15, mn_16, mn_30, mn_60, mn_300, nI_add, pk_mul, ↓la_95, ↓st_95, ↓la_88, ↓st_88, ↓bd_ldv, sL_same, sL_sL, up_same, up_ne, t.2.1, (t.far (by decide : 88 ∉ [95, 96, fa 81 24])).2]
  rw [e5, bd_eq e3, ap_rt]
/-- cut to a bound, as the reference says it -/
theorem cut_eq {b w : Int64} (hb : ¬ b < -b) : mmax (-b) (mmin b w) = if w ≤ b then (if -b ≤ w then w else -b) else b := by
  unfold mmax mmin
  simp only [Int64.lt_iff_toInt_lt, Int64.le_iff_toInt_le] at hb ⊢
  repeat' split
  all_goals first | rfl | omega | (apply Int64.toInt_inj.mp; omega)
theorem pCut_eq {s : Nat} {b : Int64} {N : Nat → Int64} {t : Int64} (ht : mmax (-b) (mmin b (N (6 * s))) = t) : pCut s b N = va_up (va_up N (6 * s + 5) (N (6 * s + 5) + (N (6 * s) - t))) (6 * s) t := by
  unfold pCut
  rw [ht]
  funext q
  by_cases h1 : q = 6 * s
  · subst h1
    rw [up_same, up_ne (by omega), up_same]
  · rw [up_ne h1]
    by_cases h2 : q = 6 * s + 5
    · subst h2
      rw [up_same, up_same]
    · rw [up_ne h2, up_ne h2, up_ne h1]
theorem RS.b71 (h : RS σ0 σ N l) (hs : s < 5) {b t : Int64} (ht : mmax (-b) (mmin b (N (6 * s))) = t) : ∃ τ, m_Md_bounded_71 81 (nI s) (N (6 * s)) t (lay σ) = some ((), lay τ) ∧ RS σ0 τ (pCut s b N) l := by
  refine ⟨sL σ 95 (pCut s b N), ?_, h.setN _⟩
  unfold m_Md_bounded_71
  rw [pCut_eq ht]
  simp (disch := first | assumption | rfl | decide | omega) only [↓ckd_lay, ↓bd_gI, ↓bd_gL, ↓bd_pI, ↓bd_pL, ↓bd_pZ, ↓bd_now, ↓bd_next, ↓bd_ldR3, ↓bd_ldR4, ↓ap_ite, ↓ap_rt, ↓ap_lt, ↓rz_0, ↓rz_1, rz_bi, ↓gr_81_0, ↓gr_81_1, ↓gr_81_2, ↓gr_81_3, ↓gr_81_4, ↓gr_81_7, ↓gr_81_8, ↓gr_81_9, ↓gr_81_11, ↓gr_81_14, ↓gr_81_17, ↓gr_81_18, ↓gr_81_20, ↓gr_81_21, ↓gr_81_25, ↓gr_81_26, ↓gr_81_27, ↓gr_81_28, ↓gr_81_29, ↓gr_81_31, ↓gr_81_32, ↓gr_81_33, ↓gr_81_34, ↓gr_81_36, ↓gr_81_39, na_0, na_1, na_2, na_3, na_4, na_5, na_6, na_7, na_8, na_10, na_11, na_12, na_13, na_15, na_16, na_30, na_60, na_300, an_0, an_1, an_2, an_3, an_4, an_5, an_6, an_7, an_8, an_10, an_11, an_12, an_13, an_15, an_16, an_30, an_60, an_300, nm_0, nm_1, nm_2, nm_3, nm_4, nm_5, nm_6, nm_7, nm_8, nm_10, nm_11, nm_12, nm_13, nm_15, nm_16, nm_30, nm_60, nm_300, mn_0, mn_1, mn_2, mn_3, mn_4, mn_5, mn_6, mn_7, mn_8, mn_10, mn_11, mn_12, mn_13, mn_15, mn_16, mn_30, mn_60, mn_300, nI_add, pk_mul, ↓la_95, ↓st_95, sL_same, sL_sL, up_same, up_ne, h.2.1]
theorem RS.bounded (h : RS σ0 σ N l) (hl : l.length + 2 ≤ 40) (hs : s < 5) (hb : ¬ (σ0.2.1 88 s < -(σ0.2.1 88 s))) (x v : Int64) : ∃ τ, m_Md_bounded 81 (nI s) x v (lay σ) = some ((), lay τ) ∧ RS σ0 τ (pCut s (σ0.2.1 88 s) (pAdd s x v N)) (l ++ [12, 10]) := by
  obtain ⟨τ, e, t⟩ := h.writes (by omega) 12
  obtain ⟨τ2, e2, t2⟩ := t.plain (by simp; omega) hs x v
  have hc := cut_eq (w := pAdd s x v N (6 * s)) hb
  unfold m_Md_bounded
  rw [ckd_lay (ci := 9) (o := 81) rfl (by decide), bd_eq e, bd_eq e2]
  simp (disch := first | assumption | rfl | decide | omega) only [↓ckd_lay, ↓bd_gI, ↓bd_gL, ↓bd_pI, ↓bd_pL, ↓bd_pZ, ↓bd_now, ↓bd_next, ↓bd_ldR3, ↓bd_ldR4, ↓ap_ite, ↓ap_rt, ↓ap_lt, ↓rz_0, ↓rz_1, rz_bi, ↓gr_81_0, ↓gr_81_1, ↓gr_81_2, ↓gr_81_3, ↓gr_81_4, ↓gr_81_7, ↓gr_81_8, ↓gr_81_9, ↓gr_81_11, ↓gr_81_14, ↓gr_81_17, ↓gr_81_18, ↓gr_81_20, ↓gr_81_21, ↓gr_81_25, ↓gr_81_26, ↓gr_81_27, ↓gr_81_28, ↓gr_81_29, ↓gr_81_31, ↓gr_81_32, ↓gr_81_33, ↓gr_81_34, ↓gr_81_36, ↓gr_81_39, na_0, na_1, na_2, na_3, na_4, na_5, na_6, na_7, na_8, na_10, na_11, na_12, na_13, na_15, na_16, na_30, na_60, na_300, an_0, an_1, an_2, an_3, an_4, an_5, an_6, an_7, an_8, an_10, an_11, an_12, an_13, an_15, an_16, an_30, an_60, an_300, nm_0, nm_1, nm_2, nm_3, nm_4, nm_5, nm_6, nm_7, nm_8, nm_10, nm_11, nm_12, nm_13, nm_15, nm_16, nm_30, nm_60, nm_300, mn_0, mn_1, mn_2, mn_3, mn_4, mn_5, mn_6, mn_7, mn_8, mn_10, mn_11, mn_12, mn_13, mn_15, mn_16, mn_30, mn_60, mn_300, nI_add, pk_mul, ↓la_95, ↓st_95, ↓la_88, ↓st_88, t2.2.1, (t2.far (by decide : 88 ∉ [95, 96, fa 81 24])).2]
  have t2' : RS σ0 τ2 (pAdd s x v N) (l ++ [12, 10]) := by simpa using t2
  by_cases c1 : pAdd s x v N (6 * s) ≤ σ0.2.1 88 s
  · by_cases c2 : -(σ0.2.1 88 s) ≤ pAdd s x v N (6 * s)
    · simp only [c1, c2, if_true] at hc ⊢
      exact t2'.b71 hs hc
    · simp only [c1, c2, if_true, if_false] at hc ⊢
      exact t2'.b71 hs hc
  · simp only [c1, if_false] at hc ⊢
    exact t2'.b71 hs hc
end RSs
theorem swt_i {α : Type} {x low : Int} {ks : List (M α)} {kd k : M α} (i : Nat) (hx : x = low + i) (hk : ks[i]? = some k) : swt x low ks kd = k := by
  unfold swt
  rw [if_neg (by omega), show (x - low).toNat = i by omega, hk]
  rfl
theorem swt_o {α : Type} {x low : Int} {ks : List (M α)} {kd : M α} (hx : x < low ∨ low + ks.length ≤ x) : swt x low ks kd = kd := by
  unfold swt
  split
  · rfl
  · rw [List.getElem?_eq_none (by omega)]
    rfl
/-- the taking of a stage, by the reference -/
theorem s_takes {σ : SS} {s : Nat} {x v u : Int64} {l : List Int32} {N : Nat → Int64} {k : Int32} (hs : s < 5) (h0 : RS σ σ N l) (hl : l.length + 3 ≤ 40) (hk : σ.1 87 s = k) (hk5 : k = 0 ∨ k = 1 ∨ k = 2 ∨ k = 3 ∨ k = 4) (hb : k = 2 ∨ k = 3 → ¬ (σ.2.1 88 s < -(σ.2.1 88 s))) :
    ∃ τ, m_Md_takes 81 (nI s) x v u (lay σ) = some ((), lay τ) ∧ RS σ τ (pNum k (σ.2.1 88 s) (σ.1 89 s) s x v u N) (l ++ pMrk k) := by
  unfold m_Md_takes
  simp (disch := first | assumption | rfl | decide | omega) only [↓ckd_lay, ↓bd_gI, ↓bd_gL, ↓bd_pI, ↓bd_pL, ↓bd_pZ, ↓bd_now, ↓bd_next, ↓bd_ldR3, ↓bd_ldR4, ↓ap_ite, ↓ap_rt, ↓ap_lt, ↓rz_0, ↓rz_1, rz_bi, ↓gr_81_0, ↓gr_81_1, ↓gr_81_2, ↓gr_81_3, ↓gr_81_4, ↓gr_81_7, ↓gr_81_8, ↓gr_81_9, ↓gr_81_11, ↓gr_81_14, ↓gr_81_17, ↓gr_81_18, ↓gr_81_20, ↓gr_81_21, ↓gr_81_25, ↓gr_81_26, ↓gr_81_27, ↓gr_81_28, ↓gr_81_29, ↓gr_81_31, ↓gr_81_32, ↓gr_81_33, ↓gr_81_34, ↓gr_81_36, ↓gr_81_39, ↓la_87, ↓st_87, hk]
  rcases hk5 with rfl | rfl | rfl | rfl | rfl
  · obtain ⟨τ, e, t⟩ := h0.plain (by omega) hs x v
    refine ⟨τ, ?_, by simpa [pNum, pMrk] using t⟩
    show bd _ _ _ = _
    rw [bd_eq e, ap_rt]
  · obtain ⟨τ, e, t⟩ := h0.leaky (by omega) hs x v
    refine ⟨τ, ?_, by simpa [pNum, pMrk] using t⟩
    show bd _ _ _ = _
    rw [bd_eq e, ap_rt]
  · obtain ⟨τ, e, t⟩ := h0.bounded (by omega) hs (hb (Or.inl rfl)) x v
    refine ⟨τ, ?_, by simpa [pNum, pMrk] using t⟩
    show bd _ _ _ = _
    rw [bd_eq e, ap_rt]
  · obtain ⟨τ1, e1, t1⟩ := h0.writes (by omega) 13
    obtain ⟨τ2, e2, t2⟩ := t1.bounded (by simp; omega) hs (hb (Or.inr rfl)) (x - N (6 * s + 1) * (σ.1 89 s).toInt64 / 256) v
    refine ⟨sL τ2 95 (va_up (pCut s (σ.2.1 88 s) (pAdd s (x - N (6 * s + 1) * (σ.1 89 s).toInt64 / 256) v N)) (6 * s + 1) (pCut s (σ.2.1 88 s) (pAdd s (x - N (6 * s + 1) * (σ.1 89 s).toInt64 / 256) v N) (6 * s + 1) + pCut s (σ.2.1 88 s) (pAdd s (x - N (6 * s + 1) * (σ.1 89 s).toInt64 / 256) v N) (6 * s) * (σ.1 89 s).toInt64 / 256)), ?_, ?_⟩
    · rw [swt_i 3 (by decide) rfl, bd_eq e1]
      simp (disch := first | assumption | rfl | decide | omega) only [↓ckd_lay, ↓bd_gI, ↓bd_gL, ↓bd_pI, ↓bd_pL, ↓bd_pZ, ↓bd_now, ↓bd_next, ↓bd_ldR3, ↓bd_ldR4, ↓ap_ite, ↓ap_rt, ↓ap_lt, ↓rz_0, ↓rz_1, rz_bi, ↓gr_81_0, ↓gr_81_1, ↓gr_81_2, ↓gr_81_3, ↓gr_81_4, ↓gr_81_7, ↓gr_81_8, ↓gr_81_9, ↓gr_81_11, ↓gr_81_14, ↓gr_81_17, ↓gr_81_18, ↓gr_81_20, ↓gr_81_21, ↓gr_81_25, ↓gr_81_26, ↓gr_81_27, ↓gr_81_28, ↓gr_81_29, ↓gr_81_31, ↓gr_81_32, ↓gr_81_33, ↓gr_81_34, ↓gr_81_36, ↓gr_81_39, na_0, na_1, na_2, na_3, na_4, na_5, na_6, na_7, na_8, na_10, na_11, na_12, na_13, na_15, na_16, na_30, na_60, na_300, an_0, an_1, an_2, an_3, an_4, an_5, an_6, an_7, an_8, an_10, an_11, an_12, an_13, an_15, an_16, an_30, an_60, an_300, nm_0, nm_1, nm_2, nm_3, nm_4, nm_5, nm_6, nm_7, nm_8, nm_10, nm_11, nm_12, nm_13, nm_15, nm_16, nm_30, nm_60, nm_300, mn_0, mn_1, mn_2, mn_3, mn_4, mn_5, mn_6, mn_7, mn_8, mn_10, mn_11, mn_12, mn_13, mn_15, mn_16, mn_30, mn_60, mn_300, nI_add, pk_mul, ↓la_95, ↓st_95, ↓la_89, ↓st_89, ↓bd_ldv, t1.2.1, (t1.far (by decide : 89 ∉ [95, 96, fa 81 24])).1]
      rw [bd_eq e2]
      simp (disch := first | assumption | rfl | decide | omega) only [↓ckd_lay, ↓bd_gI, ↓bd_gL, ↓bd_pI, ↓bd_pL, ↓bd_pZ, ↓bd_now, ↓bd_next, ↓bd_ldR3, ↓bd_ldR4, ↓ap_ite, ↓ap_rt, ↓ap_lt, ↓rz_0, ↓rz_1, rz_bi, ↓gr_81_0, ↓gr_81_1, ↓gr_81_2, ↓gr_81_3, ↓gr_81_4, ↓gr_81_7, ↓gr_81_8, ↓gr_81_9, ↓gr_81_11, ↓gr_81_14, ↓gr_81_17, ↓gr_81_18, ↓gr_81_20, ↓gr_81_21, ↓gr_81_25, ↓gr_81_26, ↓gr_81_27, ↓gr_81_28, ↓gr_81_29, ↓gr_81_31, ↓gr_81_32, ↓gr_81_33, ↓gr_81_34, ↓gr_81_36, ↓gr_81_39, na_0, na_1, na_2, na_3, na_4, na_5, na_6, na_7, na_8, na_10, na_11, na_12, na_13, na_15, na_16, na_30, na_60, na_300, an_0, an_1, an_2, an_3, an_4, an_5, an_6, an_7, an_8, an_10, an_11, an_12, an_13, an_15, an_16, an_30, an_60, an_300, nm_0, nm_1, nm_2, nm_3, nm_4, nm_5, nm_6, nm_7, nm_8, nm_10, nm_11, nm_12, nm_13, nm_15, nm_16, nm_30, nm_60, nm_300, mn_0, mn_1, mn_2, mn_3, mn_4, mn_5, mn_6, mn_7, mn_8, mn_10, mn_11, mn_12, mn_13, mn_15, mn_16, mn_30, mn_60, mn_300, nI_add, pk_mul, ↓la_95, ↓st_95, ↓la_89, ↓st_89, ↓bd_ldv, t2.2.1, (t2.far (by decide : 89 ∉ [95, 96, fa 81 24])).1]
    · have t3 := t2.setN (va_up (pCut s (σ.2.1 88 s) (pAdd s (x - N (6 * s + 1) * (σ.1 89 s).toInt64 / 256) v N)) (6 * s + 1) (pCut s (σ.2.1 88 s) (pAdd s (x - N (6 * s + 1) * (σ.1 89 s).toInt64 / 256) v N) (6 * s + 1) + pCut s (σ.2.1 88 s) (pAdd s (x - N (6 * s + 1) * (σ.1 89 s).toInt64 / 256) v N) (6 * s) * (σ.1 89 s).toInt64 / 256))
      have : pMrk 3 = [13, 12, 10] := rfl
      unfold pNum
      simpa [this] using t3
  · obtain ⟨τ1, e1, t1⟩ := h0.writes (by omega) 14
    obtain ⟨τ2, e2, t2⟩ := t1.leaky (by simp; omega) hs (x + (σ.1 89 s).toInt64 * u) v
    refine ⟨τ2, ?_, ?_⟩
    · rw [swt_o (Or.inr (by simp only [List.length_cons, List.length_nil]; decide)), bd_eq e1]
      simp (disch := first | assumption | rfl | decide | omega) only [↓ckd_lay, ↓bd_gI, ↓bd_gL, ↓bd_pI, ↓bd_pL, ↓bd_pZ, ↓bd_now, ↓bd_next, ↓bd_ldR3, ↓bd_ldR4, ↓ap_ite, ↓ap_rt, ↓ap_lt, ↓rz_0, ↓rz_1, rz_bi, ↓gr_81_0, ↓gr_81_1, ↓gr_81_2, ↓gr_81_3, ↓gr_81_4, ↓gr_81_7, ↓gr_81_8, ↓gr_81_9, ↓gr_81_11, ↓gr_81_14, ↓gr_81_17, ↓gr_81_18, ↓gr_81_20, ↓gr_81_21, ↓gr_81_25, ↓gr_81_26, ↓gr_81_27, ↓gr_81_28, ↓gr_81_29, ↓gr_81_31, ↓gr_81_32, ↓gr_81_33, ↓gr_81_34, ↓gr_81_36, ↓gr_81_39, na_0, na_1, na_2, na_3, na_4, na_5, na_6, na_7, na_8, na_10, na_11, na_12, na_13, na_15, na_16, na_30, na_60, na_300, an_0, an_1, an_2, an_3, an_4, an_5, an_6, an_7, an_8, an_10, an_11, an_12, an_13, an_15, an_16, an_30, an_60, an_300, nm_0, nm_1, nm_2, nm_3, nm_4, nm_5, nm_6, nm_7, nm_8, nm_10, nm_11, nm_12, nm_13, nm_15, nm_16, nm_30, nm_60, nm_300, mn_0, mn_1, mn_2, mn_3, mn_4, mn_5, mn_6, mn_7, mn_8, mn_10, mn_11, mn_12, mn_13, mn_15, mn_16, mn_30, mn_60, mn_300, nI_add, pk_mul, ↓la_89, ↓st_89, (t1.far (by decide : 89 ∉ [95, 96, fa 81 24])).1]
      rw [bd_eq e2, ap_rt]
    · have : pMrk 4 = [14, 11, 10] := rfl
      unfold pNum
      simpa [this] using t2
/-- the nearest level, gone through all -/
def dst (x y : Int64) : Int64 := if 0 ≤ x - y then x - y else -(x - y)
def nearR (lv : Nat → Int64) (x : Int64) : Nat → Nat → Nat → Nat
  | 0, b, _ => b
  | r + 1, b, k => if dst x (lv b) < dst x (lv k) then nearR lv x r b (k + 1) else nearR lv x r k (k + 1)
theorem nearR_lt (lv : Nat → Int64) (x : Int64) : ∀ r b k, b < k → nearR lv x r b k < k + r
  | 0, b, k, h => h
  | r + 1, b, k, h => by
    unfold nearR
    split
    · have := nearR_lt lv x r b (k + 1) (by omega); omega
    · have := nearR_lt lv x r k (k + 1) (by omega); omega
def nR (lv : Nat → Int64) (n : Nat) (x : Int64) : Nat := nearR lv x (n - 1) 0 1
theorem s_nearRGo {σ : SS} {x : Int64} {n : Nat} (hn : σ.1 (fa 81 10) 0 = nI n) (h16 : n ≤ 16) : ∀ (r b k m : Nat), k + r = n → b < k → r < m → l_Md_nearest_5 m 81 x (nI b) (nI k) (lay σ) = some (nI (nearR (σ.2.1 90) x r b k), lay σ)
  | r, b, k, 0, h, hb, hm => by omega
  | 0, b, k, m + 1, h, hb, hm => by
    show b_Md_nearest_5 (l_Md_nearest_5 m) 81 x (nI b) (nI k) (lay σ) = _
    unfold b_Md_nearest_5
    simp (disch := first | assumption | rfl | decide | omega) only [↓ckd_lay, ↓bd_gI, ↓bd_gL, ↓bd_pI, ↓bd_pL, ↓bd_pZ, ↓bd_now, ↓bd_next, ↓bd_ldR3, ↓bd_ldR4, ↓ap_ite, ↓ap_rt, ↓ap_lt, ↓rz_0, ↓rz_1, rz_bi, hn, ln_0, ln_1, ln_2, ln_3, ln_4, ln_5, ln_6, ln_7, ln_8, ln_10, ln_11, ln_12, ln_13, ln_15, ln_16, ln_30, ln_60, ln_256, ln_300, ln_400, ln_500, ln_1023, ln_1024, nl_0, nl_1, nl_2, nl_3, nl_4, nl_5, nl_6, nl_7, nl_8, nl_10, nl_11, nl_12, nl_13, nl_15, nl_16, nl_30, nl_60, nl_256, nl_300, nl_400, nl_500, nl_1023, nl_1024, tn_0, tn_1, tn_2, tn_3, tn_4, tn_5, tn_6, tn_7, tn_8, tn_10, tn_11, tn_12, tn_13, tn_15, tn_16, tn_30, tn_60, tn_256, tn_300, tn_400, tn_500, tn_1023, tn_1024, nt_0, nt_1, nt_2, nt_3, nt_4, nt_5, nt_6, nt_7, nt_8, nt_10, nt_11, nt_12, nt_13, nt_15, nt_16, nt_30, nt_60, nt_256, nt_300, nt_400, nt_500, nt_1023, nt_1024, ne_0, ne_1, ne_2, ne_3, ne_4, ne_5, ne_6, ne_7, ne_8, ne_10, ne_11, ne_12, ne_13, ne_15, ne_16, ne_30, ne_60, ne_256, ne_300, ne_400, ne_500, ne_1023, ne_1024, le_nn, lt_nn, eq_nn]
    rw [if_pos (by omega)]
    rfl
  | r + 1, b, k, m + 1, h, hb, hm => by
    show b_Md_nearest_5 (l_Md_nearest_5 m) 81 x (nI b) (nI k) (lay σ) = _
    unfold b_Md_nearest_5
    simp (disch := first | assumption | rfl | decide | omega) only [↓ckd_lay, ↓bd_gI, ↓bd_gL, ↓bd_pI, ↓bd_pL, ↓bd_pZ, ↓bd_now, ↓bd_next, ↓bd_ldR3, ↓bd_ldR4, ↓ap_ite, ↓ap_rt, ↓ap_lt, ↓rz_0, ↓rz_1, rz_bi, hn, ln_0, ln_1, ln_2, ln_3, ln_4, ln_5, ln_6, ln_7, ln_8, ln_10, ln_11, ln_12, ln_13, ln_15, ln_16, ln_30, ln_60, ln_256, ln_300, ln_400, ln_500, ln_1023, ln_1024, nl_0, nl_1, nl_2, nl_3, nl_4, nl_5, nl_6, nl_7, nl_8, nl_10, nl_11, nl_12, nl_13, nl_15, nl_16, nl_30, nl_60, nl_256, nl_300, nl_400, nl_500, nl_1023, nl_1024, tn_0, tn_1, tn_2, tn_3, tn_4, tn_5, tn_6, tn_7, tn_8, tn_10, tn_11, tn_12, tn_13, tn_15, tn_16, tn_30, tn_60, tn_256, tn_300, tn_400, tn_500, tn_1023, tn_1024, nt_0, nt_1, nt_2, nt_3, nt_4, nt_5, nt_6, nt_7, nt_8, nt_10, nt_11, nt_12, nt_13, nt_15, nt_16, nt_30, nt_60, nt_256, nt_300, nt_400, nt_500, nt_1023, nt_1024, ne_0, ne_1, ne_2, ne_3, ne_4, ne_5, ne_6, ne_7, ne_8, ne_10, ne_11, ne_12, ne_13, ne_15, ne_16, ne_30, ne_60, ne_256, ne_300, ne_400, ne_500, ne_1023, ne_1024, le_nn, lt_nn, eq_nn, ↓gr_81_0, ↓gr_81_1, ↓gr_81_2, ↓gr_81_3, ↓gr_81_4, ↓gr_81_7, ↓gr_81_8, ↓gr_81_9, ↓gr_81_11, ↓gr_81_14, ↓gr_81_17, ↓gr_81_18, ↓gr_81_20, ↓gr_81_21, ↓gr_81_25, ↓gr_81_26, ↓gr_81_27, ↓gr_81_28, ↓gr_81_29, ↓gr_81_31, ↓gr_81_32, ↓gr_81_33, ↓gr_81_34, ↓gr_81_36, ↓gr_81_39, ↓la_90, ↓st_90]
    rw [if_neg (by omega)]
    have i1 := s_nearRGo (x := x) hn h16 r b (k + 1) m (by omega) (by omega) (by omega)
    have i2 := s_nearRGo (x := x) hn h16 r k (k + 1) m (by omega) (by omega) (by omega)
    unfold m_Md_nearest_50 m_Md_nearest_65
    have e : nearR (σ.2.1 90) x (r + 1) b k = if dst x (σ.2.1 90 b) < dst x (σ.2.1 90 k) then nearR (σ.2.1 90) x r b (k + 1) else nearR (σ.2.1 90) x r k (k + 1) := rfl
    rw [e]
    simp only [ap_ite, na_1, i1, i2, dst]
    repeat' split
    all_goals first | rfl | (exfalso; simp_all; done)
theorem s_nearest {σ : SS} {x : Int64} {n : Nat} (hn : σ.1 (fa 81 10) 0 = nI n) (h16 : n ≤ 16) (h1 : 1 ≤ n) : m_Md_nearest 81 x (lay σ) = some (nI (nR (σ.2.1 90) n x), lay σ) := by
  unfold m_Md_nearest
  rw [ckd_lay (ci := 9) (o := 81) rfl (by decide)]
  exact s_nearRGo hn h16 (n - 1) 0 1 FU (by omega) (by omega) (by unfold FU; omega)
theorem gr_in (y : Int64) : ((-1125899906842623 : Int64) ≤ y ∧ y ≤ 1125899906842623) ↔ ¬ isGr y = true := by
  unfold isGr
  simp only [Bool.or_eq_true, decide_eq_true_eq, Int64.le_iff_toInt_le, show (-1125899906842623 : Int64).toInt = -1125899906842623 from rfl, show (1125899906842623 : Int64).toInt = 1125899906842623 from rfl, show (1125899906842624 : Int64).toInt = 1125899906842624 from rfl, show (-1125899906842624 : Int64).toInt = -1125899906842624 from rfl]
  omega
theorem q_in {α : Type} {x a b : Int64} {σ : SS} {f : Int32 → M α} : bd (m_Md_in x a b) f (lay σ) = f (bi (a ≤ x ∧ x ≤ b)) (lay σ) := bd_eq s_in
theorem s_triesGo {σ0 : SS} {S n k : Nat} {u : Int64} (hS : σ0.1 (fa 81 6) 0 = nI S) (hS5 : S ≤ 5) (hk : σ0.1 (fa 81 23) 0 = nI k) (hk16 : k < 16) (hK : ∀ s, s < S → σ0.1 87 s = 0 ∨ σ0.1 87 s = 1 ∨ σ0.1 87 s = 2 ∨ σ0.1 87 s = 3 ∨ σ0.1 87 s = 4) (hB : ∀ s, s < S → σ0.1 87 s = 2 ∨ σ0.1 87 s = 3 → ¬ (σ0.2.1 88 s < -(σ0.2.1 88 s))) :
    ∀ (r s n : Nat) (σ : SS) (x : Int64) (N : Nat → Int64) (l : List Int32), s + r = S → l.length ≤ 3 * s → RS σ0 σ N l → r < n →
    ∃ τ, l_Md_tries_102 n 81 u x (nI s) (lay σ) = some (bi ((pGo (σ0.1 87) (σ0.2.1 88) (σ0.1 89) (σ0.2.1 90 k) u r s x (N, l)).1 = true), lay τ) ∧ RS σ0 τ (pGo (σ0.1 87) (σ0.2.1 88) (σ0.1 89) (σ0.2.1 90 k) u r s x (N, l)).2.1 (pGo (σ0.1 87) (σ0.2.1 88) (σ0.1 89) (σ0.2.1 90 k) u r s x (N, l)).2.2
  | r, s, 0, σ, x, N, l, hr, hl, t, hn => by omega
  | 0, s, n + 1, σ, x, N, l, hr, hl, t, hn => by
    refine ⟨σ, ?_, t⟩
    show b_Md_tries_102 (l_Md_tries_102 n) 81 u x (nI s) (lay σ) = _
    unfold b_Md_tries_102
    simp (disch := first | assumption | rfl | decide | omega) only [↓ckd_lay, ↓bd_gI, ↓bd_gL, ↓bd_pI, ↓bd_pL, ↓bd_pZ, ↓bd_now, ↓bd_next, ↓bd_ldR3, ↓bd_ldR4, ↓ap_ite, ↓ap_rt, ↓ap_lt, ↓rz_0, ↓rz_1, rz_bi, (t.far (by decide : fa 81 6 ∉ [95, 96, fa 81 24])).1, hS, ln_0, ln_1, ln_2, ln_3, ln_4, ln_5, ln_6, ln_7, ln_8, ln_10, ln_11, ln_12, ln_13, ln_15, ln_16, ln_30, ln_60, ln_256, ln_300, ln_400, ln_500, ln_1023, ln_1024, nl_0, nl_1, nl_2, nl_3, nl_4, nl_5, nl_6, nl_7, nl_8, nl_10, nl_11, nl_12, nl_13, nl_15, nl_16, nl_30, nl_60, nl_256, nl_300, nl_400, nl_500, nl_1023, nl_1024, tn_0, tn_1, tn_2, tn_3, tn_4, tn_5, tn_6, tn_7, tn_8, tn_10, tn_11, tn_12, tn_13, tn_15, tn_16, tn_30, tn_60, tn_256, tn_300, tn_400, tn_500, tn_1023, tn_1024, nt_0, nt_1, nt_2, nt_3, nt_4, nt_5, nt_6, nt_7, nt_8, nt_10, nt_11, nt_12, nt_13, nt_15, nt_16, nt_30, nt_60, nt_256, nt_300, nt_400, nt_500, nt_1023, nt_1024, ne_0, ne_1, ne_2, ne_3, ne_4, ne_5, ne_6, ne_7, ne_8, ne_10, ne_11, ne_12, ne_13, ne_15, ne_16, ne_30, ne_60, ne_256, ne_300, ne_400, ne_500, ne_1023, ne_1024, le_nn, lt_nn, eq_nn]
    rw [if_pos (by omega)]
    simp [pGo, bi]
  | r + 1, s, n + 1, σ, x, N, l, hr, hl, t, hn => by
    show ∃ τ, b_Md_tries_102 (l_Md_tries_102 n) 81 u x (nI s) (lay σ) = _ ∧ _
    unfold b_Md_tries_102
    simp (disch := first | assumption | rfl | decide | omega) only [↓ckd_lay, ↓bd_gI, ↓bd_gL, ↓bd_pI, ↓bd_pL, ↓bd_pZ, ↓bd_now, ↓bd_next, ↓bd_ldR3, ↓bd_ldR4, ↓ap_ite, ↓ap_rt, ↓ap_lt, ↓rz_0, ↓rz_1, rz_bi, ↓gr_81_0, ↓gr_81_1, ↓gr_81_2, ↓gr_81_3, ↓gr_81_4, ↓gr_81_7, ↓gr_81_8, ↓gr_81_9, ↓gr_81_11, ↓gr_81_14, ↓gr_81_17, ↓gr_81_18, ↓gr_81_20, ↓gr_81_21, ↓gr_81_25, ↓gr_81_26, ↓gr_81_27, ↓gr_81_28, ↓gr_81_29, ↓gr_81_31, ↓gr_81_32, ↓gr_81_33, ↓gr_81_34, ↓gr_81_36, ↓gr_81_39, ↓la_90, ↓st_90, (t.far (by decide : fa 81 6 ∉ [95, 96, fa 81 24])).1, hS, (t.far (by decide : fa 81 23 ∉ [95, 96, fa 81 24])).1, hk, (t.far (by decide : 90 ∉ [95, 96, fa 81 24])).2, ln_0, ln_1, ln_2, ln_3, ln_4, ln_5, ln_6, ln_7, ln_8, ln_10, ln_11, ln_12, ln_13, ln_15, ln_16, ln_30, ln_60, ln_256, ln_300, ln_400, ln_500, ln_1023, ln_1024, nl_0, nl_1, nl_2, nl_3, nl_4, nl_5, nl_6, nl_7, nl_8, nl_10, nl_11, nl_12, nl_13, nl_15, nl_16, nl_30, nl_60, nl_256, nl_300, nl_400, nl_500, nl_1023, nl_1024, tn_0, tn_1, tn_2, tn_3, tn_4, tn_5, tn_6, tn_7, tn_8, tn_10, tn_11, tn_12, tn_13, tn_15, tn_16, tn_30, tn_60, tn_256, tn_300, tn_400, tn_500, tn_1023, tn_1024, nt_0, nt_1, nt_2, nt_3, nt_4, nt_5, nt_6, nt_7, nt_8, nt_10, nt_11, nt_12, nt_13, nt_15, nt_16, nt_30, nt_60, nt_256, nt_300, nt_400, nt_500, nt_1023, nt_1024, ne_0, ne_1, ne_2, ne_3, ne_4, ne_5, ne_6, ne_7, ne_8, ne_10, ne_11, ne_12, ne_13, ne_15, ne_16, ne_30, ne_60, ne_256, ne_300, ne_400, ne_500, ne_1023, ne_1024, le_nn, lt_nn, eq_nn]
    rw [if_neg (by omega)]
    have z7 := (t.far (by decide : 87 ∉ [95, 96, fa 81 24])).1
    have z8 := (t.far (by decide : 88 ∉ [95, 96, fa 81 24])).2
    have z9 := (t.far (by decide : 89 ∉ [95, 96, fa 81 24])).1
    obtain ⟨τ, e, t2⟩ := s_takes (x := x) (v := σ0.2.1 90 k) (u := u) (s := s) (by omega) t.now (by omega) rfl (by rw [z7]; exact hK s (by omega)) (by rw [z7, z8]; exact hB s (by omega))
    rw [bd_eq e]
    rw [z7, z8, z9] at t2
    have t3 := t.then t2
    simp (disch := first | assumption | rfl | decide | omega) only [↓ckd_lay, ↓bd_gI, ↓bd_gL, ↓bd_pI, ↓bd_pL, ↓bd_pZ, ↓bd_now, ↓bd_next, ↓bd_ldR3, ↓bd_ldR4, ↓ap_ite, ↓ap_rt, ↓ap_lt, ↓rz_0, ↓rz_1, rz_bi, ↓gr_81_0, ↓gr_81_1, ↓gr_81_2, ↓gr_81_3, ↓gr_81_4, ↓gr_81_7, ↓gr_81_8, ↓gr_81_9, ↓gr_81_11, ↓gr_81_14, ↓gr_81_17, ↓gr_81_18, ↓gr_81_20, ↓gr_81_21, ↓gr_81_25, ↓gr_81_26, ↓gr_81_27, ↓gr_81_28, ↓gr_81_29, ↓gr_81_31, ↓gr_81_32, ↓gr_81_33, ↓gr_81_34, ↓gr_81_36, ↓gr_81_39, na_0, na_1, na_2, na_3, na_4, na_5, na_6, na_7, na_8, na_10, na_11, na_12, na_13, na_15, na_16, na_30, na_60, na_300, an_0, an_1, an_2, an_3, an_4, an_5, an_6, an_7, an_8, an_10, an_11, an_12, an_13, an_15, an_16, an_30, an_60, an_300, nm_0, nm_1, nm_2, nm_3, nm_4, nm_5, nm_6, nm_7, nm_8, nm_10, nm_11, nm_12, nm_13, nm_15, nm_16, nm_30, nm_60, nm_300, mn_0, mn_1, mn_2, mn_3, mn_4, mn_5, mn_6, mn_7, mn_8, mn_10, mn_11, mn_12, mn_13, mn_15, mn_16, mn_30, mn_60, mn_300, nI_add, pk_mul, ↓la_95, ↓st_95, t3.2.1, ↓q_in, bi_0, gr_in, Classical.not_not]
    unfold pGo
    generalize pNum (σ0.1 87 s) (σ0.2.1 88 s) (σ0.1 89 s) s x (σ0.2.1 90 k) u N = N' at t3 ⊢
    have hml := pMrk_len (σ0.1 87 s)
    by_cases g1 : isGr (N' (6 * s)) = true
    · refine ⟨τ, ?_, ?_⟩
      · simp [g1, bi]
      · simpa [g1] using t3
    · by_cases g2 : isGr (N' (6 * s + 1)) = true
      · refine ⟨τ, ?_, ?_⟩
        · simp [g1, g2, bi]
        · simpa [g1, g2] using t3
      · obtain ⟨τ2, e2, t4⟩ := s_triesGo (n := n) hS hS5 hk hk16 hK hB r (s + 1) n τ (N' (6 * s)) N' (l ++ pMrk (σ0.1 87 s)) (by omega) (by simp; omega) t3 (by omega)
        refine ⟨τ2, ?_, ?_⟩
        · simp only [g1, g2, not_false_eq_true, if_true, or_self, if_false]
          exact e2
        · simpa [g1, g2] using t4
theorem sI_row {σ : SS} {o : Nat} {v : Int32} : (sI σ o (fun _ => v)).1 o 0 = v := by rw [sI_same]
theorem sL_row {σ : SS} {o : Nat} {v : Int64} : (sL σ o (fun _ => v)).2.1 o 0 = v := by rw [sL_same]
def RShp (σ : SS) (P : SH) : Prop := σ.1 87 = P.1 ∧ σ.2.1 88 = P.2.1 ∧ σ.1 89 = P.2.2.1 ∧ σ.1 (fa 81 6) 0 = nI P.2.2.2.1 ∧ σ.2.1 90 = P.2.2.2.2.1 ∧ σ.1 (fa 81 10) 0 = nI P.2.2.2.2.2.1 ∧ σ.1 (fa 81 12) 0 = nI P.2.2.2.2.2.2
/-- kinds as told, bounds above 0 -/
def GoodP (P : SH) : Prop := FitP P ∧ ∀ s, s < P.2.2.2.1 → (P.1 s = 0 ∨ P.1 s = 1 ∨ P.1 s = 2 ∨ P.1 s = 3 ∨ P.1 s = 4) ∧ (P.1 s = 2 ∨ P.1 s = 3 → ¬ (P.2.1 s < -(P.2.1 s)))
abbrev rwL : List Nat := [95, 96, fa 81 24, fa 81 22, fa 81 23]
def RwIs (σ : SS) (N : Nat → Int64) (l : List Int32) (sd : Int64) (td : Nat) : Prop := σ.2.1 95 = N ∧ HasM (σ.1 96) (σ.1 (fa 81 24) 0) l ∧ σ.2.1 (fa 81 22) 0 = sd ∧ σ.1 (fa 81 23) 0 = nI td
theorem RShp.mod {σ τ : SS} {P : SH} {L : List Nat} (h : RShp σ P) (hM : Mod L σ τ) (hL : ∀ o ∈ [87, 88, 89, fa 81 6, 90, fa 81 10, fa 81 12], o ∉ L) : RShp τ P := by
  have key : ∀ o ∈ [87, 88, 89, fa 81 6, 90, fa 81 10, fa 81 12], τ.1 o = σ.1 o ∧ τ.2.1 o = σ.2.1 o := fun o ho => hM.1 o (hL o ho)
  unfold RShp
  rw [(key 87 (by simp)).1, (key 88 (by simp)).2, (key 89 (by simp)).1, (key (fa 81 6) (by simp)).1, (key 90 (by simp)).2, (key (fa 81 10) (by simp)).1, (key (fa 81 12) (by simp)).1]
  exact h
theorem s_tries82 {σ : SS} {P : SH} {u lot q : Int64} (hP : RShp σ P) (hG : GoodP P) (hm : HasM (σ.1 96) (σ.1 (fa 81 24) 0) []) :
    ∃ τ, m_Md_tries_82 81 u lot q (lay σ) = some (bi ((pGo P.1 P.2.1 P.2.2.1 (P.2.2.2.2.1 (nR P.2.2.2.2.1 P.2.2.2.2.2.1 (q + lot))) u P.2.2.2.1 0 u (σ.2.1 95, [])).1 = true), lay τ) ∧ Mod [95, 96, fa 81 24, fa 81 23] σ τ ∧
      τ.2.1 95 = (pGo P.1 P.2.1 P.2.2.1 (P.2.2.2.2.1 (nR P.2.2.2.2.1 P.2.2.2.2.2.1 (q + lot))) u P.2.2.2.1 0 u (σ.2.1 95, [])).2.1 ∧ HasM (τ.1 96) (τ.1 (fa 81 24) 0) (pGo P.1 P.2.1 P.2.2.1 (P.2.2.2.2.1 (nR P.2.2.2.2.1 P.2.2.2.2.2.1 (q + lot))) u P.2.2.2.1 0 u (σ.2.1 95, [])).2.2 ∧ τ.1 (fa 81 23) 0 = nI (nR P.2.2.2.2.1 P.2.2.2.2.2.1 (q + lot)) := by
  obtain ⟨⟨f1, f2, f3, f4⟩, hK⟩ := hG
  have hn := s_nearest (x := q + lot) hP.2.2.2.2.2.1 f3 (by omega)
  rw [hP.2.2.2.2.1] at hn
  have hb : nR P.2.2.2.2.1 P.2.2.2.2.2.1 (q + lot) < 16 := by
    have := nearR_lt P.2.2.2.2.1 (q + lot) (P.2.2.2.2.2.1 - 1) 0 1 (by omega)
    unfold nR
    omega
  generalize nR P.2.2.2.2.1 P.2.2.2.2.2.1 (q + lot) = k at hn hb ⊢
  have hP1 := hP.mod (Mod.I (L := rwL) (o := fa 81 23) (f := fun _ => nI k) (by simp)) (by decide)
  have t0 : RS (sI σ (fa 81 23) (fun _ => nI k)) (sI σ (fa 81 23) (fun _ => nI k)) (σ.2.1 95) [] := by
    refine ⟨Mod.rf, rfl, ?_⟩
    rw [sI_ne (by decide), sI_ne (by decide)]
    exact hm
  obtain ⟨τ, e, t⟩ := s_triesGo (n := 0) (u := u) hP1.2.2.2.1 f1 sI_row hb (by rw [hP1.1]; exact fun s hs => (hK s hs).1) (by rw [hP1.1, hP1.2.1]; exact fun s hs => (hK s hs).2) P.2.2.2.1 0 FU _ u _ _ (by omega) (by simp) t0 (by unfold FU; omega)
  rw [hP1.1, hP1.2.1, hP1.2.2.1, hP1.2.2.2.2.1] at e t
  refine ⟨τ, ?_, (Mod.I (by simp)).tr (t.1.mono (by simp)), t.2.1, t.2.2, ?_⟩
  · unfold m_Md_tries_82
    rw [bd_eq hn]
    simp (disch := first | assumption | rfl | decide | omega) only [↓ckd_lay, ↓bd_gI, ↓bd_gL, ↓bd_pI, ↓bd_pL, ↓bd_pZ, ↓bd_now, ↓bd_next, ↓bd_ldR3, ↓bd_ldR4, ↓ap_ite, ↓ap_rt, ↓ap_lt, ↓rz_0, ↓rz_1, rz_bi]
    exact e
  · rw [t.1.i (by decide)]
    exact sI_row
theorem s_tries {σ : SS} {P : SH} {u : Int64} (hP : RShp σ P) (hG : GoodP P) :
    ∃ τ, m_Md_tries 81 u (lay σ) = some (bi ((pOut nR P u (σ.2.1 95) (σ.2.1 (fa 81 22) 0)).1 = true), lay τ) ∧ Mod rwL σ τ ∧
      RwIs τ (pOut nR P u (σ.2.1 95) (σ.2.1 (fa 81 22) 0)).2.1 (pOut nR P u (σ.2.1 95) (σ.2.1 (fa 81 22) 0)).2.2 (pLot P.2.2.2.2.2.2 (σ.2.1 (fa 81 22) 0)).2 (pTold nR P u (σ.2.1 95) (σ.2.1 (fa 81 22) 0)) := by
  have hS5 := hG.1.1
  have hsp := hG.1.2.2.2
  -- the seed behind the lot
  have hlot : ∃ τ1, Mod [fa 81 24, fa 81 22] σ τ1 ∧ τ1.1 (fa 81 24) 0 = 0 ∧ τ1.2.1 (fa 81 22) 0 = (pLot P.2.2.2.2.2.2 (σ.2.1 (fa 81 22) 0)).2 ∧ m_Md_tries 81 u (lay σ) = m_Md_tries_56 81 u (pLot P.2.2.2.2.2.2 (σ.2.1 (fa 81 22) 0)).1 (lay τ1) := by
    unfold m_Md_tries pLot
    by_cases h0 : 0 < P.2.2.2.2.2.2
    · have hne := sp_ne hsp
      refine ⟨sL (sI σ (fa 81 24) (fun _ => 0)) (fa 81 22) (fun _ => 6364136223846793005 * σ.2.1 (fa 81 22) 0 + 1442695040888963407), (Mod.I (by simp)).tr (Mod.L (by simp)), ?_, ?_, ?_⟩
      · rw [sL_1]; exact sI_row
      · simp only [h0, if_true, sL_same]
      · have hsp2 : (sI σ (fa 81 24) (fun _ => 0)).1 (fa 81 12) 0 = nI P.2.2.2.2.2.2 := by rw [sI_ne (by decide)]; exact hP.2.2.2.2.2.2
        have hgt : ¬ (nI P.2.2.2.2.2.2 ≤ 0) := by rw [nl_0 (by omega)]; omega
        simp (disch := first | assumption | rfl | decide | omega) only [↓ckd_lay, ↓bd_gI, ↓bd_gL, ↓bd_pI, ↓bd_pL, ↓bd_pZ, ↓bd_now, ↓bd_next, ↓bd_ldR3, ↓bd_ldR4, ↓ap_ite, ↓ap_rt, ↓ap_lt, ↓rz_0, ↓rz_1, rz_bi, hsp2, hgt, if_false, sL_1, sL_same, ↓bd_lrm, sI_2, h0, if_true]
    · refine ⟨sI σ (fa 81 24) (fun _ => 0), Mod.I (by simp), sI_row, ?_, ?_⟩
      · simp only [h0, if_false]; rfl
      · have hsp2 : (sI σ (fa 81 24) (fun _ => 0)).1 (fa 81 12) 0 = nI P.2.2.2.2.2.2 := by rw [sI_ne (by decide)]; exact hP.2.2.2.2.2.2
        have hgt : nI P.2.2.2.2.2.2 ≤ 0 := by rw [nl_0 (by omega)]; omega
        simp (disch := first | assumption | rfl | decide | omega) only [↓ckd_lay, ↓bd_gI, ↓bd_gL, ↓bd_pI, ↓bd_pL, ↓bd_pZ, ↓bd_now, ↓bd_next, ↓bd_ldR3, ↓bd_ldR4, ↓ap_ite, ↓ap_rt, ↓ap_lt, ↓rz_0, ↓rz_1, rz_bi, hsp2, hgt, if_true, h0, if_false]
  obtain ⟨τ1, d1, c1, s1, e1⟩ := hlot
  have p1 := hP.mod d1 (by decide)
  have hN : τ1.2.1 95 = σ.2.1 95 := d1.l (by decide)
  obtain ⟨τ, e, d, g1, g2, g3⟩ := s_tries82 (u := u) (lot := (pLot P.2.2.2.2.2.2 (σ.2.1 (fa 81 22) 0)).1) (q := askd P u (σ.2.1 95)) p1 hG (by rw [c1]; exact HasM.nil)
  rw [hN] at e g1 g2
  refine ⟨τ, ?_, (d1.mono (by simp)).tr (d.mono (by simp)), g1, g2, ?_, g3⟩
  · rw [e1]
    unfold m_Md_tries_56
    simp (disch := first | assumption | rfl | decide | omega) only [↓ckd_lay, ↓bd_gI, ↓bd_gL, ↓bd_pI, ↓bd_pL, ↓bd_pZ, ↓bd_now, ↓bd_next, ↓bd_ldR3, ↓bd_ldR4, ↓ap_ite, ↓ap_rt, ↓ap_lt, ↓rz_0, ↓rz_1, rz_bi, p1.2.2.2.1, ln_0, ln_1, ln_2, ln_3, ln_4, ln_5, ln_6, ln_7, ln_8, ln_10, ln_11, ln_12, ln_13, ln_15, ln_16, ln_30, ln_60, ln_256, ln_300, ln_400, ln_500, ln_1023, ln_1024, nl_0, nl_1, nl_2, nl_3, nl_4, nl_5, nl_6, nl_7, nl_8, nl_10, nl_11, nl_12, nl_13, nl_15, nl_16, nl_30, nl_60, nl_256, nl_300, nl_400, nl_500, nl_1023, nl_1024, tn_0, tn_1, tn_2, tn_3, tn_4, tn_5, tn_6, tn_7, tn_8, tn_10, tn_11, tn_12, tn_13, tn_15, tn_16, tn_30, tn_60, tn_256, tn_300, tn_400, tn_500, tn_1023, tn_1024, nt_0, nt_1, nt_2, nt_3, nt_4, nt_5, nt_6, nt_7, nt_8, nt_10, nt_11, nt_12, nt_13, nt_15, nt_16, nt_30, nt_60, nt_256, nt_300, nt_400, nt_500, nt_1023, nt_1024, ne_0, ne_1, ne_2, ne_3, ne_4, ne_5, ne_6, ne_7, ne_8, ne_10, ne_11, ne_12, ne_13, ne_15, ne_16, ne_30, ne_60, ne_256, ne_300, ne_400, ne_500, ne_1023, ne_1024, le_nn, lt_nn, eq_nn]
    unfold askd at e
    by_cases hS : P.2.2.2.1 = 0
    · rw [if_pos hS] at e
      rw [if_pos hS, e]
      simp only [pOut, pTold, askd, if_pos hS]
    · rw [if_neg hS] at e
      have h66 : (6 : Int32) * nI P.2.2.2.1 - 6 = nI (6 * (P.2.2.2.1 - 1)) := by
        rw [mn_6, ns_6 _ (by omega)]
        congr 1
        omega
      simp (disch := first | assumption | rfl | decide | omega) only [hS, if_false, ↓gr_81_0, ↓gr_81_1, ↓gr_81_2, ↓gr_81_3, ↓gr_81_4, ↓gr_81_7, ↓gr_81_8, ↓gr_81_9, ↓gr_81_11, ↓gr_81_14, ↓gr_81_17, ↓gr_81_18, ↓gr_81_20, ↓gr_81_21, ↓gr_81_25, ↓gr_81_26, ↓gr_81_27, ↓gr_81_28, ↓gr_81_29, ↓gr_81_31, ↓gr_81_32, ↓gr_81_33, ↓gr_81_34, ↓gr_81_36, ↓gr_81_39, ↓ckd_lay, ↓bd_gI, ↓bd_gL, ↓bd_pI, ↓bd_pL, ↓bd_pZ, ↓bd_now, ↓bd_next, ↓bd_ldR3, ↓bd_ldR4, ↓ap_ite, ↓ap_rt, ↓ap_lt, ↓rz_0, ↓rz_1, rz_bi, p1.2.2.2.1, h66, ↓la_95, ↓st_95, hN]
      rw [e]
      simp only [pOut, pTold, askd, if_neg hS]
  · rw [d.l (by decide)]
    exact s1
