/-! stage. -/
theorem lim_bi {α : Type} {f : Int32 → M α} {l lo hi : Int64} {h : AH} : (if l < lo then f 0 h else if hi < l then f 0 h else f 1 h) = f (bi (lo ≤ l ∧ l ≤ hi)) h := by
  unfold bi
  by_cases q1 : l < lo
  · have : ¬ (lo ≤ l ∧ l ≤ hi) := fun z => by
      have := z.1
      rw [← Int64.not_lt] at this
      exact this q1
    rw [if_pos q1, if_neg this]
  · by_cases q2 : hi < l
    · have : ¬ (lo ≤ l ∧ l ≤ hi) := fun z => by
        have := z.2
        rw [← Int64.not_lt] at this
        exact this q2
      rw [if_neg q1, if_pos q2, if_neg this]
    · have : lo ≤ l ∧ l ≤ hi := ⟨by rw [← Int64.not_lt]; exact q1, by rw [← Int64.not_lt]; exact q2⟩
      rw [if_neg q1, if_neg q2, if_pos this]
theorem s_told40 {σ : SS} {i k : Int32} {l : Int64} : m_Ob_isStageAsTold i l k (lay σ) = m_Ob_isStageAsTold_40 i l k (bi ((0 : Int64) ≤ l ∧ l ≤ 256)) (bi ((1 : Int64) ≤ l ∧ l ≤ 1000000000000000)) (lay σ) := by
  have e : ∀ q : Int32, m_Ob_isStageAsTold_19 i l k q (lay σ) = m_Ob_isStageAsTold_40 i l k q (bi ((1 : Int64) ≤ l ∧ l ≤ 1000000000000000)) (lay σ) := fun q => by
    unfold m_Ob_isStageAsTold_19
    rw [ap_ite, ap_ite]
    exact lim_bi (f := fun w => m_Ob_isStageAsTold_40 i l k q w)
  unfold m_Ob_isStageAsTold
  rw [ap_ite, ap_ite, ← e]
  exact lim_bi (f := fun w => m_Ob_isStageAsTold_19 i l k w)
/-- what a kind asks of its two numbers -/
def asTold (i : Int32) (l : Int64) (k : Int32) : Prop := (i = 0 ∧ l = 0 ∧ k = 0) ∨ (i = 1 ∧ (0 ≤ l ∧ l ≤ 256) ∧ k = 0) ∨ (i = 2 ∧ (1 ≤ l ∧ l ≤ 1000000000000000) ∧ k = 0) ∨ (i = 3 ∧ (1 ≤ l ∧ l ≤ 1000000000000000) ∧ (0 ≤ k.toInt ∧ k.toInt ≤ 256)) ∨ (i = 4 ∧ (0 ≤ l ∧ l ≤ 256) ∧ (-100 ≤ k.toInt ∧ k.toInt ≤ 100))
theorem told_both {σ : SS} {i k : Int32} {l : Int64} : ∃ b : Bool, m_Ob_isStageAsTold i l k (lay σ) = some (bi (b = true), lay σ) ∧ (∀ τ : SS, m_Md_stage 81 i l k (lay τ) = m_Md_stage_177 81 i l k (bi (b = true)) (lay τ)) ∧ (b = true → (i = 0 ∨ i = 1 ∨ i = 2 ∨ i = 3 ∨ i = 4) ∧ (i = 2 ∨ i = 3 → ¬ l < -l)) := by
  have hneg : (1 ≤ l ∧ l ≤ 1000000000000000) → ¬ l < -l := fun q => by
    have q1 := q.1
    have q2 := q.2
    simp only [Int64.le_iff_toInt_le, show (1 : Int64).toInt = 1 from rfl, show (1000000000000000 : Int64).toInt = 1000000000000000 from rfl] at q1 q2
    rw [Int64.lt_iff_toInt_lt, toInt_neg64 (by omega)]
    omega
  rw [s_told40]
  unfold m_Ob_isStageAsTold_40
  have hst : ∀ τ : SS, m_Md_stage 81 i l k (lay τ) = _ := fun τ => by
    unfold m_Md_stage
    rw [ckd_lay (ci := 9) (o := 81) rfl (by decide)]
  by_cases hi : 0 ≤ i ∧ i < nI 5
  · obtain ⟨j, hj, rfl⟩ := nI_ex (by omega) hi.1 hi.2
    match j, hj with
    | 0, _ =>
      refine ⟨decide (l = 0 ∧ k = 0), ?_, fun τ => ?_, fun _ => ⟨Or.inl rfl, fun q => absurd q (by decide)⟩⟩
      · rw [swt_n (by decide) rfl]
        by_cases q1 : l = 0
        · by_cases q2 : k = 0
          · simp [ap_ite, q1, q2, rz_0, rz_1, bi]
          · simp [ap_ite, q1, q2, rz_0, rz_1, bi]
        · simp [ap_ite, q1, rz_0, rz_1, bi]
      · rw [hst, swt_n (by decide) rfl]
        by_cases q1 : l = 0
        · by_cases q2 : k = 0
          · simp [ap_ite, q1, q2, bi]
          · simp [ap_ite, q1, q2, bi]
        · simp [ap_ite, q1, bi]
    | 1, _ =>
      refine ⟨decide (((0 : Int64) ≤ l ∧ l ≤ 256) ∧ k = 0), ?_, fun τ => ?_, fun _ => ⟨Or.inr (Or.inl rfl), fun q => absurd q (by decide)⟩⟩
      · rw [swt_n (by decide) rfl]
        by_cases q1 : (0 : Int64) ≤ l ∧ l ≤ 256
        · by_cases q2 : k = 0
          · simp [ap_ite, q1, q2, rz_0, rz_1, bi]
          · simp [ap_ite, q1, q2, rz_0, rz_1, bi]
        · simp [ap_ite, q1, rz_0, rz_1, bi]
      · rw [hst, swt_n (by decide) rfl, q_in]
        by_cases q1 : (0 : Int64) ≤ l ∧ l ≤ 256
        · by_cases q2 : k = 0
          · simp [ap_ite, q1, q2, bi]
          · simp [ap_ite, q1, q2, bi]
        · simp [ap_ite, q1, bi]
    | 2, _ =>
      refine ⟨decide (((1 : Int64) ≤ l ∧ l ≤ 1000000000000000) ∧ k = 0), ?_, fun τ => ?_, fun w => ⟨Or.inr (Or.inr (Or.inl rfl)), fun _ => hneg (of_decide_eq_true w).1⟩⟩
      · rw [swt_n (by decide) rfl]
        by_cases q1 : (1 : Int64) ≤ l ∧ l ≤ 1000000000000000
        · by_cases q2 : k = 0
          · simp [ap_ite, q1, q2, rz_0, rz_1, bi]
          · simp [ap_ite, q1, q2, rz_0, rz_1, bi]
        · simp [ap_ite, q1, rz_0, rz_1, bi]
      · rw [hst, swt_n (by decide) rfl, q_in]
        by_cases q1 : (1 : Int64) ≤ l ∧ l ≤ 1000000000000000
        · by_cases q2 : k = 0
          · simp [ap_ite, q1, q2, bi]
          · simp [ap_ite, q1, q2, bi]
        · simp [ap_ite, q1, bi]
    | 3, _ =>
      have a1 : ((0 : Int64) ≤ k.toInt64 ∧ k.toInt64 ≤ 256) ↔ (0 ≤ k.toInt ∧ k.toInt ≤ 256) := by
        simp only [Int64.le_iff_toInt_le, Int32.toInt_toInt64, show (0 : Int64).toInt = 0 from rfl, show (256 : Int64).toInt = 256 from rfl]
      have a2 : (k < 0) ↔ ¬ (0 ≤ k.toInt) := by
        rw [Int32.lt_iff_toInt_lt, show (0 : Int32).toInt = 0 from rfl]; omega
      have a3 : ((256 : Int64) < k.toInt64) ↔ ¬ (k.toInt ≤ 256) := by
        rw [Int64.lt_iff_toInt_lt, Int32.toInt_toInt64, show (256 : Int64).toInt = 256 from rfl]; omega
      refine ⟨decide (((1 : Int64) ≤ l ∧ l ≤ 1000000000000000) ∧ (0 ≤ k.toInt ∧ k.toInt ≤ 256)), ?_, fun τ => ?_, fun w => ⟨Or.inr (Or.inr (Or.inr (Or.inl rfl))), fun _ => hneg (of_decide_eq_true w).1⟩⟩
      · rw [swt_n (by decide) rfl]
        by_cases q1 : (1 : Int64) ≤ l ∧ l ≤ 1000000000000000
        · by_cases q2 : 0 ≤ k.toInt
          · by_cases q3 : k.toInt ≤ 256
            · simp [ap_ite, q1, a2, a3, q2, q3, rz_0, rz_1, bi]
            · simp [ap_ite, q1, a2, a3, q2, q3, rz_0, rz_1, bi]
          · simp [ap_ite, q1, a2, a3, q2, rz_0, rz_1, bi]
        · simp [ap_ite, q1, rz_0, rz_1, bi]
      · rw [hst, swt_n (by decide) rfl, q_in]
        by_cases q1 : (1 : Int64) ≤ l ∧ l ≤ 1000000000000000
        · rw [ap_ite, if_neg (by rw [bi_0]; exact fun z => z q1), q_in, ap_ite]
          by_cases q2 : 0 ≤ k.toInt ∧ k.toInt ≤ 256
          · rw [if_neg (by rw [bi_0, a1]; exact fun z => z q2)]
            simp [q1, q2, bi]
          · rw [if_pos (by rw [bi_0, a1]; exact q2)]
            simp [q2, bi]
        · rw [ap_ite, if_pos (by rw [bi_0]; exact q1)]
          simp [q1, bi]
    | 4, _ =>
      have a1 : ((-100 : Int64) ≤ k.toInt64 ∧ k.toInt64 ≤ 100) ↔ (-100 ≤ k.toInt ∧ k.toInt ≤ 100) := by
        simp only [Int64.le_iff_toInt_le, Int32.toInt_toInt64, show (-100 : Int64).toInt = -100 from rfl, show (100 : Int64).toInt = 100 from rfl]
      have a2 : (k < (-100 : Int32)) ↔ ¬ (-100 ≤ k.toInt) := by
        rw [Int32.lt_iff_toInt_lt, show (-100 : Int32).toInt = -100 from rfl]; omega
      have a3 : ((100 : Int32) < k) ↔ ¬ (k.toInt ≤ 100) := by
        rw [Int32.lt_iff_toInt_lt, show (100 : Int32).toInt = 100 from rfl]; omega
      refine ⟨decide (((0 : Int64) ≤ l ∧ l ≤ 256) ∧ (-100 ≤ k.toInt ∧ k.toInt ≤ 100)), ?_, fun τ => ?_, fun w => ⟨Or.inr (Or.inr (Or.inr (Or.inr rfl))), fun q => absurd q (by decide)⟩⟩
      · rw [swt_n (by decide) rfl]
        by_cases q1 : (0 : Int64) ≤ l ∧ l ≤ 256
        · by_cases q2 : -100 ≤ k.toInt
          · by_cases q3 : k.toInt ≤ 100
            · simp [ap_ite, q1, a2, a3, q2, q3, rz_0, rz_1, bi]
            · simp [ap_ite, q1, a2, a3, q2, q3, rz_0, rz_1, bi]
          · simp [ap_ite, q1, a2, a3, q2, rz_0, rz_1, bi]
        · simp [ap_ite, q1, rz_0, rz_1, bi]
      · rw [hst, swt_o (Or.inr (by show (0 : Int) + ((4 : Nat) : Int) ≤ (nI 4).toInt; decide)), ap_ite, if_pos (by rfl), q_in]
        by_cases q1 : (0 : Int64) ≤ l ∧ l ≤ 256
        · rw [ap_ite, if_neg (by rw [bi_0]; exact fun z => z q1), q_in, ap_ite]
          by_cases q2 : -100 ≤ k.toInt ∧ k.toInt ≤ 100
          · rw [if_neg (by rw [bi_0, a1]; exact fun z => z q2)]
            simp [q1, q2, bi]
          · rw [if_pos (by rw [bi_0, a1]; exact q2)]
            simp [q2, bi]
        · rw [ap_ite, if_pos (by rw [bi_0]; exact q1)]
          simp [q1, bi]
  · refine ⟨false, ?_, fun τ => ?_, fun w => by cases w⟩
    · rw [swt_b (n := 5) (by decide) rfl hi, rz_0]
      rfl
    · have h4 : i ≠ 4 := fun q => hi (by subst q; decide)
      have h4' : ¬ (0 ≤ i ∧ i < nI 4) := fun q => hi ⟨q.1, by
        have := q.2
        simp only [Int32.lt_iff_toInt_lt, show (nI 4).toInt = 4 from rfl, show (nI 5).toInt = 5 from rfl] at this ⊢
        omega⟩
      rw [hst, swt_b (n := 4) (by decide) rfl h4', ap_ite, if_neg h4]
      rfl
theorem s_stage240 {s : Nat} (hs : s < 5) : ∀ (r k n : Nat) (σ : SS), k + r = 6 → r < n → σ.1 (fa 81 6) 0 = nI s → σ.2.1 91 = (fun _ => 0) → l_Md_stage_240 n 81 (nI k) (lay σ) = some (nI s, lay (sI σ (fa 81 6) (fun _ => nI (s + 1))))
  | r, k, 0, σ, h, hn, h6, hN => by omega
  | 0, k, n + 1, σ, h, hn, h6, hN => by
    have hq : 6 ≤ k := by omega
    show b_Md_stage_240 (l_Md_stage_240 n) 81 (nI k) (lay σ) = _
    unfold b_Md_stage_240
    simp (disch := first | assumption | rfl | decide | omega) only [↓ckd_lay, ↓bd_gI, ↓bd_gL, ↓bd_pI, ↓bd_pL, ↓bd_pZ, ↓bd_now, ↓bd_next, ↓bd_ldR3, ↓bd_ldR4, ↓ap_ite, ↓ap_rt, ↓ap_lt, ↓rz_0, ↓rz_1, rz_bi, ↓gr_81_0, ↓gr_81_1, ↓gr_81_2, ↓gr_81_3, ↓gr_81_4, ↓gr_81_7, ↓gr_81_8, ↓gr_81_9, ↓gr_81_11, ↓gr_81_14, ↓gr_81_17, ↓gr_81_18, ↓gr_81_20, ↓gr_81_21, ↓gr_81_25, ↓gr_81_26, ↓gr_81_27, ↓gr_81_28, ↓gr_81_29, ↓gr_81_31, ↓gr_81_32, ↓gr_81_33, ↓gr_81_34, ↓gr_81_36, ↓gr_81_39, ln_0, ln_1, ln_2, ln_3, ln_4, ln_5, ln_6, ln_7, ln_8, ln_10, ln_11, ln_12, ln_13, ln_15, ln_16, ln_30, ln_60, ln_256, ln_300, ln_400, ln_500, ln_1023, ln_1024, nl_0, nl_1, nl_2, nl_3, nl_4, nl_5, nl_6, nl_7, nl_8, nl_10, nl_11, nl_12, nl_13, nl_15, nl_16, nl_30, nl_60, nl_256, nl_300, nl_400, nl_500, nl_1023, nl_1024, tn_0, tn_1, tn_2, tn_3, tn_4, tn_5, tn_6, tn_7, tn_8, tn_10, tn_11, tn_12, tn_13, tn_15, tn_16, tn_30, tn_60, tn_256, tn_300, tn_400, tn_500, tn_1023, tn_1024, nt_0, nt_1, nt_2, nt_3, nt_4, nt_5, nt_6, nt_7, nt_8, nt_10, nt_11, nt_12, nt_13, nt_15, nt_16, nt_30, nt_60, nt_256, nt_300, nt_400, nt_500, nt_1023, nt_1024, ne_0, ne_1, ne_2, ne_3, ne_4, ne_5, ne_6, ne_7, ne_8, ne_10, ne_11, ne_12, ne_13, ne_15, ne_16, ne_30, ne_60, ne_256, ne_300, ne_400, ne_500, ne_1023, ne_1024, le_nn, lt_nn, eq_nn, hq, if_true, h6, na_1, sI_row, ns_1, Nat.add_sub_cancel]
  | r + 1, k, n + 1, σ, h, hn, h6, hN => by
    have hq : ¬ 6 ≤ k := by omega
    have e : sL σ 91 (va_up (σ.2.1 91) (6 * s + k) 0) = σ := by
      have : va_up (σ.2.1 91) (6 * s + k) 0 = σ.2.1 91 := by
        funext q
        rw [hN]
        by_cases w : q = 6 * s + k
        · rw [w, up_same]
        · rw [up_ne w]
      rw [this, sL_id]
    show b_Md_stage_240 (l_Md_stage_240 n) 81 (nI k) (lay σ) = _
    unfold b_Md_stage_240
    simp (disch := first | assumption | rfl | decide | omega) only [↓ckd_lay, ↓bd_gI, ↓bd_gL, ↓bd_pI, ↓bd_pL, ↓bd_pZ, ↓bd_now, ↓bd_next, ↓bd_ldR3, ↓bd_ldR4, ↓ap_ite, ↓ap_rt, ↓ap_lt, ↓rz_0, ↓rz_1, rz_bi, ↓gr_81_0, ↓gr_81_1, ↓gr_81_2, ↓gr_81_3, ↓gr_81_4, ↓gr_81_7, ↓gr_81_8, ↓gr_81_9, ↓gr_81_11, ↓gr_81_14, ↓gr_81_17, ↓gr_81_18, ↓gr_81_20, ↓gr_81_21, ↓gr_81_25, ↓gr_81_26, ↓gr_81_27, ↓gr_81_28, ↓gr_81_29, ↓gr_81_31, ↓gr_81_32, ↓gr_81_33, ↓gr_81_34, ↓gr_81_36, ↓gr_81_39, ln_0, ln_1, ln_2, ln_3, ln_4, ln_5, ln_6, ln_7, ln_8, ln_10, ln_11, ln_12, ln_13, ln_15, ln_16, ln_30, ln_60, ln_256, ln_300, ln_400, ln_500, ln_1023, ln_1024, nl_0, nl_1, nl_2, nl_3, nl_4, nl_5, nl_6, nl_7, nl_8, nl_10, nl_11, nl_12, nl_13, nl_15, nl_16, nl_30, nl_60, nl_256, nl_300, nl_400, nl_500, nl_1023, nl_1024, tn_0, tn_1, tn_2, tn_3, tn_4, tn_5, tn_6, tn_7, tn_8, tn_10, tn_11, tn_12, tn_13, tn_15, tn_16, tn_30, tn_60, tn_256, tn_300, tn_400, tn_500, tn_1023, tn_1024, nt_0, nt_1, nt_2, nt_3, nt_4, nt_5, nt_6, nt_7, nt_8, nt_10, nt_11, nt_12, nt_13, nt_15, nt_16, nt_30, nt_60, nt_256, nt_300, nt_400, nt_500, nt_1023, nt_1024, ne_0, ne_1, ne_2, ne_3, ne_4, ne_5, ne_6, ne_7, ne_8, ne_10, ne_11, ne_12, ne_13, ne_15, ne_16, ne_30, ne_60, ne_256, ne_300, ne_400, ne_500, ne_1023, ne_1024, le_nn, lt_nn, eq_nn, hq, if_false, h6, na_0, na_1, na_2, na_3, na_4, na_5, na_6, na_7, na_8, na_10, na_11, na_12, na_13, na_15, na_16, na_30, na_60, na_300, an_0, an_1, an_2, an_3, an_4, an_5, an_6, an_7, an_8, an_10, an_11, an_12, an_13, an_15, an_16, an_30, an_60, an_300, nm_0, nm_1, nm_2, nm_3, nm_4, nm_5, nm_6, nm_7, nm_8, nm_10, nm_11, nm_12, nm_13, nm_15, nm_16, nm_30, nm_60, nm_300, mn_0, mn_1, mn_2, mn_3, mn_4, mn_5, mn_6, mn_7, mn_8, mn_10, mn_11, mn_12, mn_13, mn_15, mn_16, mn_30, mn_60, mn_300, nI_add, pk_mul, ↓la_91, ↓st_91, e]
    exact s_stage240 hs r (k + 1) n σ (by omega) (by omega) h6 hN
theorem d_stage {σ : SS} {i k : Int32} {l : Int64} (h : Rel σ) : Duo (m_Ob_stage 1 i l k) (m_Md_stage 81 i l k) σ := by
  obtain ⟨⟨P, fs, a, b, S, c, r, p, z⟩, rs⟩ := h.cut2
  obtain ⟨h1, h2, h5, h7, h9, h11, h15, hm, hr, l2⟩ := id c
  obtain ⟨g2, g5, g7, g9, g11, g15, gm, gr, gl⟩ := id r
  have hp2 := p.2.1
  have hS5 := p.1.1.1.1
  obtain ⟨t, e1, e2, e3⟩ := told_both (σ := σ) (i := i) (k := k) (l := l)
  have pre : ∀ υ : SS, m_Ob_stage 1 i l k (lay σ) = if t = true then (if S.1 ≤ 0 then (if P.2.2.2.1 < 5 then m_Sp_addStage 15 i l k (lay σ) else some (-4, lay σ)) else some (-3, lay σ)) else some (-2, lay σ) := fun υ => by
    unfold m_Ob_stage
    rw [ckd_lay (ci := 8) (o := 1) rfl (by decide), bd_eq e1, ap_ite]
    by_cases q : t = true
    · rw [if_neg (by rw [bi_0]; exact fun w => w q), if_pos q]
      simp (disch := first | assumption | rfl | decide | omega) only [↓ckd_lay, ↓bd_gI, ↓bd_gL, ↓bd_pI, ↓bd_pL, ↓bd_pZ, ↓bd_now, ↓bd_next, ↓bd_ldR3, ↓bd_ldR4, ↓ap_ite, ↓ap_rt, ↓ap_lt, ↓rz_0, ↓rz_1, rz_bi, ↓gr_1_0, ↓gr_1_1, ↓gr_1_2, ↓gr_1_3, ↓gr_1_4, ↓gr_1_5, ↓gr_1_6, ↓gr_15_0, ↓gr_15_1, ↓gr_15_2, ↓gr_15_3, ↓gr_20_0, ↓gr_20_1, ↓gr_23_0, ↓gr_23_1, ↓gr_23_2, ↓gr_27_0, ↓gr_27_1, ↓gr_27_2, ↓gr_29_0, ↓gr_29_1, ↓gr_29_2, ↓gr_29_3, ↓gr_29_4, ↓gr_33_0, ↓gr_33_1, ↓gr_now, ↓gr_next, h15, ln_0, ln_1, ln_2, ln_3, ln_4, ln_5, ln_6, ln_7, ln_8, ln_10, ln_11, ln_12, ln_13, ln_15, ln_16, ln_30, ln_60, ln_256, ln_300, ln_400, ln_500, ln_1023, ln_1024, nl_0, nl_1, nl_2, nl_3, nl_4, nl_5, nl_6, nl_7, nl_8, nl_10, nl_11, nl_12, nl_13, nl_15, nl_16, nl_30, nl_60, nl_256, nl_300, nl_400, nl_500, nl_1023, nl_1024, tn_0, tn_1, tn_2, tn_3, tn_4, tn_5, tn_6, tn_7, tn_8, tn_10, tn_11, tn_12, tn_13, tn_15, tn_16, tn_30, tn_60, tn_256, tn_300, tn_400, tn_500, tn_1023, tn_1024, nt_0, nt_1, nt_2, nt_3, nt_4, nt_5, nt_6, nt_7, nt_8, nt_10, nt_11, nt_12, nt_13, nt_15, nt_16, nt_30, nt_60, nt_256, nt_300, nt_400, nt_500, nt_1023, nt_1024, ne_0, ne_1, ne_2, ne_3, ne_4, ne_5, ne_6, ne_7, ne_8, ne_10, ne_11, ne_12, ne_13, ne_15, ne_16, ne_30, ne_60, ne_256, ne_300, ne_400, ne_500, ne_1023, ne_1024, le_nn, lt_nn, eq_nn, h2.2.2.2.1]
      have : bd (m_Sp_addStage 15 i l k) (fun v7 => rt v7) (lay σ) = m_Sp_addStage 15 i l k (lay σ) := by
        unfold bd rt
        cases m_Sp_addStage 15 i l k (lay σ) <;> rfl
      rw [this]
    · rw [if_pos (by rw [bi_0]; exact q), if_neg q, ap_rt]
  by_cases q : t = true
  · by_cases h0 : S.1 = 0
    · have h0' : S.1 ≤ 0 := by omega
      by_cases h5s : P.2.2.2.1 < 5
      · obtain ⟨s, hs⟩ : ∃ s, s = P.2.2.2.1 := ⟨_, rfl⟩
        have mc : Mod [16, 17, 18, fa 15 4] σ (sI (sI (sL (sI σ 16 (va_up (σ.1 16) s i)) 17 (va_up (σ.2.1 17) s l)) 18 (va_up (σ.1 18) s k)) (fa 15 4) (fun _ => nI (s + 1))) := (((Mod.I (by simp)).tr (Mod.L (by simp))).tr (Mod.I (by simp))).tr (Mod.I (by simp))
        have ea : m_Sp_addStage 15 i l k (lay σ) = some (nI s, lay (sI (sI (sL (sI σ 16 (va_up (σ.1 16) s i)) 17 (va_up (σ.2.1 17) s l)) 18 (va_up (σ.1 18) s k)) (fa 15 4) (fun _ => nI (s + 1)))) := by
          unfold m_Sp_addStage
          have h4 := h2.2.2.2.1
          rw [← hs] at h4 h5s
          simp (disch := first | assumption | rfl | decide | omega) only [↓ckd_lay, ↓bd_gI, ↓bd_gL, ↓bd_pI, ↓bd_pL, ↓bd_pZ, ↓bd_now, ↓bd_next, ↓bd_ldR3, ↓bd_ldR4, ↓ap_ite, ↓ap_rt, ↓ap_lt, ↓rz_0, ↓rz_1, rz_bi, ↓gr_1_0, ↓gr_1_1, ↓gr_1_2, ↓gr_1_3, ↓gr_1_4, ↓gr_1_5, ↓gr_1_6, ↓gr_15_0, ↓gr_15_1, ↓gr_15_2, ↓gr_15_3, ↓gr_20_0, ↓gr_20_1, ↓gr_23_0, ↓gr_23_1, ↓gr_23_2, ↓gr_27_0, ↓gr_27_1, ↓gr_27_2, ↓gr_29_0, ↓gr_29_1, ↓gr_29_2, ↓gr_29_3, ↓gr_29_4, ↓gr_33_0, ↓gr_33_1, ↓gr_now, ↓gr_next, h4, ↓la_16, ↓st_16, ↓la_17, ↓st_17, ↓la_18, ↓st_18, sI_ne, sI_2, sL_1, na_1, sI_row, ns_1, Nat.add_sub_cancel]
        have hne : fa a 4 ≠ 17 := by unfold fa; omega
        have c1 : CI (sI (sI (sL (sI σ 16 (va_up (σ.1 16) s i)) 17 (va_up (σ.2.1 17) s l)) 18 (va_up (σ.1 18) s k)) (fa 15 4) (fun _ => nI (s + 1))) (va_up P.1 s i, va_up P.2.1 s l, va_up P.2.2.1 s k, s + 1, P.2.2.2.2) fs a b (0, S.2.1, fs, S.2.2.2) := by
          refine c.re h0 mc ?_ ⟨?_, ?_, ?_, ?_, ?_, ?_, ?_⟩ h5 ?_
          · rcases h1.2 with ⟨rfl, rfl⟩ | ⟨rfl, rfl⟩ <;> decide
          · rw [sI_ne (by decide), sI_ne (by decide), sL_1, sI_same, h2.1]
          · rw [sI_2, sI_2, sL_same, h2.2.1]
          · rw [sI_ne (by decide), sI_same, h2.2.2.1]
          · exact sI_row
          · exact h2.2.2.2.2.1
          · rw [mc.i (by decide)]; exact h2.2.2.2.2.2.1
          · rw [mc.i (by decide)]; exact h2.2.2.2.2.2.2
          · rw [sI_2, sI_2, sL_ne hne]; exact h7.trans (p.at0 h0).2
        have r1 : RI (sI (sI (sL (sI σ 16 (va_up (σ.1 16) s i)) 17 (va_up (σ.2.1 17) s l)) 18 (va_up (σ.1 18) s k)) (fa 15 4) (fun _ => nI (s + 1))) P fs S := r.mod mc.p (by decide)
        generalize hτ : sI (sI (sL (sI σ 16 (va_up (σ.1 16) s i)) 17 (va_up (σ.2.1 17) s l)) 18 (va_up (σ.1 18) s k)) (fa 15 4) (fun _ => nI (s + 1)) = τ at c1 r1 mc ea
        obtain ⟨f2, f5, f7, f9, f11, f15, fm, fr, fl⟩ := id r1
        have mr : Mod [87, 88, 89, fa 81 6] τ (sI (sI (sL (sI τ 87 (va_up (τ.1 87) s i)) 88 (va_up (τ.2.1 88) s l)) 89 (va_up (τ.1 89) s k)) (fa 81 6) (fun _ => nI (s + 1))) := (((Mod.I (by simp)).tr (Mod.L (by simp))).tr (Mod.I (by simp))).tr (Mod.I (by simp))
        have r2 : RI (sI (sI (sL (sI τ 87 (va_up (τ.1 87) s i)) 88 (va_up (τ.2.1 88) s l)) 89 (va_up (τ.1 89) s k)) (fa 81 6) (fun _ => nI (s + 1))) (va_up P.1 s i, va_up P.2.1 s l, va_up P.2.2.1 s k, s + 1, P.2.2.2.2) fs (0, S.2.1, fs, S.2.2.2) := by
          refine r1.re h0 mr (by decide) ⟨?_, ?_, ?_, sI_row, f2.2.2.2.2.1, ?_, ?_⟩ f9 f5 ?_
          · rw [sI_ne (by decide), sI_ne (by decide), sL_1, sI_same, f2.1]
          · rw [sI_2, sI_2, sL_same, f2.2.1]
          · rw [sI_ne (by decide), sI_same, f2.2.2.1]
          · rw [mr.i (by decide)]; exact f2.2.2.2.2.2.1
          · rw [mr.i (by decide)]; exact f2.2.2.2.2.2.2
          · exact f7.trans (p.at0 h0).2
        have pA : AllP (va_up P.1 s i, va_up P.2.1 s l, va_up P.2.2.1 s k, s + 1, P.2.2.2.2) := by
          refine ⟨⟨⟨by show s + 1 ≤ 5; omega, p.1.1.1.2⟩, fun w hw => ?_⟩, p.1.2⟩
          have hw' : w < s + 1 := hw
          show (va_up P.1 s i w = 0 ∨ va_up P.1 s i w = 1 ∨ va_up P.1 s i w = 2 ∨ va_up P.1 s i w = 3 ∨ va_up P.1 s i w = 4) ∧ (va_up P.1 s i w = 2 ∨ va_up P.1 s i w = 3 → ¬ (va_up P.2.1 s l w < -(va_up P.2.1 s l w)))
          by_cases ww : w = s
          · rw [ww, up_same, up_same]; exact e3 q
          · rw [up_ne ww, up_ne ww]; exact p.1.1.2 w (by omega)
        refine ⟨nI s, τ, _, ?_, ?_, Rel.mk2 (c1.mod mr (by decide)) r2 (p.re h0 pA) ((z.mdp mc.p (by decide)).mdp mr.p (by decide)) ((rs.mdp mc.p (by decide)).mdp mr.p (by decide))⟩
        · rw [pre σ, if_pos q, if_pos h0', if_pos h5s, ea]
        · rw [e2 τ]
          unfold m_Md_stage_177
          have h4 := f2.2.2.2.1
          rw [← hs] at h4 h5s
          have h5n : ¬ s = 5 := by omega
          rw [ap_ite, if_neg (by rw [bi_0]; exact fun w => w q)]
          simp (disch := first | assumption | rfl | decide | omega) only [↓ckd_lay, ↓bd_gI, ↓bd_gL, ↓bd_pI, ↓bd_pL, ↓bd_pZ, ↓bd_now, ↓bd_next, ↓bd_ldR3, ↓bd_ldR4, ↓ap_ite, ↓ap_rt, ↓ap_lt, ↓rz_0, ↓rz_1, rz_bi, ↓gr_81_0, ↓gr_81_1, ↓gr_81_2, ↓gr_81_3, ↓gr_81_4, ↓gr_81_7, ↓gr_81_8, ↓gr_81_9, ↓gr_81_11, ↓gr_81_14, ↓gr_81_17, ↓gr_81_18, ↓gr_81_20, ↓gr_81_21, ↓gr_81_25, ↓gr_81_26, ↓gr_81_27, ↓gr_81_28, ↓gr_81_29, ↓gr_81_31, ↓gr_81_32, ↓gr_81_33, ↓gr_81_34, ↓gr_81_36, ↓gr_81_39, f15, ln_0, ln_1, ln_2, ln_3, ln_4, ln_5, ln_6, ln_7, ln_8, ln_10, ln_11, ln_12, ln_13, ln_15, ln_16, ln_30, ln_60, ln_256, ln_300, ln_400, ln_500, ln_1023, ln_1024, nl_0, nl_1, nl_2, nl_3, nl_4, nl_5, nl_6, nl_7, nl_8, nl_10, nl_11, nl_12, nl_13, nl_15, nl_16, nl_30, nl_60, nl_256, nl_300, nl_400, nl_500, nl_1023, nl_1024, tn_0, tn_1, tn_2, tn_3, tn_4, tn_5, tn_6, tn_7, tn_8, tn_10, tn_11, tn_12, tn_13, tn_15, tn_16, tn_30, tn_60, tn_256, tn_300, tn_400, tn_500, tn_1023, tn_1024, nt_0, nt_1, nt_2, nt_3, nt_4, nt_5, nt_6, nt_7, nt_8, nt_10, nt_11, nt_12, nt_13, nt_15, nt_16, nt_30, nt_60, nt_256, nt_300, nt_400, nt_500, nt_1023, nt_1024, ne_0, ne_1, ne_2, ne_3, ne_4, ne_5, ne_6, ne_7, ne_8, ne_10, ne_11, ne_12, ne_13, ne_15, ne_16, ne_30, ne_60, ne_256, ne_300, ne_400, ne_500, ne_1023, ne_1024, le_nn, lt_nn, eq_nn, h0', if_true, h4, h5n, if_false, ↓la_87, ↓st_87, ↓la_88, ↓st_88, ↓la_89, ↓st_89, sI_ne, sI_2, sL_1]
          exact s_stage240 h5s 6 0 FU (sI (sL (sI τ 87 (va_up (τ.1 87) s i)) 88 (va_up (τ.2.1 88) s l)) 89 (va_up (τ.1 89) s k)) (by omega) (by unfold FU; omega) (by rw [sI_ne (by decide), sL_1, sI_ne (by decide)]; exact h4) (f9.trans (p.at0 h0).1)
      · have h5e : P.2.2.2.1 = 5 := by omega
        refine Duo.same h (-4) ?_ ?_
        · rw [pre σ, if_pos q, if_pos h0', if_neg h5s]
        · rw [e2 σ]
          unfold m_Md_stage_177
          rw [ap_ite, if_neg (by rw [bi_0]; exact fun w => w q)]
          simp (disch := first | assumption | rfl | decide | omega) only [↓ckd_lay, ↓bd_gI, ↓bd_gL, ↓bd_pI, ↓bd_pL, ↓bd_pZ, ↓bd_now, ↓bd_next, ↓bd_ldR3, ↓bd_ldR4, ↓ap_ite, ↓ap_rt, ↓ap_lt, ↓rz_0, ↓rz_1, rz_bi, ↓gr_81_0, ↓gr_81_1, ↓gr_81_2, ↓gr_81_3, ↓gr_81_4, ↓gr_81_7, ↓gr_81_8, ↓gr_81_9, ↓gr_81_11, ↓gr_81_14, ↓gr_81_17, ↓gr_81_18, ↓gr_81_20, ↓gr_81_21, ↓gr_81_25, ↓gr_81_26, ↓gr_81_27, ↓gr_81_28, ↓gr_81_29, ↓gr_81_31, ↓gr_81_32, ↓gr_81_33, ↓gr_81_34, ↓gr_81_36, ↓gr_81_39, g15, ln_0, ln_1, ln_2, ln_3, ln_4, ln_5, ln_6, ln_7, ln_8, ln_10, ln_11, ln_12, ln_13, ln_15, ln_16, ln_30, ln_60, ln_256, ln_300, ln_400, ln_500, ln_1023, ln_1024, nl_0, nl_1, nl_2, nl_3, nl_4, nl_5, nl_6, nl_7, nl_8, nl_10, nl_11, nl_12, nl_13, nl_15, nl_16, nl_30, nl_60, nl_256, nl_300, nl_400, nl_500, nl_1023, nl_1024, tn_0, tn_1, tn_2, tn_3, tn_4, tn_5, tn_6, tn_7, tn_8, tn_10, tn_11, tn_12, tn_13, tn_15, tn_16, tn_30, tn_60, tn_256, tn_300, tn_400, tn_500, tn_1023, tn_1024, nt_0, nt_1, nt_2, nt_3, nt_4, nt_5, nt_6, nt_7, nt_8, nt_10, nt_11, nt_12, nt_13, nt_15, nt_16, nt_30, nt_60, nt_256, nt_300, nt_400, nt_500, nt_1023, nt_1024, ne_0, ne_1, ne_2, ne_3, ne_4, ne_5, ne_6, ne_7, ne_8, ne_10, ne_11, ne_12, ne_13, ne_15, ne_16, ne_30, ne_60, ne_256, ne_300, ne_400, ne_500, ne_1023, ne_1024, le_nn, lt_nn, eq_nn, h0', if_true, g2.2.2.2.1, h5e]
    · have h0' : ¬ S.1 ≤ 0 := by omega
      refine Duo.same h (-3) ?_ ?_
      · rw [pre σ, if_pos q, if_neg h0']
      · rw [e2 σ]
        unfold m_Md_stage_177
        rw [ap_ite, if_neg (by rw [bi_0]; exact fun w => w q)]
        simp (disch := first | assumption | rfl | decide | omega) only [↓ckd_lay, ↓bd_gI, ↓bd_gL, ↓bd_pI, ↓bd_pL, ↓bd_pZ, ↓bd_now, ↓bd_next, ↓bd_ldR3, ↓bd_ldR4, ↓ap_ite, ↓ap_rt, ↓ap_lt, ↓rz_0, ↓rz_1, rz_bi, ↓gr_81_0, ↓gr_81_1, ↓gr_81_2, ↓gr_81_3, ↓gr_81_4, ↓gr_81_7, ↓gr_81_8, ↓gr_81_9, ↓gr_81_11, ↓gr_81_14, ↓gr_81_17, ↓gr_81_18, ↓gr_81_20, ↓gr_81_21, ↓gr_81_25, ↓gr_81_26, ↓gr_81_27, ↓gr_81_28, ↓gr_81_29, ↓gr_81_31, ↓gr_81_32, ↓gr_81_33, ↓gr_81_34, ↓gr_81_36, ↓gr_81_39, g15, ln_0, ln_1, ln_2, ln_3, ln_4, ln_5, ln_6, ln_7, ln_8, ln_10, ln_11, ln_12, ln_13, ln_15, ln_16, ln_30, ln_60, ln_256, ln_300, ln_400, ln_500, ln_1023, ln_1024, nl_0, nl_1, nl_2, nl_3, nl_4, nl_5, nl_6, nl_7, nl_8, nl_10, nl_11, nl_12, nl_13, nl_15, nl_16, nl_30, nl_60, nl_256, nl_300, nl_400, nl_500, nl_1023, nl_1024, tn_0, tn_1, tn_2, tn_3, tn_4, tn_5, tn_6, tn_7, tn_8, tn_10, tn_11, tn_12, tn_13, tn_15, tn_16, tn_30, tn_60, tn_256, tn_300, tn_400, tn_500, tn_1023, tn_1024, nt_0, nt_1, nt_2, nt_3, nt_4, nt_5, nt_6, nt_7, nt_8, nt_10, nt_11, nt_12, nt_13, nt_15, nt_16, nt_30, nt_60, nt_256, nt_300, nt_400, nt_500, nt_1023, nt_1024, ne_0, ne_1, ne_2, ne_3, ne_4, ne_5, ne_6, ne_7, ne_8, ne_10, ne_11, ne_12, ne_13, ne_15, ne_16, ne_30, ne_60, ne_256, ne_300, ne_400, ne_500, ne_1023, ne_1024, le_nn, lt_nn, eq_nn, h0', if_false]
  · refine Duo.same h (-2) ?_ ?_
    · rw [pre σ, if_neg q]
    · rw [e2 σ]
      unfold m_Md_stage_177
      rw [ap_ite, if_pos (by rw [bi_0]; exact q), ap_rt]
