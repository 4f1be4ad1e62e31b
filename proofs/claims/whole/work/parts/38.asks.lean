/-! Calls that only ask, and small changes. -/
theorem RCore.tw {σ : SS} {P : SH} {a b T : Nat} {N : Nat → Int64} {sd fs : Int64} (h : RCore σ P a b T N sd fs) : IsTw a ∧ IsTw b := by
  rcases h.1.2 with ⟨rfl, rfl⟩ | ⟨rfl, rfl⟩
  · exact ⟨tw_now, tw_next⟩
  · exact ⟨tw_next, tw_now⟩
theorem in_n (i : Int32) {n : Nat} (hn : n < 2 ^ 30) : ((0 : Int64) ≤ i.toInt64 ∧ i.toInt64 ≤ (nI n - 1).toInt64) ↔ (0 ≤ i ∧ i < nI n) := by
  have e : (nI n - 1).toInt = (n : Int) - 1 := pk_sub_toInt (b := 1) hn (by decide)
  simp only [Int64.le_iff_toInt_le, Int32.le_iff_toInt_le, Int32.lt_iff_toInt_lt, Int32.toInt_toInt64, show (0 : Int64).toInt = 0 from rfl, show (0 : Int32).toInt = 0 from rfl, e, nI_toInt (show n < 2 ^ 31 by omega)]
  omega
theorem in_c (i : Int32) {n : Nat} {c : Int64} (hn : n < 2 ^ 30) (hc : c.toInt = (n : Int) - 1) : ((0 : Int64) ≤ i.toInt64 ∧ i.toInt64 ≤ c) ↔ (0 ≤ i ∧ i < nI n) := by
  simp only [Int64.le_iff_toInt_le, Int32.le_iff_toInt_le, Int32.lt_iff_toInt_lt, Int32.toInt_toInt64, show (0 : Int64).toInt = 0 from rfl, show (0 : Int32).toInt = 0 from rfl, hc, nI_toInt (show n < 2 ^ 31 by omega)]
  omega
theorem q_inN {α : Type} {i : Int32} {n : Nat} {σ : SS} {f : Int32 → M α} (hn : n < 2 ^ 30) : bd (m_Md_in i.toInt64 0 (nI n - 1).toInt64) f (lay σ) = f (bi (0 ≤ i ∧ i < nI n)) (lay σ) := by
  rw [q_in, bi_congr (in_n i hn)]
theorem q_inC {α : Type} {i : Int32} (n : Nat) {c : Int64} {σ : SS} {f : Int32 → M α} (hn : n < 2 ^ 30) (hc : c.toInt = (n : Int) - 1) : bd (m_Md_in i.toInt64 0 c) f (lay σ) = f (bi (0 ≤ i ∧ i < nI n)) (lay σ) := by
  rw [q_in, bi_congr (in_c i hn hc)]
theorem ite_in {β : Type} {i : Int32} {n : Nat} {A B : β} : (if i < 0 then A else if nI n ≤ i then A else B) = if 0 ≤ i ∧ i < nI n then B else A := by
  by_cases h : i < 0
  · have : ¬ (0 ≤ i) := by rw [Int32.not_le]; exact h
    simp [h, this]
  · have h0 : 0 ≤ i := by rw [← Int32.not_lt]; exact h
    by_cases h6 : nI n ≤ i
    · have : ¬ i < nI n := by rw [Int32.not_lt]; exact h6
      simp [h, h6, this]
    · have : i < nI n := by rw [← Int32.not_le]; exact h6
      simp [h, h6, this, h0]
theorem ite_in2 {β : Type} {i : Int32} {n : Nat} {A B : β} : (if i < 0 then A else if i < nI n then B else A) = if 0 ≤ i ∧ i < nI n then B else A := by
  by_cases h : i < 0
  · have : ¬ (0 ≤ i) := by rw [Int32.not_le]; exact h
    simp [h, this]
  · have h0 : 0 ≤ i := by rw [← Int32.not_lt]; exact h
    by_cases h6 : i < nI n
    · simp [h, h6, h0]
    · simp [h, h6]
theorem bi_ite {p : Prop} [Decidable p] {h : AH} : (if p then some ((1 : Int32), h) else some (0, h)) = some (bi p, h) := by unfold bi; split <;> rfl
theorem s_hasStage {i : Int32} {σ : SS} {n : Nat} (hn : σ.1 (fa 15 4) 0 = nI n) : m_Sp_hasStage 15 i (lay σ) = some (bi (0 ≤ i ∧ i < nI n), lay σ) := by
  unfold m_Sp_hasStage
  simp (disch := first | assumption | rfl | decide | omega) only [↓ckd_lay, ↓bd_gI, ↓bd_gL, ↓bd_pI, ↓bd_pL, ↓bd_pZ, ↓bd_now, ↓bd_next, ↓bd_ldR3, ↓bd_ldR4, ↓ap_ite, ↓ap_rt, ↓ap_lt, ↓rz_0, ↓rz_1, rz_bi, hn, ite_in, bi_ite]
theorem s_hasLevel {i : Int32} {σ : SS} {n : Nat} (hn : σ.1 (fa 15 5) 0 = nI n) : m_Sp_hasLevel 15 i (lay σ) = some (bi (0 ≤ i ∧ i < nI n), lay σ) := by
  unfold m_Sp_hasLevel
  simp (disch := first | assumption | rfl | decide | omega) only [↓ckd_lay, ↓bd_gI, ↓bd_gL, ↓bd_pI, ↓bd_pL, ↓bd_pZ, ↓bd_now, ↓bd_next, ↓bd_ldR3, ↓bd_ldR4, ↓ap_ite, ↓ap_rt, ↓ap_lt, ↓rz_0, ↓rz_1, rz_bi, hn, ite_in, bi_ite]
theorem s_hasStep {i : Int32} {σ : SS} {n : Nat} (hn : σ.1 (fa 20 2) 0 = nI n) : m_Lg_hasStep 20 i (lay σ) = some (bi (0 ≤ i ∧ i < nI n), lay σ) := by
  unfold m_Lg_hasStep
  simp (disch := first | assumption | rfl | decide | omega) only [↓ckd_lay, ↓bd_gI, ↓bd_gL, ↓bd_pI, ↓bd_pL, ↓bd_pZ, ↓bd_now, ↓bd_next, ↓bd_ldR3, ↓bd_ldR4, ↓ap_ite, ↓ap_rt, ↓ap_lt, ↓rz_0, ↓rz_1, rz_bi, hn, ite_in, bi_ite]
/-- a pair of calls that answer alike and keep the relation -/
def Duo {β : Type} (f g : M β) (σ : SS) : Prop := ∃ r τ υ, f (lay σ) = some (r, lay τ) ∧ g (lay τ) = some (r, lay υ) ∧ Rel υ
theorem Duo.same {β : Type} {f g : M β} {σ : SS} (h : Rel σ) (r : β) (e : f (lay σ) = some (r, lay σ)) (e2 : g (lay σ) = some (r, lay σ)) : Duo f g σ := ⟨r, σ, σ, e, e2, h⟩
theorem d_levelAt {σ : SS} {i : Int32} (h : Rel σ) : Duo (m_Ob_levelAt 1 i) (m_Md_levelAt 81 i) σ := by
  obtain ⟨⟨P, a, b, T, N, sd, fs, hC, -⟩, -⟩ := id h
  obtain ⟨-, ⟨c1, c2, ⟨⟨⟨-, -, h16, -⟩, -⟩, -⟩⟩, -⟩ := hC
  by_cases hi : 0 ≤ i ∧ i < nI P.2.2.2.2.2.1
  · obtain ⟨j, hj, rfl⟩ := nI_ex (by omega) hi.1 hi.2
    refine Duo.same h (P.2.2.2.2.1 j) ?_ ?_
    · unfold m_Ob_levelAt
      simp (disch := first | assumption | rfl | decide | omega) only [↓ckd_lay, ↓bd_gI, ↓bd_gL, ↓bd_pI, ↓bd_pL, ↓bd_pZ, ↓bd_now, ↓bd_next, ↓bd_ldR3, ↓bd_ldR4, ↓ap_ite, ↓ap_rt, ↓ap_lt, ↓rz_0, ↓rz_1, rz_bi, ↓gr_1_0, ↓gr_1_1, ↓gr_1_2, ↓gr_1_3, ↓gr_1_4, ↓gr_1_5, ↓gr_1_6, ↓gr_15_0, ↓gr_15_1, ↓gr_15_2, ↓gr_15_3, ↓gr_20_0, ↓gr_20_1, ↓gr_23_0, ↓gr_23_1, ↓gr_23_2, ↓gr_27_0, ↓gr_27_1, ↓gr_27_2, ↓gr_29_0, ↓gr_29_1, ↓gr_29_2, ↓gr_29_3, ↓gr_29_4, ↓gr_33_0, ↓gr_33_1, ↓gr_now, ↓gr_next]
      rw [bd_eq (s_hasLevel c1.2.2.2.2.2.1)]
      simp (disch := first | assumption | rfl | decide | omega) only [↓ckd_lay, ↓bd_gI, ↓bd_gL, ↓bd_pI, ↓bd_pL, ↓bd_pZ, ↓bd_now, ↓bd_next, ↓bd_ldR3, ↓bd_ldR4, ↓ap_ite, ↓ap_rt, ↓ap_lt, ↓rz_0, ↓rz_1, rz_bi, ↓gr_1_0, ↓gr_1_1, ↓gr_1_2, ↓gr_1_3, ↓gr_1_4, ↓gr_1_5, ↓gr_1_6, ↓gr_15_0, ↓gr_15_1, ↓gr_15_2, ↓gr_15_3, ↓gr_20_0, ↓gr_20_1, ↓gr_23_0, ↓gr_23_1, ↓gr_23_2, ↓gr_27_0, ↓gr_27_1, ↓gr_27_2, ↓gr_29_0, ↓gr_29_1, ↓gr_29_2, ↓gr_29_3, ↓gr_29_4, ↓gr_33_0, ↓gr_33_1, ↓gr_now, ↓gr_next, bi_0, hi, and_self, not_true_eq_false, if_false, ↓la_19, ↓st_19, c1.2.2.2.2.1]
    · unfold m_Md_levelAt
      simp (disch := first | assumption | rfl | decide | omega) only [↓ckd_lay, ↓bd_gI, ↓bd_gL, ↓bd_pI, ↓bd_pL, ↓bd_pZ, ↓bd_now, ↓bd_next, ↓bd_ldR3, ↓bd_ldR4, ↓ap_ite, ↓ap_rt, ↓ap_lt, ↓rz_0, ↓rz_1, rz_bi, ↓gr_81_0, ↓gr_81_1, ↓gr_81_2, ↓gr_81_3, ↓gr_81_4, ↓gr_81_7, ↓gr_81_8, ↓gr_81_9, ↓gr_81_11, ↓gr_81_14, ↓gr_81_17, ↓gr_81_18, ↓gr_81_20, ↓gr_81_21, ↓gr_81_25, ↓gr_81_26, ↓gr_81_27, ↓gr_81_28, ↓gr_81_29, ↓gr_81_31, ↓gr_81_32, ↓gr_81_33, ↓gr_81_34, ↓gr_81_36, ↓gr_81_39, c2.2.2.2.2.2.1, ↓q_inN, bi_0, hi, and_self, not_true_eq_false, if_false, ↓la_90, ↓st_90, c2.2.2.2.2.1]
  · refine Duo.same h (-9223372036854775808) ?_ ?_
    · unfold m_Ob_levelAt
      simp (disch := first | assumption | rfl | decide | omega) only [↓ckd_lay, ↓bd_gI, ↓bd_gL, ↓bd_pI, ↓bd_pL, ↓bd_pZ, ↓bd_now, ↓bd_next, ↓bd_ldR3, ↓bd_ldR4, ↓ap_ite, ↓ap_rt, ↓ap_lt, ↓rz_0, ↓rz_1, rz_bi, ↓gr_1_0, ↓gr_1_1, ↓gr_1_2, ↓gr_1_3, ↓gr_1_4, ↓gr_1_5, ↓gr_1_6, ↓gr_15_0, ↓gr_15_1, ↓gr_15_2, ↓gr_15_3, ↓gr_20_0, ↓gr_20_1, ↓gr_23_0, ↓gr_23_1, ↓gr_23_2, ↓gr_27_0, ↓gr_27_1, ↓gr_27_2, ↓gr_29_0, ↓gr_29_1, ↓gr_29_2, ↓gr_29_3, ↓gr_29_4, ↓gr_33_0, ↓gr_33_1, ↓gr_now, ↓gr_next]
      rw [bd_eq (s_hasLevel c1.2.2.2.2.2.1)]
      simp (disch := first | assumption | rfl | decide | omega) only [↓ckd_lay, ↓bd_gI, ↓bd_gL, ↓bd_pI, ↓bd_pL, ↓bd_pZ, ↓bd_now, ↓bd_next, ↓bd_ldR3, ↓bd_ldR4, ↓ap_ite, ↓ap_rt, ↓ap_lt, ↓rz_0, ↓rz_1, rz_bi, bi_0, hi, not_false_eq_true, if_true]
    · unfold m_Md_levelAt
      simp (disch := first | assumption | rfl | decide | omega) only [↓ckd_lay, ↓bd_gI, ↓bd_gL, ↓bd_pI, ↓bd_pL, ↓bd_pZ, ↓bd_now, ↓bd_next, ↓bd_ldR3, ↓bd_ldR4, ↓ap_ite, ↓ap_rt, ↓ap_lt, ↓rz_0, ↓rz_1, rz_bi, ↓gr_81_0, ↓gr_81_1, ↓gr_81_2, ↓gr_81_3, ↓gr_81_4, ↓gr_81_7, ↓gr_81_8, ↓gr_81_9, ↓gr_81_11, ↓gr_81_14, ↓gr_81_17, ↓gr_81_18, ↓gr_81_20, ↓gr_81_21, ↓gr_81_25, ↓gr_81_26, ↓gr_81_27, ↓gr_81_28, ↓gr_81_29, ↓gr_81_31, ↓gr_81_32, ↓gr_81_33, ↓gr_81_34, ↓gr_81_36, ↓gr_81_39, c2.2.2.2.2.2.1, ↓q_inN, bi_0, hi, not_false_eq_true, if_true]
theorem d_trace {σ : SS} {i : Int32} (h : Rel σ) : Duo (m_Ob_trace 1 i) (m_Md_trace 81 i) σ := by
  obtain ⟨⟨P, a, b, T, N, sd, fs, hC, ⟨l, hl, m1, m2⟩⟩, -⟩ := id h
  have hT : IsTw a := hC.tw.1
  have h6 := hT.1
  have hnow : σ.2.2.1 = a := by rw [hC.1.1]
  by_cases hi : 0 ≤ i ∧ i < nI l.length
  · obtain ⟨j, hj, rfl⟩ := nI_ex (by omega) hi.1 hi.2
    obtain ⟨c, hc⟩ : ∃ c, l[j]? = some c := ⟨_, List.getElem?_eq_getElem hj⟩
    refine Duo.same h c ?_ ?_
    · unfold m_Ob_trace
      simp (disch := first | assumption | rfl | decide | omega) only [↓ckd_lay, ↓bd_gI, ↓bd_gL, ↓bd_pI, ↓bd_pL, ↓bd_pZ, ↓bd_now, ↓bd_next, ↓bd_ldR3, ↓bd_ldR4, ↓ap_ite, ↓ap_rt, ↓ap_lt, ↓rz_0, ↓rz_1, rz_bi, ↓gr_1_0, ↓gr_1_1, ↓gr_1_2, ↓gr_1_3, ↓gr_1_4, ↓gr_1_5, ↓gr_1_6, ↓gr_15_0, ↓gr_15_1, ↓gr_15_2, ↓gr_15_3, ↓gr_20_0, ↓gr_20_1, ↓gr_23_0, ↓gr_23_1, ↓gr_23_2, ↓gr_27_0, ↓gr_27_1, ↓gr_27_2, ↓gr_29_0, ↓gr_29_1, ↓gr_29_2, ↓gr_29_3, ↓gr_29_4, ↓gr_33_0, ↓gr_33_1, ↓gr_now, ↓gr_next, hnow, ↓tg0 hT, ↓tg1 hT, ↓tg2 hT, ↓tld hT, ↓tst hT, ↓tsm hT, ↓bd_ldv, m1.1, ite_in, hi, and_self, if_true]
      rw [bd_ldI hT.2.2.2.1 (by rw [hT.2.2.2.2.1]; omega), m1.2 j c hc, ap_rt]
    · unfold m_Md_trace
      simp (disch := first | assumption | rfl | decide | omega) only [↓ckd_lay, ↓bd_gI, ↓bd_gL, ↓bd_pI, ↓bd_pL, ↓bd_pZ, ↓bd_now, ↓bd_next, ↓bd_ldR3, ↓bd_ldR4, ↓ap_ite, ↓ap_rt, ↓ap_lt, ↓rz_0, ↓rz_1, rz_bi, ↓gr_81_0, ↓gr_81_1, ↓gr_81_2, ↓gr_81_3, ↓gr_81_4, ↓gr_81_7, ↓gr_81_8, ↓gr_81_9, ↓gr_81_11, ↓gr_81_14, ↓gr_81_17, ↓gr_81_18, ↓gr_81_20, ↓gr_81_21, ↓gr_81_25, ↓gr_81_26, ↓gr_81_27, ↓gr_81_28, ↓gr_81_29, ↓gr_81_31, ↓gr_81_32, ↓gr_81_33, ↓gr_81_34, ↓gr_81_36, ↓gr_81_39, m2.1, ↓q_inN, bi_0, hi, and_self, not_true_eq_false, if_false, ↓la_94, ↓st_94, m2.2 j c hc]
  · refine Duo.same h (-1) ?_ ?_
    · unfold m_Ob_trace
      simp (disch := first | assumption | rfl | decide | omega) only [↓ckd_lay, ↓bd_gI, ↓bd_gL, ↓bd_pI, ↓bd_pL, ↓bd_pZ, ↓bd_now, ↓bd_next, ↓bd_ldR3, ↓bd_ldR4, ↓ap_ite, ↓ap_rt, ↓ap_lt, ↓rz_0, ↓rz_1, rz_bi, ↓gr_1_0, ↓gr_1_1, ↓gr_1_2, ↓gr_1_3, ↓gr_1_4, ↓gr_1_5, ↓gr_1_6, ↓gr_15_0, ↓gr_15_1, ↓gr_15_2, ↓gr_15_3, ↓gr_20_0, ↓gr_20_1, ↓gr_23_0, ↓gr_23_1, ↓gr_23_2, ↓gr_27_0, ↓gr_27_1, ↓gr_27_2, ↓gr_29_0, ↓gr_29_1, ↓gr_29_2, ↓gr_29_3, ↓gr_29_4, ↓gr_33_0, ↓gr_33_1, ↓gr_now, ↓gr_next, hnow, ↓tg0 hT, ↓tg1 hT, ↓tg2 hT, ↓tld hT, ↓tst hT, ↓tsm hT, ↓bd_ldv, m1.1, ite_in, hi, if_false]
    · unfold m_Md_trace
      simp (disch := first | assumption | rfl | decide | omega) only [↓ckd_lay, ↓bd_gI, ↓bd_gL, ↓bd_pI, ↓bd_pL, ↓bd_pZ, ↓bd_now, ↓bd_next, ↓bd_ldR3, ↓bd_ldR4, ↓ap_ite, ↓ap_rt, ↓ap_lt, ↓rz_0, ↓rz_1, rz_bi, ↓gr_81_0, ↓gr_81_1, ↓gr_81_2, ↓gr_81_3, ↓gr_81_4, ↓gr_81_7, ↓gr_81_8, ↓gr_81_9, ↓gr_81_11, ↓gr_81_14, ↓gr_81_17, ↓gr_81_18, ↓gr_81_20, ↓gr_81_21, ↓gr_81_25, ↓gr_81_26, ↓gr_81_27, ↓gr_81_28, ↓gr_81_29, ↓gr_81_31, ↓gr_81_32, ↓gr_81_33, ↓gr_81_34, ↓gr_81_36, ↓gr_81_39, m2.1, ↓q_inN, bi_0, hi, not_false_eq_true, if_true]
theorem d_leaving {σ : SS} {i : Int32} (h : Rel σ) : Duo (m_Ob_leaving 1 i) (m_Md_leaving 81 i) σ := by
  obtain ⟨-, -, -, -, -, ⟨w, hw, w1, w2, w3⟩, -⟩ := id h
  by_cases hi : 0 ≤ i ∧ i < nI w
  · obtain ⟨j, hj, rfl⟩ := nI_ex (by omega) hi.1 hi.2
    refine Duo.same h (σ.2.1 105 j) ?_ ?_
    · unfold m_Ob_leaving
      simp (disch := first | assumption | rfl | decide | omega) only [↓ckd_lay, ↓bd_gI, ↓bd_gL, ↓bd_pI, ↓bd_pL, ↓bd_pZ, ↓bd_now, ↓bd_next, ↓bd_ldR3, ↓bd_ldR4, ↓ap_ite, ↓ap_rt, ↓ap_lt, ↓rz_0, ↓rz_1, rz_bi, ↓gr_1_0, ↓gr_1_1, ↓gr_1_2, ↓gr_1_3, ↓gr_1_4, ↓gr_1_5, ↓gr_1_6, ↓gr_15_0, ↓gr_15_1, ↓gr_15_2, ↓gr_15_3, ↓gr_20_0, ↓gr_20_1, ↓gr_23_0, ↓gr_23_1, ↓gr_23_2, ↓gr_27_0, ↓gr_27_1, ↓gr_27_2, ↓gr_29_0, ↓gr_29_1, ↓gr_29_2, ↓gr_29_3, ↓gr_29_4, ↓gr_33_0, ↓gr_33_1, ↓gr_now, ↓gr_next, w1, ite_in, hi, and_self, if_true, ↓la_32, ↓st_32, w3 j hj]
    · unfold m_Md_leaving
      simp (disch := first | assumption | rfl | decide | omega) only [↓ckd_lay, ↓bd_gI, ↓bd_gL, ↓bd_pI, ↓bd_pL, ↓bd_pZ, ↓bd_now, ↓bd_next, ↓bd_ldR3, ↓bd_ldR4, ↓ap_ite, ↓ap_rt, ↓ap_lt, ↓rz_0, ↓rz_1, rz_bi, ↓gr_81_0, ↓gr_81_1, ↓gr_81_2, ↓gr_81_3, ↓gr_81_4, ↓gr_81_7, ↓gr_81_8, ↓gr_81_9, ↓gr_81_11, ↓gr_81_14, ↓gr_81_17, ↓gr_81_18, ↓gr_81_20, ↓gr_81_21, ↓gr_81_25, ↓gr_81_26, ↓gr_81_27, ↓gr_81_28, ↓gr_81_29, ↓gr_81_31, ↓gr_81_32, ↓gr_81_33, ↓gr_81_34, ↓gr_81_36, ↓gr_81_39, w2, ↓q_inN, bi_0, hi, and_self, not_true_eq_false, if_false, ↓la_105, ↓st_105]
  · refine Duo.same h 0 ?_ ?_
    · unfold m_Ob_leaving
      simp (disch := first | assumption | rfl | decide | omega) only [↓ckd_lay, ↓bd_gI, ↓bd_gL, ↓bd_pI, ↓bd_pL, ↓bd_pZ, ↓bd_now, ↓bd_next, ↓bd_ldR3, ↓bd_ldR4, ↓ap_ite, ↓ap_rt, ↓ap_lt, ↓rz_0, ↓rz_1, rz_bi, ↓gr_1_0, ↓gr_1_1, ↓gr_1_2, ↓gr_1_3, ↓gr_1_4, ↓gr_1_5, ↓gr_1_6, ↓gr_15_0, ↓gr_15_1, ↓gr_15_2, ↓gr_15_3, ↓gr_20_0, ↓gr_20_1, ↓gr_23_0, ↓gr_23_1, ↓gr_23_2, ↓gr_27_0, ↓gr_27_1, ↓gr_27_2, ↓gr_29_0, ↓gr_29_1, ↓gr_29_2, ↓gr_29_3, ↓gr_29_4, ↓gr_33_0, ↓gr_33_1, ↓gr_now, ↓gr_next, w1, ite_in, hi, if_false]
    · unfold m_Md_leaving
      simp (disch := first | assumption | rfl | decide | omega) only [↓ckd_lay, ↓bd_gI, ↓bd_gL, ↓bd_pI, ↓bd_pL, ↓bd_pZ, ↓bd_now, ↓bd_next, ↓bd_ldR3, ↓bd_ldR4, ↓ap_ite, ↓ap_rt, ↓ap_lt, ↓rz_0, ↓rz_1, rz_bi, ↓gr_81_0, ↓gr_81_1, ↓gr_81_2, ↓gr_81_3, ↓gr_81_4, ↓gr_81_7, ↓gr_81_8, ↓gr_81_9, ↓gr_81_11, ↓gr_81_14, ↓gr_81_17, ↓gr_81_18, ↓gr_81_20, ↓gr_81_21, ↓gr_81_25, ↓gr_81_26, ↓gr_81_27, ↓gr_81_28, ↓gr_81_29, ↓gr_81_31, ↓gr_81_32, ↓gr_81_33, ↓gr_81_34, ↓gr_81_36, ↓gr_81_39, w2, ↓q_inN, bi_0, hi, not_false_eq_true, if_true]
theorem d_stageAt {σ : SS} {i k : Int32} (h : Rel σ) : Duo (m_Ob_stageAt 1 i k) (m_Md_stageAt 81 i k) σ := by
  obtain ⟨⟨P, a, b, T, N, sd, fs, hC, -⟩, -⟩ := id h
  have hT : IsTw a := hC.tw.1
  have h6 := hT.1
  have hnow : σ.2.2.1 = a := by rw [hC.1.1]
  obtain ⟨-, ⟨c1, c2, ⟨⟨⟨hS5, -⟩, -⟩, -⟩⟩, -, ⟨n1, n2⟩, -⟩ := hC
  by_cases hi : 0 ≤ i ∧ i < nI P.2.2.2.1
  · by_cases hk : 0 ≤ k ∧ k < nI 7
    · obtain ⟨j, hj, rfl⟩ := nI_ex (by omega) hi.1 hi.2
      obtain ⟨w, hw, rfl⟩ := nI_ex (by omega) hk.1 hk.2
      refine Duo.same h (if w = 6 then (P.1 j).toInt64 else N (6 * j + w)) ?_ ?_
      · unfold m_Ob_stageAt
        simp (disch := first | assumption | rfl | decide | omega) only [↓ckd_lay, ↓bd_gI, ↓bd_gL, ↓bd_pI, ↓bd_pL, ↓bd_pZ, ↓bd_now, ↓bd_next, ↓bd_ldR3, ↓bd_ldR4, ↓ap_ite, ↓ap_rt, ↓ap_lt, ↓rz_0, ↓rz_1, rz_bi, ↓gr_1_0, ↓gr_1_1, ↓gr_1_2, ↓gr_1_3, ↓gr_1_4, ↓gr_1_5, ↓gr_1_6, ↓gr_15_0, ↓gr_15_1, ↓gr_15_2, ↓gr_15_3, ↓gr_20_0, ↓gr_20_1, ↓gr_23_0, ↓gr_23_1, ↓gr_23_2, ↓gr_27_0, ↓gr_27_1, ↓gr_27_2, ↓gr_29_0, ↓gr_29_1, ↓gr_29_2, ↓gr_29_3, ↓gr_29_4, ↓gr_33_0, ↓gr_33_1, ↓gr_now, ↓gr_next]
        rw [bd_eq (s_hasStage c1.2.2.2.1)]
        have hp : ¬ (nI w < 0) := nI_pos (by omega)
        have hq : w ≤ 6 := by omega
        simp (disch := first | assumption | rfl | decide | omega) only [↓ckd_lay, ↓bd_gI, ↓bd_gL, ↓bd_pI, ↓bd_pL, ↓bd_pZ, ↓bd_now, ↓bd_next, ↓bd_ldR3, ↓bd_ldR4, ↓ap_ite, ↓ap_rt, ↓ap_lt, ↓rz_0, ↓rz_1, rz_bi, ↓gr_1_0, ↓gr_1_1, ↓gr_1_2, ↓gr_1_3, ↓gr_1_4, ↓gr_1_5, ↓gr_1_6, ↓gr_15_0, ↓gr_15_1, ↓gr_15_2, ↓gr_15_3, ↓gr_20_0, ↓gr_20_1, ↓gr_23_0, ↓gr_23_1, ↓gr_23_2, ↓gr_27_0, ↓gr_27_1, ↓gr_27_2, ↓gr_29_0, ↓gr_29_1, ↓gr_29_2, ↓gr_29_3, ↓gr_29_4, ↓gr_33_0, ↓gr_33_1, ↓gr_now, ↓gr_next, bi_0, hi, and_self, not_true_eq_false, if_false, hp, ln_0, ln_1, ln_2, ln_3, ln_4, ln_5, ln_6, ln_7, ln_8, ln_10, ln_11, ln_12, ln_13, ln_15, ln_16, ln_30, ln_60, ln_256, ln_300, ln_400, ln_500, ln_1023, ln_1024, nl_0, nl_1, nl_2, nl_3, nl_4, nl_5, nl_6, nl_7, nl_8, nl_10, nl_11, nl_12, nl_13, nl_15, nl_16, nl_30, nl_60, nl_256, nl_300, nl_400, nl_500, nl_1023, nl_1024, tn_0, tn_1, tn_2, tn_3, tn_4, tn_5, tn_6, tn_7, tn_8, tn_10, tn_11, tn_12, tn_13, tn_15, tn_16, tn_30, tn_60, tn_256, tn_300, tn_400, tn_500, tn_1023, tn_1024, nt_0, nt_1, nt_2, nt_3, nt_4, nt_5, nt_6, nt_7, nt_8, nt_10, nt_11, nt_12, nt_13, nt_15, nt_16, nt_30, nt_60, nt_256, nt_300, nt_400, nt_500, nt_1023, nt_1024, ne_0, ne_1, ne_2, ne_3, ne_4, ne_5, ne_6, ne_7, ne_8, ne_10, ne_11, ne_12, ne_13, ne_15, ne_16, ne_30, ne_60, ne_256, ne_300, ne_400, ne_500, ne_1023, ne_1024, le_nn, lt_nn, eq_nn, hq, if_true, ↓la_16, ↓st_16, c1.1, hnow, ↓tg0 hT, ↓tg1 hT, ↓tg2 hT, ↓tld hT, ↓tst hT, ↓tsm hT, ↓bd_ldv, na_0, na_1, na_2, na_3, na_4, na_5, na_6, na_7, na_8, na_10, na_11, na_12, na_13, na_15, na_16, na_30, na_60, na_300, an_0, an_1, an_2, an_3, an_4, an_5, an_6, an_7, an_8, an_10, an_11, an_12, an_13, an_15, an_16, an_30, an_60, an_300, nm_0, nm_1, nm_2, nm_3, nm_4, nm_5, nm_6, nm_7, nm_8, nm_10, nm_11, nm_12, nm_13, nm_15, nm_16, nm_30, nm_60, nm_300, mn_0, mn_1, mn_2, mn_3, mn_4, mn_5, mn_6, mn_7, mn_8, mn_10, mn_11, mn_12, mn_13, mn_15, mn_16, mn_30, mn_60, mn_300, nI_add, pk_mul]
        by_cases h6 : w = 6
        · simp only [h6, if_true]
        · simp (disch := first | assumption | rfl | decide | omega) only [h6, if_false, ↓tg0 hT, ↓tg1 hT, ↓tg2 hT, ↓tld hT, ↓tst hT, ↓tsm hT, ↓bd_ldv, n1, Nat.mul_comm j 6, ap_rt]
      · unfold m_Md_stageAt
        simp (disch := first | assumption | rfl | decide | omega) only [↓ckd_lay, ↓bd_gI, ↓bd_gL, ↓bd_pI, ↓bd_pL, ↓bd_pZ, ↓bd_now, ↓bd_next, ↓bd_ldR3, ↓bd_ldR4, ↓ap_ite, ↓ap_rt, ↓ap_lt, ↓rz_0, ↓rz_1, rz_bi, ↓gr_81_0, ↓gr_81_1, ↓gr_81_2, ↓gr_81_3, ↓gr_81_4, ↓gr_81_7, ↓gr_81_8, ↓gr_81_9, ↓gr_81_11, ↓gr_81_14, ↓gr_81_17, ↓gr_81_18, ↓gr_81_20, ↓gr_81_21, ↓gr_81_25, ↓gr_81_26, ↓gr_81_27, ↓gr_81_28, ↓gr_81_29, ↓gr_81_31, ↓gr_81_32, ↓gr_81_33, ↓gr_81_34, ↓gr_81_36, ↓gr_81_39, c2.2.2.2.1, ↓q_inN, ↓q_inC 7, bi_0, hi, hk, and_self, not_true_eq_false, if_false, ln_0, ln_1, ln_2, ln_3, ln_4, ln_5, ln_6, ln_7, ln_8, ln_10, ln_11, ln_12, ln_13, ln_15, ln_16, ln_30, ln_60, ln_256, ln_300, ln_400, ln_500, ln_1023, ln_1024, nl_0, nl_1, nl_2, nl_3, nl_4, nl_5, nl_6, nl_7, nl_8, nl_10, nl_11, nl_12, nl_13, nl_15, nl_16, nl_30, nl_60, nl_256, nl_300, nl_400, nl_500, nl_1023, nl_1024, tn_0, tn_1, tn_2, tn_3, tn_4, tn_5, tn_6, tn_7, tn_8, tn_10, tn_11, tn_12, tn_13, tn_15, tn_16, tn_30, tn_60, tn_256, tn_300, tn_400, tn_500, tn_1023, tn_1024, nt_0, nt_1, nt_2, nt_3, nt_4, nt_5, nt_6, nt_7, nt_8, nt_10, nt_11, nt_12, nt_13, nt_15, nt_16, nt_30, nt_60, nt_256, nt_300, nt_400, nt_500, nt_1023, nt_1024, ne_0, ne_1, ne_2, ne_3, ne_4, ne_5, ne_6, ne_7, ne_8, ne_10, ne_11, ne_12, ne_13, ne_15, ne_16, ne_30, ne_60, ne_256, ne_300, ne_400, ne_500, ne_1023, ne_1024, le_nn, lt_nn, eq_nn, ↓la_87, ↓st_87, ↓la_91, ↓st_91, c2.1, n2, na_0, na_1, na_2, na_3, na_4, na_5, na_6, na_7, na_8, na_10, na_11, na_12, na_13, na_15, na_16, na_30, na_60, na_300, an_0, an_1, an_2, an_3, an_4, an_5, an_6, an_7, an_8, an_10, an_11, an_12, an_13, an_15, an_16, an_30, an_60, an_300, nm_0, nm_1, nm_2, nm_3, nm_4, nm_5, nm_6, nm_7, nm_8, nm_10, nm_11, nm_12, nm_13, nm_15, nm_16, nm_30, nm_60, nm_300, mn_0, mn_1, mn_2, mn_3, mn_4, mn_5, mn_6, mn_7, mn_8, mn_10, mn_11, mn_12, mn_13, mn_15, mn_16, mn_30, mn_60, mn_300, nI_add, pk_mul]
        by_cases h6 : w = 6
        · simp only [h6, if_true]
        · simp only [h6, if_false]
    · refine Duo.same h (-9223372036854775808) ?_ ?_
      · unfold m_Ob_stageAt
        simp (disch := first | assumption | rfl | decide | omega) only [↓ckd_lay, ↓bd_gI, ↓bd_gL, ↓bd_pI, ↓bd_pL, ↓bd_pZ, ↓bd_now, ↓bd_next, ↓bd_ldR3, ↓bd_ldR4, ↓ap_ite, ↓ap_rt, ↓ap_lt, ↓rz_0, ↓rz_1, rz_bi, ↓gr_1_0, ↓gr_1_1, ↓gr_1_2, ↓gr_1_3, ↓gr_1_4, ↓gr_1_5, ↓gr_1_6, ↓gr_15_0, ↓gr_15_1, ↓gr_15_2, ↓gr_15_3, ↓gr_20_0, ↓gr_20_1, ↓gr_23_0, ↓gr_23_1, ↓gr_23_2, ↓gr_27_0, ↓gr_27_1, ↓gr_27_2, ↓gr_29_0, ↓gr_29_1, ↓gr_29_2, ↓gr_29_3, ↓gr_29_4, ↓gr_33_0, ↓gr_33_1, ↓gr_now, ↓gr_next]
        rw [bd_eq (s_hasStage c1.2.2.2.1)]
        have e : ∀ {β : Type} {A B : β}, (if k < 0 then A else if k ≤ 6 then B else A) = if 0 ≤ k ∧ k < nI 7 then B else A := by
          intro β A B
          by_cases q1 : k < 0
          · have : ¬ (0 ≤ k) := by rw [Int32.not_le]; exact q1
            simp [q1, this]
          · have q0 : 0 ≤ k := by rw [← Int32.not_lt]; exact q1
            have : (k ≤ 6) ↔ (k < nI 7) := by
              simp only [Int32.le_iff_toInt_le, Int32.lt_iff_toInt_lt, show (6 : Int32).toInt = 6 from rfl, show (nI 7).toInt = 7 from rfl]
              omega
            simp [q1, q0, this]
        simp only [bi_0, hi, and_self, not_true_eq_false, if_false, ap_ite, e, hk, ap_rt]
      · unfold m_Md_stageAt
        simp (disch := first | assumption | rfl | decide | omega) only [↓ckd_lay, ↓bd_gI, ↓bd_gL, ↓bd_pI, ↓bd_pL, ↓bd_pZ, ↓bd_now, ↓bd_next, ↓bd_ldR3, ↓bd_ldR4, ↓ap_ite, ↓ap_rt, ↓ap_lt, ↓rz_0, ↓rz_1, rz_bi, ↓gr_81_0, ↓gr_81_1, ↓gr_81_2, ↓gr_81_3, ↓gr_81_4, ↓gr_81_7, ↓gr_81_8, ↓gr_81_9, ↓gr_81_11, ↓gr_81_14, ↓gr_81_17, ↓gr_81_18, ↓gr_81_20, ↓gr_81_21, ↓gr_81_25, ↓gr_81_26, ↓gr_81_27, ↓gr_81_28, ↓gr_81_29, ↓gr_81_31, ↓gr_81_32, ↓gr_81_33, ↓gr_81_34, ↓gr_81_36, ↓gr_81_39, c2.2.2.2.1, ↓q_inN, ↓q_inC 7, bi_0, hi, hk, and_self, not_true_eq_false, not_false_eq_true, if_false, if_true]
  · refine Duo.same h (-9223372036854775808) ?_ ?_
    · unfold m_Ob_stageAt
      simp (disch := first | assumption | rfl | decide | omega) only [↓ckd_lay, ↓bd_gI, ↓bd_gL, ↓bd_pI, ↓bd_pL, ↓bd_pZ, ↓bd_now, ↓bd_next, ↓bd_ldR3, ↓bd_ldR4, ↓ap_ite, ↓ap_rt, ↓ap_lt, ↓rz_0, ↓rz_1, rz_bi, ↓gr_1_0, ↓gr_1_1, ↓gr_1_2, ↓gr_1_3, ↓gr_1_4, ↓gr_1_5, ↓gr_1_6, ↓gr_15_0, ↓gr_15_1, ↓gr_15_2, ↓gr_15_3, ↓gr_20_0, ↓gr_20_1, ↓gr_23_0, ↓gr_23_1, ↓gr_23_2, ↓gr_27_0, ↓gr_27_1, ↓gr_27_2, ↓gr_29_0, ↓gr_29_1, ↓gr_29_2, ↓gr_29_3, ↓gr_29_4, ↓gr_33_0, ↓gr_33_1, ↓gr_now, ↓gr_next]
      rw [bd_eq (s_hasStage c1.2.2.2.1)]
      simp (disch := first | assumption | rfl | decide | omega) only [↓ckd_lay, ↓bd_gI, ↓bd_gL, ↓bd_pI, ↓bd_pL, ↓bd_pZ, ↓bd_now, ↓bd_next, ↓bd_ldR3, ↓bd_ldR4, ↓ap_ite, ↓ap_rt, ↓ap_lt, ↓rz_0, ↓rz_1, rz_bi, bi_0, hi, not_false_eq_true, if_true]
    · unfold m_Md_stageAt
      simp (disch := first | assumption | rfl | decide | omega) only [↓ckd_lay, ↓bd_gI, ↓bd_gL, ↓bd_pI, ↓bd_pL, ↓bd_pZ, ↓bd_now, ↓bd_next, ↓bd_ldR3, ↓bd_ldR4, ↓ap_ite, ↓ap_rt, ↓ap_lt, ↓rz_0, ↓rz_1, rz_bi, ↓gr_81_0, ↓gr_81_1, ↓gr_81_2, ↓gr_81_3, ↓gr_81_4, ↓gr_81_7, ↓gr_81_8, ↓gr_81_9, ↓gr_81_11, ↓gr_81_14, ↓gr_81_17, ↓gr_81_18, ↓gr_81_20, ↓gr_81_21, ↓gr_81_25, ↓gr_81_26, ↓gr_81_27, ↓gr_81_28, ↓gr_81_29, ↓gr_81_31, ↓gr_81_32, ↓gr_81_33, ↓gr_81_34, ↓gr_81_36, ↓gr_81_39, c2.2.2.2.1, ↓q_inN, bi_0, hi, not_false_eq_true, if_true]
