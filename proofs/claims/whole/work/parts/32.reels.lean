/-! Reels: the small methods. -/
theorem s_isReel {i : Int32} {σ : SS} : m_Ob_isReel i (lay σ) = some (bi (0 ≤ i ∧ i < 6), lay σ) := by
  unfold m_Ob_isReel bi
  simp only [ap_ite, rz_0, rz_1]
  by_cases h : i < 0
  · have : ¬ (0 ≤ i) := by rw [Int32.not_le]; exact h
    simp [h, this]
  · have h0 : 0 ≤ i := by rw [← Int32.not_lt]; exact h
    by_cases h6 : 6 ≤ i
    · have : ¬ i < 6 := by rw [Int32.not_lt]; exact h6
      simp [h, h6, this]
    · have : i < 6 := by rw [← Int32.not_le]; exact h6
      simp [h, h6, this, h0]
theorem s_isForm {i : Int32} {σ : SS} : m_Ob_isForm i (lay σ) = some (bi (0 ≤ i ∧ i < 6), lay σ) := s_isReel
theorem s_found {i : Int32} {σ : SS} : m_Ob_found 1 i (lay σ) = some (-10 - i, lay (sI σ (fa 1 9) (fun _ => i))) := by
  unfold m_Ob_found
  simp (disch := first | assumption | rfl | decide | omega) only [↓ckd_lay, ↓bd_gI, ↓bd_gL, ↓bd_pI, ↓bd_pL, ↓bd_pZ, ↓bd_now, ↓bd_next, ↓bd_ldR3, ↓bd_ldR4, ↓ap_ite, ↓ap_rt, ↓ap_lt, ↓rz_0, ↓rz_1, rz_bi]
theorem s_in {x a b : Int64} {σ : SS} : m_Md_in x a b (lay σ) = some (bi (a ≤ x ∧ x ≤ b), lay σ) := by
  unfold m_Md_in bi
  simp only [ap_ite, rz_0, rz_1]
  by_cases h : x < a
  · have : ¬ (a ≤ x) := by rw [Int64.not_le]; exact h
    simp [h, this]
  · have h0 : a ≤ x := by rw [← Int64.not_lt]; exact h
    by_cases h6 : b < x
    · have : ¬ x ≤ b := by rw [Int64.not_le]; exact h6
      simp [h, h6, this]
    · have : x ≤ b := by rw [← Int64.not_lt]; exact h6
      simp [h, h6, this, h0]
theorem in_65 (i : Int32) : ((0 : Int64) ≤ i.toInt64 ∧ i.toInt64 ≤ 5) ↔ (0 ≤ i ∧ i < 6) := by
  simp only [Int64.le_iff_toInt_le, Int32.le_iff_toInt_le, Int32.lt_iff_toInt_lt, Int32.toInt_toInt64, show (0 : Int64).toInt = 0 from rfl, show (5 : Int64).toInt = 5 from rfl, show (0 : Int32).toInt = 0 from rfl, show (6 : Int32).toInt = 6 from rfl]
  omega
theorem bi_congr {p q : Prop} [Decidable p] [Decidable q] (h : p ↔ q) : bi p = bi q := by unfold bi; simp only [h]
theorem s_isReelM {i : Int32} {σ : SS} : m_Md_isReel i (lay σ) = some (bi (0 ≤ i ∧ i < 6), lay σ) := by
  unfold m_Md_isReel
  rw [bd_eq s_in, rz_bi, bi_congr (in_65 i)]
theorem s_meets {i : Int32} {σ : SS} : m_Md_meets 81 i (lay σ) = some (-10 - i, lay (sI σ (fa 81 5) (fun _ => i))) := by
  unfold m_Md_meets
  simp (disch := first | assumption | rfl | decide | omega) only [↓ckd_lay, ↓bd_gI, ↓bd_gL, ↓bd_pI, ↓bd_pL, ↓bd_pZ, ↓bd_now, ↓bd_next, ↓bd_ldR3, ↓bd_ldR4, ↓ap_ite, ↓ap_rt, ↓ap_lt, ↓rz_0, ↓rz_1, rz_bi]
theorem sL_id {σ : SS} {o : Nat} : sL σ o (σ.2.1 o) = σ := by
  obtain ⟨a, b, c⟩ := σ
  unfold sL
  congr 2
  funext q
  by_cases hq : q = o
  · subst hq; simp [va_up]
  · simp [va_up, hq]
theorem sI_id {σ : SS} {o : Nat} : sI σ o (σ.1 o) = σ := by
  obtain ⟨a, b⟩ := σ
  unfold sI
  congr 1
  funext q
  by_cases hq : q = o
  · subst hq; simp [va_up]
  · simp [va_up, hq]
theorem sL_sL {σ : SS} {o : Nat} {f g : Nat → Int64} : sL (sL σ o f) o g = sL σ o g := by
  unfold sL
  congr 2
  funext q
  by_cases hq : q = o <;> simp [va_up, hq]
theorem sI_sI {σ : SS} {o : Nat} {f g : Nat → Int32} : sI (sI σ o f) o g = sI σ o g := by
  unfold sI
  congr 1
  funext q
  by_cases hq : q = o <;> simp [va_up, hq]
/-- a row is filled from place j on -/
theorem s_fillL {o : Nat} {v : Int64} (ho : kd o = 11) : ∀ (n j : Nat) (σ : SS), j ≤ ln o → ln o < j + n → l_J7_fill_d0a16_6 n o v (nI j) (nI (ln o)) (lay σ) = some ((), lay (sL σ o (fun k => if j ≤ k ∧ k < ln o then v else σ.2.1 o k)))
  | 0, j, σ, h1, h2 => by omega
  | n + 1, j, σ, h1, h2 => by
    have hl := ln_lt o
    show b_J7_fill_d0a16_6 (l_J7_fill_d0a16_6 n) o v (nI j) (nI (ln o)) (lay σ) = _
    unfold b_J7_fill_d0a16_6
    by_cases h : ln o ≤ j
    · have hj : ln o = j := by omega
      simp (disch := first | assumption | rfl | decide | omega) only [↓ckd_lay, ↓bd_gI, ↓bd_gL, ↓bd_pI, ↓bd_pL, ↓bd_pZ, ↓bd_now, ↓bd_next, ↓bd_ldR3, ↓bd_ldR4, ↓ap_ite, ↓ap_rt, ↓ap_lt, ↓rz_0, ↓rz_1, rz_bi, le_nn, h, if_true, Option.some.injEq, Prod.mk.injEq, true_and]
      have : (fun k => if j ≤ k ∧ k < ln o then v else σ.2.1 o k) = σ.2.1 o := by
        funext k; rw [if_neg (by omega)]
      rw [this, sL_id]
    · simp (disch := first | assumption | rfl | decide | omega) only [↓ckd_lay, ↓bd_gI, ↓bd_gL, ↓bd_pI, ↓bd_pL, ↓bd_pZ, ↓bd_now, ↓bd_next, ↓bd_ldR3, ↓bd_ldR4, ↓ap_ite, ↓ap_rt, ↓ap_lt, ↓rz_0, ↓rz_1, rz_bi, le_nn, h, if_false, ↓bd_stL, na_1]
      rw [s_fillL ho n (j + 1) _ (by omega) (by omega), sL_sL, sL_same]
      congr 4
      funext k
      by_cases hk : k = j
      · subst hk
        rw [if_neg (by omega), if_pos (by omega), up_same]
      · rw [up_ne hk]
        by_cases hk2 : j + 1 ≤ k ∧ k < ln o
        · rw [if_pos hk2, if_pos (by omega)]
        · rw [if_neg hk2, if_neg (by omega)]
