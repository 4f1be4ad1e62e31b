/-! The law's loop: every call is answered alike. -/
section Loop
variable {L : Nat} {xs : Nat → Int32}
theorem q_sld {α : Type} {j : Nat} {f : Int32 → M α} (hL : L ≤ 3584) (hj : j < L) : bd (sld L xs (nI j)) f = f (xs j) := by
  funext h
  have h1 : ¬ (nI j < 0 ∨ L ≤ (nI j).toNatClampNeg) := nI_in hj (by omega)
  have h2 : (nI j).toNatClampNeg = j := nI_clamp (by omega)
  refine bd_eq ?_
  unfold sld
  rw [if_neg h1, h2]
theorem duo_step {β : Type} [DecidableEq β] {f g : M β} {σ : SS} {K : M Int32} (h : Duo f g σ) (hk : ∀ υ, Rel υ → ∃ h', K (lay υ) = some (1, h')) : ∃ h', bd f (fun v => bd g (fun w => if v = w then K else fl)) (lay σ) = some (1, h') := by
  obtain ⟨r, τ, υ, e1, e2, hR⟩ := h
  rw [bd_eq e1, bd_eq e2, if_pos rfl]
  exact hk υ hR
theorem mk31 (x : Int32) : ∃ c, c < 32 ∧ x &&& 31 = nI c := by
  obtain ⟨m, hm, rfl⟩ := wb_of32 x
  refine ⟨m % 32, Nat.mod_lt _ (by decide), ?_⟩
  show nI m &&& nI (2 ^ 5 - 1) = _
  rw [nx_and, Nat.and_two_pow_sub_one_eq_mod]
theorem law_step {n i : Nat} {σ : SS} (hL : L ≤ 3584) (hi : i + 7 ≤ L) (h : Rel σ) (IH : ∀ υ, Rel υ → ∃ h', l_Lw_law_18 L xs n 1 81 (nI (i + 7)) (lay υ) = some (1, h')) : ∃ h', b_Lw_law_18 L xs (l_Lw_law_18 L xs n) 1 81 (nI i) (lay σ) = some (1, h') := by
  have hc : ¬ (Int32.ofNat L - 7 < nI i) := by
    show ¬ (nI L - 7 < nI i)
    rw [ns_7 _ (by omega), lt_nn (by omega) (by omega)]
    omega
  obtain ⟨c, hc32, ec⟩ := mk31 (xs i)
  have et : (nI c).toInt = 0 + (c : Int) := by rw [nI_toInt (by omega)]; omega
  unfold b_Lw_law_18
  rw [if_neg hc, q_sld hL (by omega), ec]
  match c, hc32 with
  | 0, _ =>
    rw [swt_i 0 (by decide) rfl]
    simp (disch := first | decide | omega) only [na_1, na_2, na_3, na_4, na_5, na_6, na_7, q_sld hL]
    exact duo_step (d_reel h) IH
  | 1, _ =>
    rw [swt_i 1 (by decide) rfl]
    simp (disch := first | decide | omega) only [na_1, na_2, na_3, na_4, na_5, na_6, na_7, q_sld hL]
    exact duo_step (d_lose h) IH
  | 2, _ =>
    rw [swt_i 2 (by decide) rfl]
    simp (disch := first | decide | omega) only [na_1, na_2, na_3, na_4, na_5, na_6, na_7, q_sld hL]
    exact duo_step (d_put h) IH
  | 3, _ =>
    rw [swt_i 3 (by decide) rfl]
    simp (disch := first | decide | omega) only [na_1, na_2, na_3, na_4, na_5, na_6, na_7, q_sld hL]
    exact duo_step (d_get h) IH
  | 4, _ =>
    rw [swt_i 4 (by decide) rfl]
    simp (disch := first | decide | omega) only [na_1, na_2, na_3, na_4, na_5, na_6, na_7, q_sld hL]
    exact duo_step (d_copy h) IH
  | 5, _ =>
    rw [swt_i 5 (by decide) rfl]
    simp (disch := first | decide | omega) only [na_1, na_2, na_3, na_4, na_5, na_6, na_7, q_sld hL]
    exact duo_step (d_sample h) IH
  | 6, _ =>
    rw [swt_i 6 (by decide) rfl]
    simp (disch := first | decide | omega) only [na_1, na_2, na_3, na_4, na_5, na_6, na_7, q_sld hL]
    exact duo_step (d_stage h) IH
  | 7, _ =>
    rw [swt_i 7 (by decide) rfl]
    simp (disch := first | decide | omega) only [na_1, na_2, na_3, na_4, na_5, na_6, na_7, q_sld hL]
    exact duo_step (d_levels h) IH
  | 8, _ =>
    rw [swt_i 8 (by decide) rfl]
    simp (disch := first | decide | omega) only [na_1, na_2, na_3, na_4, na_5, na_6, na_7, q_sld hL]
    exact duo_step (d_level h) IH
  | 9, _ =>
    rw [swt_i 9 (by decide) rfl]
    simp (disch := first | decide | omega) only [na_1, na_2, na_3, na_4, na_5, na_6, na_7, q_sld hL]
    exact duo_step (d_lot h) IH
  | 10, _ =>
    rw [swt_i 10 (by decide) rfl]
    simp (disch := first | decide | omega) only [na_1, na_2, na_3, na_4, na_5, na_6, na_7, q_sld hL]
    exact duo_step (d_step h) IH
  | 11, _ =>
    rw [swt_i 11 (by decide) rfl]
    simp (disch := first | decide | omega) only [na_1, na_2, na_3, na_4, na_5, na_6, na_7, q_sld hL]
    exact duo_step (d_run h) IH
  | 12, _ =>
    rw [swt_i 12 (by decide) rfl]
    simp (disch := first | decide | omega) only [na_1, na_2, na_3, na_4, na_5, na_6, na_7, q_sld hL]
    exact duo_step (d_undo h) IH
  | 13, _ =>
    rw [swt_i 13 (by decide) rfl]
    simp (disch := first | decide | omega) only [na_1, na_2, na_3, na_4, na_5, na_6, na_7, q_sld hL]
    exact duo_step (d_clear h) IH
  | 14, _ =>
    rw [swt_i 14 (by decide) rfl]
    simp (disch := first | decide | omega) only [na_1, na_2, na_3, na_4, na_5, na_6, na_7, q_sld hL]
    exact duo_step (d_stageAt h) IH
  | 15, _ =>
    rw [swt_i 15 (by decide) rfl]
    simp (disch := first | decide | omega) only [na_1, na_2, na_3, na_4, na_5, na_6, na_7, q_sld hL]
    exact duo_step (d_levelAt h) IH
  | 16, _ =>
    rw [swt_i 16 (by decide) rfl]
    simp (disch := first | decide | omega) only [na_1, na_2, na_3, na_4, na_5, na_6, na_7, q_sld hL]
    exact duo_step (d_record h) IH
  | 17, _ =>
    rw [swt_i 17 (by decide) rfl]
    simp (disch := first | decide | omega) only [na_1, na_2, na_3, na_4, na_5, na_6, na_7, q_sld hL]
    exact duo_step (d_forge h) IH
  | 18, _ =>
    rw [swt_i 18 (by decide) rfl]
    simp (disch := first | decide | omega) only [na_1, na_2, na_3, na_4, na_5, na_6, na_7, q_sld hL]
    exact duo_step (d_check h) IH
  | 19, _ =>
    rw [swt_i 19 (by decide) rfl]
    simp (disch := first | decide | omega) only [na_1, na_2, na_3, na_4, na_5, na_6, na_7, q_sld hL]
    exact duo_step (d_read h) IH
  | 20, _ =>
    rw [swt_i 20 (by decide) rfl]
    simp (disch := first | decide | omega) only [na_1, na_2, na_3, na_4, na_5, na_6, na_7, q_sld hL]
    exact duo_step (d_weight h) IH
  | 21, _ =>
    rw [swt_i 21 (by decide) rfl]
    simp (disch := first | decide | omega) only [na_1, na_2, na_3, na_4, na_5, na_6, na_7, q_sld hL]
    exact duo_step (d_sums h) IH
  | 22, _ =>
    rw [swt_i 22 (by decide) rfl]
    simp (disch := first | decide | omega) only [na_1, na_2, na_3, na_4, na_5, na_6, na_7, q_sld hL]
    exact duo_step (d_trace h) IH
  | 23, _ =>
    rw [swt_i 23 (by decide) rfl]
    simp (disch := first | decide | omega) only [na_1, na_2, na_3, na_4, na_5, na_6, na_7, q_sld hL]
    exact duo_step (d_hold h) IH
  | 24, _ =>
    rw [swt_i 24 (by decide) rfl]
    simp (disch := first | decide | omega) only [na_1, na_2, na_3, na_4, na_5, na_6, na_7, q_sld hL]
    exact duo_step (d_held h) IH
  | 25, _ =>
    rw [swt_i 25 (by decide) rfl]
    simp (disch := first | decide | omega) only [na_1, na_2, na_3, na_4, na_5, na_6, na_7, q_sld hL]
    exact duo_step (d_reach h) IH
  | 26, _ =>
    rw [swt_i 26 (by decide) rfl]
    simp (disch := first | decide | omega) only [na_1, na_2, na_3, na_4, na_5, na_6, na_7, q_sld hL]
    exact duo_step (d_leaving h) IH
  | 27, _ =>
    rw [swt_i 27 (by decide) rfl]
    simp (disch := first | decide | omega) only [na_1, na_2, na_3, na_4, na_5, na_6, na_7, q_sld hL]
    exact duo_step (d_worst h) IH
  | 28, _ =>
    rw [swt_i 28 (by decide) rfl]
    simp (disch := first | decide | omega) only [na_1, na_2, na_3, na_4, na_5, na_6, na_7, q_sld hL]
    exact duo_step (d_worstAt h) IH
  | 29, _ =>
    rw [swt_i 29 (by decide) rfl]
    simp (disch := first | decide | omega) only [na_1, na_2, na_3, na_4, na_5, na_6, na_7, q_sld hL]
    exact duo_step (d_count h) IH
  | 30, _ =>
    rw [swt_i 30 (by decide) rfl]
    simp (disch := first | decide | omega) only [na_1, na_2, na_3, na_4, na_5, na_6, na_7, q_sld hL]
    exact duo_step (d_digest h) IH
  | 31, _ =>
    rw [swt_o (Or.inr (by show (0 : Int) + ((31 : Nat) : Int) ≤ (nI 31).toInt; decide)), na_7]
    exact IH σ h
  | c + 32, hh => exact absurd hh (by omega)
theorem law_loop (hL : L ≤ 3584) : ∀ (r i n : Nat) (σ : SS), L < i + 7 * r → r < n → i ≤ L → Rel σ → ∃ h', l_Lw_law_18 L xs n 1 81 (nI i) (lay σ) = some (1, h')
  | r, i, 0, σ, hr, hn, hi, h => by omega
  | r, i, n + 1, σ, hr, hn, hi, h => by
    show ∃ h', b_Lw_law_18 L xs (l_Lw_law_18 L xs n) 1 81 (nI i) (lay σ) = some (1, h')
    by_cases q : i + 7 ≤ L
    · match r, hr, hn with
      | 0, hr, hn => omega
      | r + 1, hr, hn => exact law_step hL q h (fun υ hυ => law_loop hL r (i + 7) n υ (by omega) (by omega) q hυ)
    · have hc : Int32.ofNat L - 7 < nI i := by
        show nI L - nI 7 < nI i
        rw [Int32.lt_iff_toInt_lt, pk_sub_toInt (by omega) (by omega), nI_toInt (by omega)]
        omega
      unfold b_Lw_law_18
      rw [if_pos hc]
      exact ⟨_, rfl⟩
end Loop
