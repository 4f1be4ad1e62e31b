/-! Seen: emptied. -/
theorem s_fillI {v : Int32} : ∀ (r k n : Nat) (σ : SS), k + r = 1024 → r < n → ∃ τ, l_J7_fill_53178_5 n 25 v (nI k) (nI 1024) (lay σ) = some ((), lay τ) ∧ Mod [25] σ τ ∧ (∀ s, s < k → τ.1 25 s = σ.1 25 s) ∧ ∀ s, k ≤ s → s < 1024 → τ.1 25 s = v
  | r, k, 0, σ, h, hn => by omega
  | 0, k, n + 1, σ, h, hn => by
    have hq : 1024 ≤ k := by omega
    refine ⟨σ, ?_, Mod.rf, fun _ _ => rfl, fun s q1 q2 => by omega⟩
    show b_J7_fill_53178_5 (l_J7_fill_53178_5 n) 25 v (nI k) (nI 1024) (lay σ) = _
    unfold b_J7_fill_53178_5
    simp (disch := first | assumption | rfl | decide | omega) only [↓ckd_lay, ↓bd_gI, ↓bd_gL, ↓bd_pI, ↓bd_pL, ↓bd_pZ, ↓bd_now, ↓bd_next, ↓bd_ldR3, ↓bd_ldR4, ↓ap_ite, ↓ap_rt, ↓ap_lt, ↓rz_0, ↓rz_1, rz_bi, le_nn, hq, if_true]
  | r + 1, k, n + 1, σ, h, hn => by
    have hq : ¬ 1024 ≤ k := by omega
    obtain ⟨τ, e, m, d1, d2⟩ := s_fillI (v := v) r (k + 1) n (sI σ 25 (va_up (σ.1 25) k v)) (by omega) (by omega)
    refine ⟨τ, ?_, (Mod.I (by simp)).tr m, fun s q => ?_, fun s q1 q2 => ?_⟩
    · show b_J7_fill_53178_5 (l_J7_fill_53178_5 n) 25 v (nI k) (nI 1024) (lay σ) = _
      unfold b_J7_fill_53178_5
      simp (disch := first | assumption | rfl | decide | omega) only [↓ckd_lay, ↓bd_gI, ↓bd_gL, ↓bd_pI, ↓bd_pL, ↓bd_pZ, ↓bd_now, ↓bd_next, ↓bd_ldR3, ↓bd_ldR4, ↓ap_ite, ↓ap_rt, ↓ap_lt, ↓rz_0, ↓rz_1, rz_bi, le_nn, hq, if_false, ↓la_25, ↓st_25, na_1]
      exact e
    · rw [d1 s (by omega), sI_same, up_ne (by omega)]
    · by_cases z : s = k
      · rw [z, d1 k (by omega), sI_same, up_same]
      · exact d2 s (by omega) q2
theorem s_empty {σ : SS} (w : Nat) : ∃ τ, m_Sn_empty 23 (lay σ) = some ((), lay τ) ∧ Mod [25, fa 23 5] σ τ ∧ SeenOk τ w 0 := by
  obtain ⟨τ, e, m, d1, d2⟩ := s_fillI (v := 0) 1024 0 FU σ (by omega) (by unfold FU; omega)
  refine ⟨sI τ (fa 23 5) (fun _ => 0), ?_, (m.mono (by decide)).tr (Mod.I (by simp)), sI_row, by omega, by omega, fun _ => 0, fun s hs => ?_, fun s s' _ _ _ q => absurd rfl q, fun e he => by omega, fun e e' he => by omega⟩
  · unfold m_Sn_empty
    have ef : m_J7_fill_53178 25 0 (lay σ) = some ((), lay τ) := by
      unfold m_J7_fill_53178
      rw [bd_alen0 (o := 25) rfl]
      exact e
    simp (disch := first | assumption | rfl | decide | omega) only [↓ckd_lay, ↓bd_gI, ↓bd_gL, ↓bd_pI, ↓bd_pL, ↓bd_pZ, ↓bd_now, ↓bd_next, ↓bd_ldR3, ↓bd_ldR4, ↓ap_ite, ↓ap_rt, ↓ap_lt, ↓rz_0, ↓rz_1, rz_bi, ↓gr_1_0, ↓gr_1_1, ↓gr_1_2, ↓gr_1_3, ↓gr_1_4, ↓gr_1_5, ↓gr_1_6, ↓gr_15_0, ↓gr_15_1, ↓gr_15_2, ↓gr_15_3, ↓gr_20_0, ↓gr_20_1, ↓gr_23_0, ↓gr_23_1, ↓gr_23_2, ↓gr_27_0, ↓gr_27_1, ↓gr_27_2, ↓gr_29_0, ↓gr_29_1, ↓gr_29_2, ↓gr_29_3, ↓gr_29_4, ↓gr_33_0, ↓gr_33_1, ↓gr_now, ↓gr_next]
    rw [bd_eq ef]
    simp (disch := first | assumption | rfl | decide | omega) only [↓ckd_lay, ↓bd_gI, ↓bd_gL, ↓bd_pI, ↓bd_pL, ↓bd_pZ, ↓bd_now, ↓bd_next, ↓bd_ldR3, ↓bd_ldR4, ↓ap_ite, ↓ap_rt, ↓ap_lt, ↓rz_0, ↓rz_1, rz_bi]
  · rw [sI_ne (by decide)]
    exact ⟨d2 s (by omega) hs, Nat.le_refl 0⟩
