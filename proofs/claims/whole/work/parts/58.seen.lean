/-! Seen: finding. -/
def pEq (f g : Nat → Int64) : Nat → Nat → Bool
  | 0, _ => true
  | r + 1, k => if f k = g k then pEq f g r (k + 1) else false
theorem pEq_iff {f g : Nat → Int64} : ∀ (r k : Nat), pEq f g r k = true ↔ ∀ i, k ≤ i → i < k + r → f i = g i
  | 0, k => ⟨fun _ i h1 h2 => by omega, fun _ => rfl⟩
  | r + 1, k => by
    unfold pEq
    by_cases q : f k = g k
    · rw [if_pos q, pEq_iff r (k + 1)]
      refine ⟨fun h i h1 h2 => ?_, fun h i h1 h2 => h i (by omega) (by omega)⟩
      by_cases e : i = k
      · rw [e]; exact q
      · exact h i (by omega) (by omega)
    · rw [if_neg q]
      exact ⟨fun h => (by cases h), fun h => absurd (h k (by omega) (by omega)) q⟩
theorem s_isAskedGo {σ : SS} {w e : Nat} (hw : w ≤ 11) (h4 : σ.1 (fa 23 4) 0 = nI w) (he : e * w + w ≤ 4400) : ∀ (r k n : Nat), k + r = w → r < n → l_Sn_isAsked_2 n 23 (nI e) (nI k) (lay σ) = some (bi (pEq (fun i => σ.2.1 24 (e * w + i)) (σ.2.1 26) r k = true), lay σ)
  | r, k, 0, h, hn => by omega
  | 0, k, n + 1, h, hn => by
    have hq : w ≤ k := by omega
    show b_Sn_isAsked_2 (l_Sn_isAsked_2 n) 23 (nI e) (nI k) (lay σ) = _
    unfold b_Sn_isAsked_2
    simp (disch := first | assumption | rfl | decide | omega) only [↓ckd_lay, ↓bd_gI, ↓bd_gL, ↓bd_pI, ↓bd_pL, ↓bd_pZ, ↓bd_now, ↓bd_next, ↓bd_ldR3, ↓bd_ldR4, ↓ap_ite, ↓ap_rt, ↓ap_lt, ↓rz_0, ↓rz_1, rz_bi, ↓gr_1_0, ↓gr_1_1, ↓gr_1_2, ↓gr_1_3, ↓gr_1_4, ↓gr_1_5, ↓gr_1_6, ↓gr_15_0, ↓gr_15_1, ↓gr_15_2, ↓gr_15_3, ↓gr_20_0, ↓gr_20_1, ↓gr_23_0, ↓gr_23_1, ↓gr_23_2, ↓gr_27_0, ↓gr_27_1, ↓gr_27_2, ↓gr_29_0, ↓gr_29_1, ↓gr_29_2, ↓gr_29_3, ↓gr_29_4, ↓gr_33_0, ↓gr_33_1, ↓gr_now, ↓gr_next, h4, ln_0, ln_1, ln_2, ln_3, ln_4, ln_5, ln_6, ln_7, ln_8, ln_10, ln_11, ln_12, ln_13, ln_15, ln_16, ln_30, ln_60, ln_256, ln_300, ln_400, ln_500, ln_1023, ln_1024, nl_0, nl_1, nl_2, nl_3, nl_4, nl_5, nl_6, nl_7, nl_8, nl_10, nl_11, nl_12, nl_13, nl_15, nl_16, nl_30, nl_60, nl_256, nl_300, nl_400, nl_500, nl_1023, nl_1024, tn_0, tn_1, tn_2, tn_3, tn_4, tn_5, tn_6, tn_7, tn_8, tn_10, tn_11, tn_12, tn_13, tn_15, tn_16, tn_30, tn_60, tn_256, tn_300, tn_400, tn_500, tn_1023, tn_1024, nt_0, nt_1, nt_2, nt_3, nt_4, nt_5, nt_6, nt_7, nt_8, nt_10, nt_11, nt_12, nt_13, nt_15, nt_16, nt_30, nt_60, nt_256, nt_300, nt_400, nt_500, nt_1023, nt_1024, ne_0, ne_1, ne_2, ne_3, ne_4, ne_5, ne_6, ne_7, ne_8, ne_10, ne_11, ne_12, ne_13, ne_15, ne_16, ne_30, ne_60, ne_256, ne_300, ne_400, ne_500, ne_1023, ne_1024, le_nn, lt_nn, eq_nn, hq, if_true]
    rfl
  | r + 1, k, n + 1, h, hn => by
    have hq : ¬ w ≤ k := by omega
    show b_Sn_isAsked_2 (l_Sn_isAsked_2 n) 23 (nI e) (nI k) (lay σ) = _
    unfold b_Sn_isAsked_2
    simp (disch := first | assumption | rfl | decide | omega) only [↓ckd_lay, ↓bd_gI, ↓bd_gL, ↓bd_pI, ↓bd_pL, ↓bd_pZ, ↓bd_now, ↓bd_next, ↓bd_ldR3, ↓bd_ldR4, ↓ap_ite, ↓ap_rt, ↓ap_lt, ↓rz_0, ↓rz_1, rz_bi, ↓gr_1_0, ↓gr_1_1, ↓gr_1_2, ↓gr_1_3, ↓gr_1_4, ↓gr_1_5, ↓gr_1_6, ↓gr_15_0, ↓gr_15_1, ↓gr_15_2, ↓gr_15_3, ↓gr_20_0, ↓gr_20_1, ↓gr_23_0, ↓gr_23_1, ↓gr_23_2, ↓gr_27_0, ↓gr_27_1, ↓gr_27_2, ↓gr_29_0, ↓gr_29_1, ↓gr_29_2, ↓gr_29_3, ↓gr_29_4, ↓gr_33_0, ↓gr_33_1, ↓gr_now, ↓gr_next, h4, ln_0, ln_1, ln_2, ln_3, ln_4, ln_5, ln_6, ln_7, ln_8, ln_10, ln_11, ln_12, ln_13, ln_15, ln_16, ln_30, ln_60, ln_256, ln_300, ln_400, ln_500, ln_1023, ln_1024, nl_0, nl_1, nl_2, nl_3, nl_4, nl_5, nl_6, nl_7, nl_8, nl_10, nl_11, nl_12, nl_13, nl_15, nl_16, nl_30, nl_60, nl_256, nl_300, nl_400, nl_500, nl_1023, nl_1024, tn_0, tn_1, tn_2, tn_3, tn_4, tn_5, tn_6, tn_7, tn_8, tn_10, tn_11, tn_12, tn_13, tn_15, tn_16, tn_30, tn_60, tn_256, tn_300, tn_400, tn_500, tn_1023, tn_1024, nt_0, nt_1, nt_2, nt_3, nt_4, nt_5, nt_6, nt_7, nt_8, nt_10, nt_11, nt_12, nt_13, nt_15, nt_16, nt_30, nt_60, nt_256, nt_300, nt_400, nt_500, nt_1023, nt_1024, ne_0, ne_1, ne_2, ne_3, ne_4, ne_5, ne_6, ne_7, ne_8, ne_10, ne_11, ne_12, ne_13, ne_15, ne_16, ne_30, ne_60, ne_256, ne_300, ne_400, ne_500, ne_1023, ne_1024, le_nn, lt_nn, eq_nn, hq, if_false, pk_mul, nI_add, ↓la_24, ↓st_24, ↓la_26, ↓st_26, na_1]
    rw [s_isAskedGo hw h4 he r (k + 1) n (by omega) (by omega)]
    by_cases q : σ.2.1 24 (e * w + k) = σ.2.1 26 k
    · rw [if_pos q]
      have : pEq (fun i => σ.2.1 24 (e * w + i)) (σ.2.1 26) (r + 1) k = pEq (fun i => σ.2.1 24 (e * w + i)) (σ.2.1 26) r (k + 1) := if_pos q
      rw [this]
    · rw [if_neg q]
      have : pEq (fun i => σ.2.1 24 (e * w + i)) (σ.2.1 26) (r + 1) k = false := if_neg q
      rw [this]
      rfl
/-- what is kept: c stands of w numbers each, none twice, each to be found from its hash on -/
def SeenOk (σ : SS) (w c : Nat) : Prop := σ.1 (fa 23 5) 0 = nI c ∧ c ≤ 500 ∧ c * w ≤ 4400 ∧ ∃ tb : Nat → Nat, (∀ s, s < 1024 → σ.1 25 s = nI (tb s) ∧ tb s ≤ c) ∧ (∀ s s', s < 1024 → s' < 1024 → tb s = tb s' → tb s ≠ 0 → s = s') ∧ (∀ e, e < c → ∃ d, d < 1024 ∧ tb ((hsh w (fun i => σ.2.1 24 (e * w + i)) + d) % 1024) = e + 1 ∧ ∀ d', d' < d → tb ((hsh w (fun i => σ.2.1 24 (e * w + i)) + d') % 1024) ≠ 0) ∧ (∀ e e', e < c → e' < c → (∀ i, i < w → σ.2.1 24 (e * w + i) = σ.2.1 24 (e' * w + i)) → e = e')
/-- more pigeons than holes -/
theorem pigeon : ∀ (n m : Nat) (f : Nat → Nat), (∀ i, i < n → f i < m) → (∀ i j, i < n → j < n → f i = f j → i = j) → n ≤ m
  | 0, m, f, h1, h2 => Nat.zero_le m
  | n + 1, 0, f, h1, h2 => absurd (h1 0 (by omega)) (by omega)
  | n + 1, m + 1, f, h1, h2 => by
    -- the last goes, and who sits in the last hole takes its hole
    have := pigeon n m (fun i => if f i = m then f n else f i) (fun i hi => by
      by_cases q : f i = m
      · rw [if_pos q]
        have a := h1 n (by omega)
        by_cases q2 : f n = m
        · exact absurd (h2 i n (by omega) (by omega) (q.trans q2.symm)) (by omega)
        · omega
      · rw [if_neg q]
        have a := h1 i (by omega)
        omega) (fun i j hi hj e => by
      by_cases q : f i = m
      · by_cases q' : f j = m
        · exact h2 i j (by omega) (by omega) (q.trans q'.symm)
        · rw [if_pos q, if_neg q'] at e
          exact absurd (h2 n j (by omega) (by omega) e) (by omega)
      · by_cases q' : f j = m
        · rw [if_neg q, if_pos q'] at e
          exact absurd (h2 i n (by omega) (by omega) e) (by omega)
        · rw [if_neg q, if_neg q'] at e
          exact h2 i j (by omega) (by omega) e)
    omega
theorem free_slot {tb : Nat → Nat} {c h : Nat} (hc : c ≤ 500) (h1 : ∀ s, s < 1024 → tb s ≤ c) (h2 : ∀ s s', s < 1024 → s' < 1024 → tb s = tb s' → tb s ≠ 0 → s = s') : ∃ d, d < 1024 ∧ tb ((h + d) % 1024) = 0 := by
  by_cases q : ∃ d, d < 1024 ∧ tb ((h + d) % 1024) = 0
  · exact q
  · exfalso
    have g : ∀ d, d < 1024 → tb ((h + d) % 1024) ≠ 0 := fun d hd e => q ⟨d, hd, e⟩
    have := pigeon 1024 c (fun d => tb ((h + d) % 1024) - 1) (fun d hd => by
      have a := g d hd
      have b := h1 ((h + d) % 1024) (Nat.mod_lt _ (by decide))
      omega) (fun d d' hd hd' e => by
      have a := g d hd
      have a' := g d' hd'
      have := h2 ((h + d) % 1024) ((h + d') % 1024) (Nat.mod_lt _ (by decide)) (Nat.mod_lt _ (by decide)) (by omega) a
      omega)
    omega
theorem s_findGo {σ : SS} {w c h : Nat} {tb : Nat → Nat} (hw : w ≤ 11) (h4 : σ.1 (fa 23 4) 0 = nI w) (hc : c ≤ 500) (hcw : c * w ≤ 4400) (ht : ∀ s, s < 1024 → σ.1 25 s = nI (tb s) ∧ tb s ≤ c) {d0 : Nat} (hd0 : d0 < 1024) (hz : tb ((h + d0) % 1024) = 0) : ∀ (r d n : Nat), d + r = d0 → r < n → (∀ d', d' < d → tb ((h + d') % 1024) ≠ 0 ∧ ¬ ∀ i, i < w → σ.2.1 24 ((tb ((h + d') % 1024) - 1) * w + i) = σ.2.1 26 i) →
    ∃ d1, d1 < 1024 ∧ (∀ d', d' < d1 → tb ((h + d') % 1024) ≠ 0 ∧ ¬ ∀ i, i < w → σ.2.1 24 ((tb ((h + d') % 1024) - 1) * w + i) = σ.2.1 26 i) ∧ ((tb ((h + d1) % 1024) = 0 ∧ l_Sn_find_12 n 23 (nI ((h + d) % 1024)) (nI d) (lay σ) = some (-1, lay (sI σ (fa 23 3) (fun _ => nI ((h + d1) % 1024))))) ∨ (tb ((h + d1) % 1024) ≠ 0 ∧ (∀ i, i < w → σ.2.1 24 ((tb ((h + d1) % 1024) - 1) * w + i) = σ.2.1 26 i) ∧ l_Sn_find_12 n 23 (nI ((h + d) % 1024)) (nI d) (lay σ) = some (nI (tb ((h + d1) % 1024) - 1), lay σ)))
  | r, d, 0, e, hn, hp => by omega
  | r, d, n + 1, e, hn, hp => by
    have hs : (h + d) % 1024 < 1024 := Nat.mod_lt _ (by decide)
    have hq : ¬ 1024 ≤ d := by omega
    obtain ⟨t1, t2⟩ := ht _ hs
    by_cases q0 : tb ((h + d) % 1024) = 0
    · refine ⟨d, by omega, hp, Or.inl ⟨q0, ?_⟩⟩
      show b_Sn_find_12 (l_Sn_find_12 n) 23 (nI ((h + d) % 1024)) (nI d) (lay σ) = _
      unfold b_Sn_find_12
      simp (disch := first | assumption | rfl | decide | omega) only [↓ckd_lay, ↓bd_gI, ↓bd_gL, ↓bd_pI, ↓bd_pL, ↓bd_pZ, ↓bd_now, ↓bd_next, ↓bd_ldR3, ↓bd_ldR4, ↓ap_ite, ↓ap_rt, ↓ap_lt, ↓rz_0, ↓rz_1, rz_bi, ↓gr_1_0, ↓gr_1_1, ↓gr_1_2, ↓gr_1_3, ↓gr_1_4, ↓gr_1_5, ↓gr_1_6, ↓gr_15_0, ↓gr_15_1, ↓gr_15_2, ↓gr_15_3, ↓gr_20_0, ↓gr_20_1, ↓gr_23_0, ↓gr_23_1, ↓gr_23_2, ↓gr_27_0, ↓gr_27_1, ↓gr_27_2, ↓gr_29_0, ↓gr_29_1, ↓gr_29_2, ↓gr_29_3, ↓gr_29_4, ↓gr_33_0, ↓gr_33_1, ↓gr_now, ↓gr_next, ln_0, ln_1, ln_2, ln_3, ln_4, ln_5, ln_6, ln_7, ln_8, ln_10, ln_11, ln_12, ln_13, ln_15, ln_16, ln_30, ln_60, ln_256, ln_300, ln_400, ln_500, ln_1023, ln_1024, nl_0, nl_1, nl_2, nl_3, nl_4, nl_5, nl_6, nl_7, nl_8, nl_10, nl_11, nl_12, nl_13, nl_15, nl_16, nl_30, nl_60, nl_256, nl_300, nl_400, nl_500, nl_1023, nl_1024, tn_0, tn_1, tn_2, tn_3, tn_4, tn_5, tn_6, tn_7, tn_8, tn_10, tn_11, tn_12, tn_13, tn_15, tn_16, tn_30, tn_60, tn_256, tn_300, tn_400, tn_500, tn_1023, tn_1024, nt_0, nt_1, nt_2, nt_3, nt_4, nt_5, nt_6, nt_7, nt_8, nt_10, nt_11, nt_12, nt_13, nt_15, nt_16, nt_30, nt_60, nt_256, nt_300, nt_400, nt_500, nt_1023, nt_1024, ne_0, ne_1, ne_2, ne_3, ne_4, ne_5, ne_6, ne_7, ne_8, ne_10, ne_11, ne_12, ne_13, ne_15, ne_16, ne_30, ne_60, ne_256, ne_300, ne_400, ne_500, ne_1023, ne_1024, le_nn, lt_nn, eq_nn, hq, if_false, ↓la_25, ↓st_25, t1, q0, if_true]
    · have hm : (tb ((h + d) % 1024) - 1) * w + w ≤ 4400 := by
        have : (tb ((h + d) % 1024) - 1 + 1) * w ≤ c * w := Nat.mul_le_mul_right _ (by omega)
        rw [Nat.add_mul, Nat.one_mul] at this
        omega
      have ea : m_Sn_isAsked 23 (nI (tb ((h + d) % 1024) - 1)) (lay σ) = some (bi (pEq (fun i => σ.2.1 24 ((tb ((h + d) % 1024) - 1) * w + i)) (σ.2.1 26) w 0 = true), lay σ) := by
        unfold m_Sn_isAsked
        rw [ckd_lay (ci := 4) (o := 23) rfl (by decide)]
        exact s_isAskedGo hw h4 hm w 0 FU (by omega) (by unfold FU; omega)
      have en : nI (tb ((h + d) % 1024)) - 1 = nI (tb ((h + d) % 1024) - 1) := ns_1 _ (by omega)
      have q0' : ¬ nI (tb ((h + d) % 1024)) = 0 := by rw [ne_0 (by omega)]; exact q0
      have pe := pEq_iff (f := fun i => σ.2.1 24 ((tb ((h + d) % 1024) - 1) * w + i)) (g := σ.2.1 26) w 0
      by_cases q1 : pEq (fun i => σ.2.1 24 ((tb ((h + d) % 1024) - 1) * w + i)) (σ.2.1 26) w 0 = true
      · refine ⟨d, by omega, hp, Or.inr ⟨q0, fun i hi => pe.mp q1 i (by omega) (by omega), ?_⟩⟩
        show b_Sn_find_12 (l_Sn_find_12 n) 23 (nI ((h + d) % 1024)) (nI d) (lay σ) = _
        unfold b_Sn_find_12
        simp (disch := first | assumption | rfl | decide | omega) only [↓ckd_lay, ↓bd_gI, ↓bd_gL, ↓bd_pI, ↓bd_pL, ↓bd_pZ, ↓bd_now, ↓bd_next, ↓bd_ldR3, ↓bd_ldR4, ↓ap_ite, ↓ap_rt, ↓ap_lt, ↓rz_0, ↓rz_1, rz_bi, ↓gr_1_0, ↓gr_1_1, ↓gr_1_2, ↓gr_1_3, ↓gr_1_4, ↓gr_1_5, ↓gr_1_6, ↓gr_15_0, ↓gr_15_1, ↓gr_15_2, ↓gr_15_3, ↓gr_20_0, ↓gr_20_1, ↓gr_23_0, ↓gr_23_1, ↓gr_23_2, ↓gr_27_0, ↓gr_27_1, ↓gr_27_2, ↓gr_29_0, ↓gr_29_1, ↓gr_29_2, ↓gr_29_3, ↓gr_29_4, ↓gr_33_0, ↓gr_33_1, ↓gr_now, ↓gr_next, ln_1024, hq, if_false, ↓la_25, ↓st_25, t1, q0', en]
        rw [bd_eq ea, ap_ite, if_neg (by rw [bi_0]; exact fun z => z q1)]
        simp (disch := first | assumption | rfl | decide | omega) only [↓ckd_lay, ↓bd_gI, ↓bd_gL, ↓bd_pI, ↓bd_pL, ↓bd_pZ, ↓bd_now, ↓bd_next, ↓bd_ldR3, ↓bd_ldR4, ↓ap_ite, ↓ap_rt, ↓ap_lt, ↓rz_0, ↓rz_1, rz_bi, ↓gr_1_0, ↓gr_1_1, ↓gr_1_2, ↓gr_1_3, ↓gr_1_4, ↓gr_1_5, ↓gr_1_6, ↓gr_15_0, ↓gr_15_1, ↓gr_15_2, ↓gr_15_3, ↓gr_20_0, ↓gr_20_1, ↓gr_23_0, ↓gr_23_1, ↓gr_23_2, ↓gr_27_0, ↓gr_27_1, ↓gr_27_2, ↓gr_29_0, ↓gr_29_1, ↓gr_29_2, ↓gr_29_3, ↓gr_29_4, ↓gr_33_0, ↓gr_33_1, ↓gr_now, ↓gr_next, ↓la_25, ↓st_25, t1, en]
      · have hne : d ≠ d0 := fun z => q0 (by rw [z]; exact hz)
        have hnm : ¬ ∀ i, i < w → σ.2.1 24 ((tb ((h + d) % 1024) - 1) * w + i) = σ.2.1 26 i := fun z => q1 (pe.mpr (fun i _ hi => z i (by omega)))
        obtain ⟨d1, x1, x2, x3⟩ := s_findGo hw h4 hc hcw ht hd0 hz (r - 1) (d + 1) n (by omega) (by omega) (fun d' hd' => by
          by_cases z : d' = d
          · rw [z]; exact ⟨q0, hnm⟩
          · exact hp d' (by omega))
        have estep : l_Sn_find_12 (n + 1) 23 (nI ((h + d) % 1024)) (nI d) (lay σ) = l_Sn_find_12 n 23 (nI ((h + (d + 1)) % 1024)) (nI (d + 1)) (lay σ) := by
          have em : (nI ((h + d) % 1024) + 1) &&& 1023 = nI ((h + (d + 1)) % 1024) := by
            rw [na_1]
            show nI _ &&& nI (2 ^ 10 - 1) = _
            rw [nx_and, Nat.and_two_pow_sub_one_eq_mod]
            congr 1
            omega
          show b_Sn_find_12 (l_Sn_find_12 n) 23 (nI ((h + d) % 1024)) (nI d) (lay σ) = _
          unfold b_Sn_find_12
          simp (disch := first | assumption | rfl | decide | omega) only [↓ckd_lay, ↓bd_gI, ↓bd_gL, ↓bd_pI, ↓bd_pL, ↓bd_pZ, ↓bd_now, ↓bd_next, ↓bd_ldR3, ↓bd_ldR4, ↓ap_ite, ↓ap_rt, ↓ap_lt, ↓rz_0, ↓rz_1, rz_bi, ↓gr_1_0, ↓gr_1_1, ↓gr_1_2, ↓gr_1_3, ↓gr_1_4, ↓gr_1_5, ↓gr_1_6, ↓gr_15_0, ↓gr_15_1, ↓gr_15_2, ↓gr_15_3, ↓gr_20_0, ↓gr_20_1, ↓gr_23_0, ↓gr_23_1, ↓gr_23_2, ↓gr_27_0, ↓gr_27_1, ↓gr_27_2, ↓gr_29_0, ↓gr_29_1, ↓gr_29_2, ↓gr_29_3, ↓gr_29_4, ↓gr_33_0, ↓gr_33_1, ↓gr_now, ↓gr_next, ln_1024, hq, if_false, ↓la_25, ↓st_25, t1, q0', en]
          rw [bd_eq ea, ap_ite, if_pos (by rw [bi_0]; exact q1), ap_lt, em, na_1]
        rw [estep]
        exact ⟨d1, x1, x2, x3⟩
