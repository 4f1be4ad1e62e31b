/-! reach: the row that leads out. -/
def itr (f : Nat → Nat) (a : Nat) : Nat → Nat
  | 0 => a
  | j + 1 => f (itr f a j)
theorem itr_s {f : Nat → Nat} {a : Nat} : ∀ j, itr f (f a) j = itr f a (j + 1)
  | 0 => rfl
  | j + 1 => by
    show f (itr f (f a) j) = f (itr f a (j + 1))
    rw [itr_s j]
theorem itr_end {f : Nat → Nat} {c : Nat} (hf : ∀ e, 0 < e → e < c → f e < e) : ∀ (n a : Nat), a ≤ n → a < c → ∃ d, d ≤ a ∧ itr f a d = 0 ∧ ∀ j, j < d → 0 < itr f a j ∧ itr f a j + j ≤ a
  | 0, a, h, hc => ⟨0, by omega, by show a = 0; omega, fun j hj => by omega⟩
  | n + 1, a, h, hc => by
    by_cases z : a = 0
    · exact ⟨0, by omega, z, fun j hj => by omega⟩
    · have h1 := hf a (by omega) hc
      obtain ⟨d, d1, d2, d3⟩ := itr_end hf n (f a) (by omega) (by omega)
      refine ⟨d + 1, by omega, by rw [← itr_s]; exact d2, fun j hj => ?_⟩
      cases j with
      | zero => exact ⟨by show 0 < a; omega, by show a + 0 ≤ a; omega⟩
      | succ j =>
        have := d3 j (by omega)
        rw [itr_s] at this
        exact ⟨this.1, by omega⟩
/-- the row, from its first sample on -/
def tlR (f : Nat → Nat) (g : Nat → Int64) (a d : Nat) (u : Int64) (i : Nat) : Int64 := if i = d then u else g (itr f a (d - 1 - i))
def Came (c : Nat) (f : Nat → Nat) (a d : Nat) : Prop := c ≤ 500 ∧ a < c ∧ d ≤ a ∧ itr f a d = 0 ∧ ∀ j, j < d → 0 < itr f a j ∧ itr f a j + j ≤ a
theorem nI_dn {k : Nat} (h : 0 < k) : nI (k - 1) + (-1) = nI (k - 1) - 1 := by rw [Int32.sub_eq_add_neg]
theorem c_tell59 {σ0 : SS} {c a d : Nat} {f : Nat → Nat} {g : Nat → Int64} {u : Int64} (hC : Came c f a d) (hr : ∀ e, 0 < e → e < c → σ0.1 30 e = nI (f e) ∧ σ0.2.1 31 e = g e) : ∀ (r j n : Nat) (σ : SS), j + r = d → r < n → Mod [32, fa 29 5] σ0 σ → (∀ i, d - j ≤ i → i ≤ d → σ.2.1 32 i = tlR f g a d u i) → ∃ τ, l_Rc_tellRow_59 n 29 (nI (d - j) - 1) (nI (itr f a j)) (lay σ) = some ((), lay τ) ∧ Mod [32, fa 29 5] σ0 τ ∧ τ.1 (fa 29 5) 0 = σ.1 (fa 29 5) 0 ∧ ∀ i, i ≤ d → τ.2.1 32 i = tlR f g a d u i
  | r, j, 0, σ, h, hn, hM, hi => by omega
  | 0, j, n + 1, σ, h, hn, hM, hi => by
    obtain ⟨c1, c2, c3, c4, c5⟩ := hC
    have hj : j = d := by omega
    refine ⟨σ, ?_, hM, rfl, fun i h1 => hi i (by omega) h1⟩
    show b_Rc_tellRow_59 (l_Rc_tellRow_59 n) 29 (nI (d - j) - 1) (nI (itr f a j)) (lay σ) = _
    unfold b_Rc_tellRow_59
    rw [ap_ite, hj, c4, if_pos (by decide), ap_rt]
  | r + 1, j, n + 1, σ, h, hn, hM, hi => by
    obtain ⟨c1, c2, c3, c4, c5⟩ := id hC
    obtain ⟨i1, i2⟩ := c5 j (by omega)
    obtain ⟨r1, r2⟩ := hr (itr f a j) i1 (by omega)
    have q1 : ¬ nI (itr f a j) ≤ 0 := fun w => absurd ((nl_0 (by omega)).mp w) (by omega)
    have q2 : ¬ nI (d - j - 1) < 0 := nI_pos (by omega)
    have e30 : σ.1 30 = σ0.1 30 := hM.i (by decide)
    have e31 : σ.2.1 31 = σ0.2.1 31 := hM.l (by decide)
    obtain ⟨τ, e1, e2, e3, e4⟩ := c_tell59 (u := u) hC hr r (j + 1) n (sL σ 32 (va_up (σ.2.1 32) (d - j - 1) (g (itr f a j)))) (by omega) (by omega) (hM.tr (Mod.L (by simp))) (fun i h1 h2 => by
      rw [sL_same]
      by_cases z : i = d - j - 1
      · rw [z, up_same]
        unfold tlR
        rw [if_neg (by omega), show d - 1 - (d - j - 1) = j by omega]
      · rw [up_ne z]; exact hi i (by omega) h2)
    refine ⟨τ, ?_, e2, e3, e4⟩
    show b_Rc_tellRow_59 (l_Rc_tellRow_59 n) 29 (nI (d - j) - 1) (nI (itr f a j)) (lay σ) = _
    unfold b_Rc_tellRow_59
    rw [ns_1 _ (by omega), ap_ite, if_neg q1, ap_ite, if_neg q2]
    simp (disch := first | assumption | rfl | decide | omega) only [↓ckd_lay, ↓bd_gI, ↓bd_gL, ↓bd_pI, ↓bd_pL, ↓bd_pZ, ↓bd_now, ↓bd_next, ↓bd_ldR3, ↓bd_ldR4, ↓ap_ite, ↓ap_rt, ↓ap_lt, ↓rz_0, ↓rz_1, rz_bi, ↓gr_1_0, ↓gr_1_1, ↓gr_1_2, ↓gr_1_3, ↓gr_1_4, ↓gr_1_5, ↓gr_1_6, ↓gr_15_0, ↓gr_15_1, ↓gr_15_2, ↓gr_15_3, ↓gr_20_0, ↓gr_20_1, ↓gr_23_0, ↓gr_23_1, ↓gr_23_2, ↓gr_27_0, ↓gr_27_1, ↓gr_27_2, ↓gr_29_0, ↓gr_29_1, ↓gr_29_2, ↓gr_29_3, ↓gr_29_4, ↓gr_33_0, ↓gr_33_1, ↓gr_now, ↓gr_next, ↓la_30, ↓st_30, ↓la_31, ↓st_31, ↓la_32, ↓st_32, e30, e31, r1, r2, sL_1]
    rw [nI_dn (by omega)]
    exact e1
theorem c_tell {σ : SS} {c a d : Nat} {f : Nat → Nat} {g : Nat → Int64} {u : Int64} (hC : Came c f a d) (hr : ∀ e, 0 < e → e < c → σ.1 30 e = nI (f e) ∧ σ.2.1 31 e = g e) : ∃ τ, m_Rc_tellRow 29 (nI a) u (lay σ) = some ((), lay τ) ∧ Mod [32, fa 29 5] σ τ ∧ τ.1 (fa 29 5) 0 = nI (d + 1) ∧ ∀ i, i ≤ d → τ.2.1 32 i = tlR f g a d u i := by
  obtain ⟨c1, c2, c3, c4, c5⟩ := id hC
  have go : ∀ (r j n : Nat), j + r = d → r < n → l_Rc_tellRow_6 n 29 (nI a) u (nI (j + 1)) (nI (itr f a j)) (lay σ) = m_Rc_tellRow_34 29 (nI a) u (nI (d + 1)) (lay σ) := by
    intro r
    induction r with
    | zero =>
      intro j n h hn
      obtain ⟨n, rfl⟩ : ∃ m, n = m + 1 := ⟨n - 1, by omega⟩
      have hj : j = d := by omega
      show b_Rc_tellRow_6 (l_Rc_tellRow_6 n) 29 (nI a) u (nI (j + 1)) (nI (itr f a j)) (lay σ) = _
      unfold b_Rc_tellRow_6
      rw [ap_ite, hj, c4, if_pos (by decide)]
    | succ r ih =>
      intro j n h hn
      obtain ⟨n, rfl⟩ : ∃ m, n = m + 1 := ⟨n - 1, by omega⟩
      obtain ⟨i1, i2⟩ := c5 j (by omega)
      obtain ⟨r1, r2⟩ := hr (itr f a j) i1 (by omega)
      have q1 : ¬ nI (itr f a j) ≤ 0 := fun w => absurd ((nl_0 (by omega)).mp w) (by omega)
      have q2 : ¬ (500 : Int32) ≤ nI (j + 1) := fun w => absurd ((ln_500 (by omega)).mp w) (by omega)
      show b_Rc_tellRow_6 (l_Rc_tellRow_6 n) 29 (nI a) u (nI (j + 1)) (nI (itr f a j)) (lay σ) = _
      unfold b_Rc_tellRow_6
      rw [ap_ite, if_neg q1, ap_ite, if_neg q2]
      simp (disch := first | assumption | rfl | decide | omega) only [↓ckd_lay, ↓bd_gI, ↓bd_gL, ↓bd_pI, ↓bd_pL, ↓bd_pZ, ↓bd_now, ↓bd_next, ↓bd_ldR3, ↓bd_ldR4, ↓ap_ite, ↓ap_rt, ↓ap_lt, ↓rz_0, ↓rz_1, rz_bi, ↓gr_1_0, ↓gr_1_1, ↓gr_1_2, ↓gr_1_3, ↓gr_1_4, ↓gr_1_5, ↓gr_1_6, ↓gr_15_0, ↓gr_15_1, ↓gr_15_2, ↓gr_15_3, ↓gr_20_0, ↓gr_20_1, ↓gr_23_0, ↓gr_23_1, ↓gr_23_2, ↓gr_27_0, ↓gr_27_1, ↓gr_27_2, ↓gr_29_0, ↓gr_29_1, ↓gr_29_2, ↓gr_29_3, ↓gr_29_4, ↓gr_33_0, ↓gr_33_1, ↓gr_now, ↓gr_next, ↓la_30, ↓st_30, r1, na_1]
      exact ih (j + 1) n (by omega) (by omega)
  obtain ⟨τ, e1, e2, e3, e4⟩ := c_tell59 (u := u) (σ0 := sL (sI σ (fa 29 5) (fun _ => nI (d + 1))) 32 (va_up (σ.2.1 32) d u)) hC (fun e h0 h1 => by rw [sL_1, sI_ne (by decide), sL_ne (by decide)]; exact hr e h0 h1) d 0 FU (sL (sI σ (fa 29 5) (fun _ => nI (d + 1))) 32 (va_up (σ.2.1 32) d u)) (by omega) (by unfold FU; omega) Mod.rf (fun i h1 h2 => by
    have : i = d := by omega
    rw [this, sL_same, up_same]
    unfold tlR
    rw [if_pos rfl])
  refine ⟨τ, ?_, ((Mod.I (by simp)).tr (Mod.L (by simp))).tr e2, ?_, e4⟩
  · unfold m_Rc_tellRow
    rw [ckd_lay (ci := 2) (o := 29) rfl (by decide)]
    refine (go d 0 FU (by omega) (by unfold FU; omega)).trans ?_
    unfold m_Rc_tellRow_34
    have q3 : nI (d + 1) - 2 = nI d - 1 := by
      rw [← na_1, Int32.sub_eq_add_neg, Int32.sub_eq_add_neg, Int32.add_assoc]
      rfl
    rw [ns_1 _ (by omega), show d + 1 - 1 = d by omega, q3]
    simp (disch := first | assumption | rfl | decide | omega) only [↓ckd_lay, ↓bd_gI, ↓bd_gL, ↓bd_pI, ↓bd_pL, ↓bd_pZ, ↓bd_now, ↓bd_next, ↓bd_ldR3, ↓bd_ldR4, ↓ap_ite, ↓ap_rt, ↓ap_lt, ↓rz_0, ↓rz_1, rz_bi, ↓gr_1_0, ↓gr_1_1, ↓gr_1_2, ↓gr_1_3, ↓gr_1_4, ↓gr_1_5, ↓gr_1_6, ↓gr_15_0, ↓gr_15_1, ↓gr_15_2, ↓gr_15_3, ↓gr_20_0, ↓gr_20_1, ↓gr_23_0, ↓gr_23_1, ↓gr_23_2, ↓gr_27_0, ↓gr_27_1, ↓gr_27_2, ↓gr_29_0, ↓gr_29_1, ↓gr_29_2, ↓gr_29_3, ↓gr_29_4, ↓gr_33_0, ↓gr_33_1, ↓gr_now, ↓gr_next, ↓la_32, ↓st_32, sI_2]
    exact e1
  · rw [e3, sL_1]; exact sI_row
theorem r_tell57 {σ0 : SS} {c a d : Nat} {f : Nat → Nat} {g : Nat → Int64} {u : Int64} (hC : Came c f a d) (hr : ∀ e, 0 < e → e < c → σ0.1 103 e = nI (f e) ∧ σ0.2.1 104 e = g e) : ∀ (r j n : Nat) (σ : SS), j + r = d → r < n → Mod [105, fa 81 35] σ0 σ → (∀ i, d - j ≤ i → i ≤ d → σ.2.1 105 i = tlR f g a d u i) → ∃ τ, l_Md_tellRow_57 n 81 (nI (itr f a j)) (nI (d - j) - 1) (lay σ) = some ((), lay τ) ∧ Mod [105, fa 81 35] σ0 τ ∧ τ.1 (fa 81 35) 0 = σ.1 (fa 81 35) 0 ∧ ∀ i, i ≤ d → τ.2.1 105 i = tlR f g a d u i
  | r, j, 0, σ, h, hn, hM, hi => by omega
  | 0, j, n + 1, σ, h, hn, hM, hi => by
    have hj : d - j = 0 := by omega
    refine ⟨σ, ?_, hM, rfl, fun i h1 => hi i (by omega) h1⟩
    show b_Md_tellRow_57 (l_Md_tellRow_57 n) 81 (nI (itr f a j)) (nI (d - j) - 1) (lay σ) = _
    unfold b_Md_tellRow_57
    rw [ap_ite, hj, if_pos (by decide), ap_rt]
  | r + 1, j, n + 1, σ, h, hn, hM, hi => by
    obtain ⟨c1, c2, c3, c4, c5⟩ := id hC
    obtain ⟨i1, i2⟩ := c5 j (by omega)
    obtain ⟨r1, r2⟩ := hr (itr f a j) i1 (by omega)
    have q2 : ¬ nI (d - j - 1) < 0 := nI_pos (by omega)
    have e30 : σ.1 103 = σ0.1 103 := hM.i (by decide)
    have e31 : σ.2.1 104 = σ0.2.1 104 := hM.l (by decide)
    obtain ⟨τ, e1, e2, e3, e4⟩ := r_tell57 (u := u) hC hr r (j + 1) n (sL σ 105 (va_up (σ.2.1 105) (d - j - 1) (g (itr f a j)))) (by omega) (by omega) (hM.tr (Mod.L (by simp))) (fun i h1 h2 => by
      rw [sL_same]
      by_cases z : i = d - j - 1
      · rw [z, up_same]
        unfold tlR
        rw [if_neg (by omega), show d - 1 - (d - j - 1) = j by omega]
      · rw [up_ne z]; exact hi i (by omega) h2)
    refine ⟨τ, ?_, e2, e3, e4⟩
    show b_Md_tellRow_57 (l_Md_tellRow_57 n) 81 (nI (itr f a j)) (nI (d - j) - 1) (lay σ) = _
    unfold b_Md_tellRow_57
    rw [ns_1 _ (by omega), ap_ite, if_neg q2]
    simp (disch := first | assumption | rfl | decide | omega) only [↓ckd_lay, ↓bd_gI, ↓bd_gL, ↓bd_pI, ↓bd_pL, ↓bd_pZ, ↓bd_now, ↓bd_next, ↓bd_ldR3, ↓bd_ldR4, ↓ap_ite, ↓ap_rt, ↓ap_lt, ↓rz_0, ↓rz_1, rz_bi, ↓gr_81_0, ↓gr_81_1, ↓gr_81_2, ↓gr_81_3, ↓gr_81_4, ↓gr_81_7, ↓gr_81_8, ↓gr_81_9, ↓gr_81_11, ↓gr_81_14, ↓gr_81_17, ↓gr_81_18, ↓gr_81_20, ↓gr_81_21, ↓gr_81_25, ↓gr_81_26, ↓gr_81_27, ↓gr_81_28, ↓gr_81_29, ↓gr_81_31, ↓gr_81_32, ↓gr_81_33, ↓gr_81_34, ↓gr_81_36, ↓gr_81_39, ↓la_103, ↓st_103, ↓la_104, ↓st_104, ↓la_105, ↓st_105, e30, e31, r1, r2, sL_1]
    rw [nI_dn (by omega)]
    exact e1
theorem r_tell {σ : SS} {c a d : Nat} {f : Nat → Nat} {g : Nat → Int64} {u : Int64} (hC : Came c f a d) (h0 : σ.1 103 0 = -1) (hr : ∀ e, 0 < e → e < c → σ.1 103 e = nI (f e) ∧ σ.2.1 104 e = g e) (hf : ∀ e, 0 < e → e < c → f e < e) : ∃ τ, m_Md_tellRow 81 (nI a) u (lay σ) = some ((), lay τ) ∧ Mod [105, fa 81 35] σ τ ∧ τ.1 (fa 81 35) 0 = nI (d + 1) ∧ ∀ i, i ≤ d → τ.2.1 105 i = tlR f g a d u i := by
  obtain ⟨c1, c2, c3, c4, c5⟩ := id hC
  obtain ⟨τ, e1, e2, e3, e4⟩ := r_tell57 (u := u) (σ0 := sL (sI σ (fa 81 35) (fun _ => nI (d + 1))) 105 (va_up (σ.2.1 105) d u)) hC (fun e h0 h1 => by rw [sL_1, sI_ne (by decide), sL_ne (by decide)]; exact hr e h0 h1) d 0 FU (sL (sI σ (fa 81 35) (fun _ => nI (d + 1))) 105 (va_up (σ.2.1 105) d u)) (by omega) (by unfold FU; omega) Mod.rf (fun i h1 h2 => by
    have : i = d := by omega
    rw [this, sL_same, up_same]
    unfold tlR
    rw [if_pos rfl])
  have go : ∀ (r j n : Nat), j + r = d → r < n → l_Md_tellRow_6 n 81 (nI a) u (nI (j + 1)) (nI (itr f a j)) (lay σ) = some ((), lay τ) := by
    intro r
    induction r with
    | zero =>
      intro j n h hn
      obtain ⟨n, rfl⟩ : ∃ m, n = m + 1 := ⟨n - 1, by omega⟩
      have hj : j = d := by omega
      have q3 : nI (d + 1) - 2 = nI d - 1 := by
        rw [← na_1, Int32.sub_eq_add_neg, Int32.sub_eq_add_neg, Int32.add_assoc]
        rfl
      show b_Md_tellRow_6 (l_Md_tellRow_6 n) 81 (nI a) u (nI (j + 1)) (nI (itr f a j)) (lay σ) = _
      unfold b_Md_tellRow_6
      rw [hj, c4, gr_81_33, la_103 (by omega), h0, ap_ite, if_pos rfl, ns_1 _ (by omega), show d + 1 - 1 = d by omega, q3]
      simp (disch := first | assumption | rfl | decide | omega) only [↓ckd_lay, ↓bd_gI, ↓bd_gL, ↓bd_pI, ↓bd_pL, ↓bd_pZ, ↓bd_now, ↓bd_next, ↓bd_ldR3, ↓bd_ldR4, ↓ap_ite, ↓ap_rt, ↓ap_lt, ↓rz_0, ↓rz_1, rz_bi, ↓gr_81_0, ↓gr_81_1, ↓gr_81_2, ↓gr_81_3, ↓gr_81_4, ↓gr_81_7, ↓gr_81_8, ↓gr_81_9, ↓gr_81_11, ↓gr_81_14, ↓gr_81_17, ↓gr_81_18, ↓gr_81_20, ↓gr_81_21, ↓gr_81_25, ↓gr_81_26, ↓gr_81_27, ↓gr_81_28, ↓gr_81_29, ↓gr_81_31, ↓gr_81_32, ↓gr_81_33, ↓gr_81_34, ↓gr_81_36, ↓gr_81_39, ↓la_105, ↓st_105, sI_2]
      exact e1
    | succ r ih =>
      intro j n h hn
      obtain ⟨n, rfl⟩ : ∃ m, n = m + 1 := ⟨n - 1, by omega⟩
      obtain ⟨i1, i2⟩ := c5 j (by omega)
      obtain ⟨r1, r2⟩ := hr (itr f a j) i1 (by omega)
      have hfe := hf (itr f a j) i1 (by omega)
      have q1 : ¬ nI (f (itr f a j)) = -1 := fun w => by
        have := nI_pos (n := f (itr f a j)) (by omega)
        rw [w] at this
        exact this (by decide)
      show b_Md_tellRow_6 (l_Md_tellRow_6 n) 81 (nI a) u (nI (j + 1)) (nI (itr f a j)) (lay σ) = _
      unfold b_Md_tellRow_6
      simp (disch := first | assumption | rfl | decide | omega) only [↓ckd_lay, ↓bd_gI, ↓bd_gL, ↓bd_pI, ↓bd_pL, ↓bd_pZ, ↓bd_now, ↓bd_next, ↓bd_ldR3, ↓bd_ldR4, ↓ap_ite, ↓ap_rt, ↓ap_lt, ↓rz_0, ↓rz_1, rz_bi, ↓gr_81_0, ↓gr_81_1, ↓gr_81_2, ↓gr_81_3, ↓gr_81_4, ↓gr_81_7, ↓gr_81_8, ↓gr_81_9, ↓gr_81_11, ↓gr_81_14, ↓gr_81_17, ↓gr_81_18, ↓gr_81_20, ↓gr_81_21, ↓gr_81_25, ↓gr_81_26, ↓gr_81_27, ↓gr_81_28, ↓gr_81_29, ↓gr_81_31, ↓gr_81_32, ↓gr_81_33, ↓gr_81_34, ↓gr_81_36, ↓gr_81_39, ↓la_103, ↓st_103, r1, q1, if_false, na_1]
      exact ih (j + 1) n (by omega) (by omega)
  refine ⟨τ, ?_, ((Mod.I (by simp)).tr (Mod.L (by simp))).tr e2, ?_, e4⟩
  · unfold m_Md_tellRow
    rw [ckd_lay (ci := 9) (o := 81) rfl (by decide)]
    exact go d 0 FU (by omega) (by unfold FU; omega)
  · rw [e3, sL_1]; exact sI_row
