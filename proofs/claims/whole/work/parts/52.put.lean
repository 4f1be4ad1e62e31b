/-! put, reel. -/
theorem lN_i32 (n : Nat) : (lN n).toInt32 = nI n := by
  apply Int32.toBitVec_inj.mp
  rw [Int64.toBitVec_toInt32, wb_tb]
  show BitVec.signExtend 32 (BitVec.ofNat 64 n) = BitVec.ofNat 32 n
  rw [BitVec.signExtend_eq_setWidth_of_le _ (by decide)]
  apply BitVec.eq_of_toNat_eq
  rw [BitVec.toNat_setWidth, BitVec.toNat_ofNat, BitVec.toNat_ofNat]
  omega
theorem nI_bits (n : Nat) : (nI n).toBitVec.toNat = n % 2 ^ 32 := by
  show (BitVec.ofNat 32 n).toNat = _
  rw [BitVec.toNat_ofNat]
theorem m31 (x : Int64) : ∃ m, m < 2 ^ 31 ∧ x &&& 2147483647 = lN m ∧ x.toInt32 &&& 2147483647 = nI m := by
  obtain ⟨n, hn, rfl⟩ := wb_of x
  refine ⟨n % 2 ^ 31, Nat.mod_lt _ (by decide), ?_, ?_⟩
  · exact wb_mask (k := 31) hn (by decide)
  · rw [lN_i32]
    show nI n &&& nI (2 ^ 31 - 1) = _
    rw [nx_and, Nat.and_two_pow_sub_one_eq_mod]
theorem m31_le (x : Int64) : ((x &&& 2147483647) ≤ 2139095040) ↔ ((x.toInt32 &&& 2147483647) ≤ 2139095040) := by
  obtain ⟨m, hm, e1, e2⟩ := m31 x
  rw [e1, e2, Int64.le_iff_toInt_le, Int32.le_iff_toInt_le, pk_lT (by omega), nI_toInt hm]
  rfl
theorem i_l_i (x : Int32) : x.toInt64.toInt32 = x := Int32.toInt32_toInt64 x
/-- bits as a reel holds them -/
def pHeld (f : Int32) (l : Int64) : Int64 := if f = 0 then l.toInt32.toInt8.toInt32.toInt64 else if f = 1 then l.toInt32.toInt16.toInt32.toInt64 else if f = 2 then l.toInt32.toInt64 else if f = 3 then l else if f = 4 then (if (l &&& 2147483647) ≤ 2139095040 then l.toInt32.toInt64 else 2143289344) else if (l &&& 9223372036854775807) ≤ 9218868437227405312 then l else 9221120237041090560
theorem s_noNum4 {σ : SS} {l : Int64} : m_Ob_isNoNumber 4 l (lay σ) = some (bi (¬ (l &&& 2147483647) ≤ 2139095040), lay σ) := by
  unfold m_Ob_isNoNumber
  rw [ap_ite, if_pos (by decide), ap_ite, if_pos rfl, ap_ite, rz_0, rz_1]
  unfold bi
  by_cases q : (l &&& 2147483647) ≤ 2139095040
  · rw [if_pos q, if_neg (fun w => w q)]
  · rw [if_neg q, if_pos q]
theorem s_noNum5 {σ : SS} {l : Int64} : m_Ob_isNoNumber 5 l (lay σ) = some (bi (¬ (l &&& 9223372036854775807) ≤ 9218868437227405312), lay σ) := by
  unfold m_Ob_isNoNumber
  rw [ap_ite, if_pos (by decide), ap_ite, if_neg (by decide), ap_ite, rz_0, rz_1]
  unfold bi
  by_cases q : (l &&& 9223372036854775807) ≤ 9218868437227405312
  · rw [if_pos q, if_neg (fun w => w q)]
  · rw [if_neg q, if_pos q]
theorem s_held {σ : SS} {f : Nat} {l : Int64} (hf : f < 6) : m_Ob_bitsAsHeld (nI f) l (lay σ) = some (pHeld (nI f) l, lay σ) ∧ (∀ τ : SS, m_Md_laid (nI f) l (lay τ) = some (pHeld (nI f) l, lay τ)) ∧ canon (nI f) (pHeld (nI f) l) := by
  match f, hf with
  | 0, _ =>
    refine ⟨?_, fun τ => ?_, fun q => absurd q (by decide), fun q => absurd q (by decide)⟩
    · unfold m_Ob_bitsAsHeld; rw [swt_n (by decide) rfl]; rfl
    · unfold m_Md_laid; rw [swt_n (by decide) rfl]; rfl
  | 1, _ =>
    refine ⟨?_, fun τ => ?_, fun q => absurd q (by decide), fun q => absurd q (by decide)⟩
    · unfold m_Ob_bitsAsHeld; rw [swt_n (by decide) rfl]; rfl
    · unfold m_Md_laid; rw [swt_n (by decide) rfl]; rfl
  | 2, _ =>
    refine ⟨?_, fun τ => ?_, fun q => absurd q (by decide), fun q => absurd q (by decide)⟩
    · unfold m_Ob_bitsAsHeld; rw [swt_n (by decide) rfl]; rfl
    · unfold m_Md_laid; rw [swt_n (by decide) rfl]; rfl
  | 3, _ =>
    refine ⟨?_, fun τ => ?_, fun q => absurd q (by decide), fun q => absurd q (by decide)⟩
    · unfold m_Ob_bitsAsHeld; rw [swt_n (by decide) rfl]; rfl
    · unfold m_Md_laid; rw [swt_n (by decide) rfl]; rfl
  | 4, _ =>
    have e4 : pHeld (nI 4) l = if (l &&& 2147483647) ≤ 2139095040 then l.toInt32.toInt64 else 2143289344 := rfl
    rw [e4]
    refine ⟨?_, fun τ => ?_, fun _ => ?_, fun q => absurd q (by decide)⟩
    · unfold m_Ob_bitsAsHeld
      rw [swt_n (by decide) rfl, show nI 4 = 4 from rfl, bd_eq s_noNum4, ap_ite]
      by_cases q : (l &&& 2147483647) ≤ 2139095040
      · rw [if_pos (by rw [bi_0]; exact fun w => w q), if_pos q, ap_rt]
      · rw [if_neg (by rw [bi_0]; exact fun w => w q), if_neg q, ap_rt]
    · unfold m_Md_laid
      rw [swt_n (by decide) rfl, ap_ite]
      by_cases q : (l &&& 2147483647) ≤ 2139095040
      · rw [if_pos ((m31_le l).mp q), if_pos q, ap_rt]
      · rw [if_neg (fun w => q ((m31_le l).mpr w)), if_neg q, ap_rt]
    · by_cases q : (l &&& 2147483647) ≤ 2139095040
      · rw [if_pos q, i_l_i]
        refine ⟨rfl, Or.inl ?_⟩
        rw [m31_le, i_l_i, ← m31_le]
        exact q
      · rw [if_neg q]
        exact ⟨by decide, Or.inr rfl⟩
  | 5, _ =>
    have e5 : pHeld (nI 5) l = if (l &&& 9223372036854775807) ≤ 9218868437227405312 then l else 9221120237041090560 := rfl
    rw [e5]
    refine ⟨?_, fun τ => ?_, fun q => absurd q (by decide), fun _ => ?_⟩
    · unfold m_Ob_bitsAsHeld
      rw [show swt (nI 5).toInt 0 _ _ = _ from swt_o (Or.inr (by show (0 : Int) + ((5 : Nat) : Int) ≤ (nI 5).toInt; decide)), show nI 5 = 5 from rfl, bd_eq s_noNum5, ap_ite]
      by_cases q : (l &&& 9223372036854775807) ≤ 9218868437227405312
      · rw [if_pos (by rw [bi_0]; exact fun w => w q), if_pos q, ap_rt]
      · rw [if_neg (by rw [bi_0]; exact fun w => w q), if_neg q, ap_rt]
    · unfold m_Md_laid
      rw [swt_n (by decide) rfl, ap_ite]
      by_cases q : (l &&& 9223372036854775807) ≤ 9218868437227405312
      · rw [if_pos q, if_pos q, ap_rt]
      · rw [if_neg q, if_neg q, ap_rt]
    · by_cases q : (l &&& 9223372036854775807) ≤ 9218868437227405312
      · rw [if_pos q]; exact Or.inl q
      · rw [if_neg q]; exact Or.inr rfl
theorem reel_off (o : Nat) (h : fReel o = true) : fFind o = false ∧ fW o = false ∧ fHold o = false ∧ fReach o = false ∧ fWorst o = false ∧ fTrace o = false ∧ fCore o = false := by
  unfold fReel at h
  unfold fFind fW fHold fReach fWorst fTrace fCore
  simp at h ⊢
  omega
theorem Rel.reel {σ υ : SS} {L : List Nat} (h : Rel σ) (hM : Mod L σ υ) (hL : ∀ o ∈ L, fReel o = true) (hr : RReel υ) : Rel υ := by
  obtain ⟨⟨P, a, b, T, N, sd, fs, hC, hTr⟩, r1, r2, r3, r4, r5, r6⟩ := h
  have g := fun o ho => reel_off o (hL o ho)
  exact ⟨⟨P, a, b, T, N, sd, fs, hC.mod hM (fun o ho => (g o ho).2.2.2.2.2.2), hTr.mod (hC.1.2.elim (fun q => Or.inl q.1) (fun q => Or.inr q.1)) hM (fun o ho => (g o ho).2.2.2.2.2.1)⟩, hr, r2.mod hM (fun o ho => (g o ho).1), r3.mod hM (fun o ho => (g o ho).2.1), r4.mod hM (fun o ho => (g o ho).2.2.1), r5.mod hM (fun o ho => (g o ho).2.2.2.1), r6.mod hM (fun o ho => (g o ho).2.2.2.2.1)⟩
theorem pLack_ok {σ : SS} {j z : Nat} {f k : Int32} (hz2 : σ.1 84 j = nI z) (hl : pLack σ j f k = 0) : (0 ≤ k ∧ k < nI z) ∧ σ.1 83 j = f ∧ σ.1 82 j ≠ 0 := by
  unfold pLack at hl
  rw [hz2] at hl
  by_cases w0 : σ.1 82 j = 0
  · rw [if_pos w0] at hl; simp at hl
  · rw [if_neg w0] at hl
    by_cases w1 : σ.1 83 j = f
    · rw [if_pos w1] at hl
      by_cases w : 0 ≤ k ∧ k < nI z
      · exact ⟨w, w1, w0⟩
      · rw [if_neg w] at hl; simp at hl
    · rw [if_neg w1] at hl; simp at hl
theorem pLack_pos {σ : SS} {j : Nat} {f k : Int32} (hl : ¬ pLack σ j f k = 0) : ¬ pLack σ j f k ≤ 0 ∧ ¬ (-10 - pLack σ j f k = 0) ∧ ¬ (0 ≤ -10 - pLack σ j f k) := by
  rcases pLack_ne (σ := σ) (j := j) (f := f) (i := k) with q | q | q | q
  · exact absurd q hl
  · rw [q]; decide
  · rw [q]; decide
  · rw [q]; decide
theorem d_put {σ : SS} {i f k : Int32} {l : Int64} (h : Rel σ) : Duo (m_Ob_put 1 i f k l) (m_Md_put 81 i f k l) σ := by
  by_cases hi : 0 ≤ i ∧ i < 6
  · by_cases hf : 0 ≤ f ∧ f < 6
    · obtain ⟨j, hj, rfl⟩ := nI_ex (n := 6) (by omega) hi.1 hi.2
      obtain ⟨f, hf6, rfl⟩ := nI_ex (n := 6) (x := f) (by omega) hf.1 hf.2
      have hR : RReel σ := h.2.1
      obtain ⟨h1, h2, h3, ⟨z, hz, hz2⟩, h5, h6⟩ := hR j hj
      have hfm : (0 : Int64) ≤ (nI f).toInt64 ∧ (nI f).toInt64 ≤ 5 := (in_65 _).mpr hf
      by_cases hl : pLack σ j (nI f) k = 0
      · obtain ⟨hk, h83, -⟩ := pLack_ok hz2 hl
        obtain ⟨w, hw, rfl⟩ := nI_ex (by omega) hk.1 hk.2
        obtain ⟨e1, e2, e3⟩ := s_held (σ := σ) (l := l) hf6
        have hM : Mod [4 + 2 * j, 85] σ (sL (sL σ (4 + 2 * j) (va_up (σ.2.1 (4 + 2 * j)) w (pHeld (nI f) l))) 85 (va_up (σ.2.1 85) (60 * j + w) (pHeld (nI f) l))) := (Mod.L (by simp)).tr (Mod.L (by simp))
        refine ⟨1, sL σ (4 + 2 * j) (va_up (σ.2.1 (4 + 2 * j)) w (pHeld (nI f) l)), _, ?_, ?_, h.reel hM (fun o ho => ?_) ?_⟩
        · unfold m_Ob_put
          rw [ckd_lay (ci := 8) (o := 1) rfl (by decide), bd_eq ((s_refuseItem hR hj hf).trans (if_pos hl)), ap_ite, if_pos rfl]
          simp (disch := first | assumption | rfl | decide | omega) only [↓ckd_lay, ↓bd_gI, ↓bd_gL, ↓bd_pI, ↓bd_pL, ↓bd_pZ, ↓bd_now, ↓bd_next, ↓bd_ldR3, ↓bd_ldR4, ↓ap_ite, ↓ap_rt, ↓ap_lt, ↓rz_0, ↓rz_1, rz_bi, ↓gr_1_0, ↓gr_1_1, ↓gr_1_2, ↓gr_1_3, ↓gr_1_4, ↓gr_1_5, ↓gr_1_6, ↓gr_15_0, ↓gr_15_1, ↓gr_15_2, ↓gr_15_3, ↓gr_20_0, ↓gr_20_1, ↓gr_23_0, ↓gr_23_1, ↓gr_23_2, ↓gr_27_0, ↓gr_27_1, ↓gr_27_2, ↓gr_29_0, ↓gr_29_1, ↓gr_29_2, ↓gr_29_3, ↓gr_29_4, ↓gr_33_0, ↓gr_33_1, ↓gr_now, ↓gr_next, ↓rg0 hj]
          rw [bd_eq e1, bd_stL (kd_rl j hj).2.1 (by rw [(kd_rl j hj).2.2.1]; omega), ap_rt]
        · unfold m_Md_put
          have hl' : pLack (sL σ (4 + 2 * j) (va_up (σ.2.1 (4 + 2 * j)) w (pHeld (nI f) l))) j (nI f) (nI w) = 0 := hl
          rw [ckd_lay (ci := 9) (o := 81) rfl (by decide), bd_eq s_isReelM, ap_ite, if_neg (by rw [bi_0]; exact fun q => q hi), q_in, ap_ite, if_neg (by rw [bi_0]; exact fun q => q hfm), bd_eq (s_lacks (σ := sL σ (4 + 2 * j) (va_up (σ.2.1 (4 + 2 * j)) w (pHeld (nI f) l))) hj ⟨z, hz, hz2⟩), hl', ap_ite, if_pos (by decide)]
          simp (disch := first | assumption | rfl | decide | omega) only [↓ckd_lay, ↓bd_gI, ↓bd_gL, ↓bd_pI, ↓bd_pL, ↓bd_pZ, ↓bd_now, ↓bd_next, ↓bd_ldR3, ↓bd_ldR4, ↓ap_ite, ↓ap_rt, ↓ap_lt, ↓rz_0, ↓rz_1, rz_bi, ↓gr_81_0, ↓gr_81_1, ↓gr_81_2, ↓gr_81_3, ↓gr_81_4, ↓gr_81_7, ↓gr_81_8, ↓gr_81_9, ↓gr_81_11, ↓gr_81_14, ↓gr_81_17, ↓gr_81_18, ↓gr_81_20, ↓gr_81_21, ↓gr_81_25, ↓gr_81_26, ↓gr_81_27, ↓gr_81_28, ↓gr_81_29, ↓gr_81_31, ↓gr_81_32, ↓gr_81_33, ↓gr_81_34, ↓gr_81_36, ↓gr_81_39]
          rw [bd_eq (e2 _)]
          simp (disch := first | assumption | rfl | decide | omega) only [↓ckd_lay, ↓bd_gI, ↓bd_gL, ↓bd_pI, ↓bd_pL, ↓bd_pZ, ↓bd_now, ↓bd_next, ↓bd_ldR3, ↓bd_ldR4, ↓ap_ite, ↓ap_rt, ↓ap_lt, ↓rz_0, ↓rz_1, rz_bi, ↓gr_81_0, ↓gr_81_1, ↓gr_81_2, ↓gr_81_3, ↓gr_81_4, ↓gr_81_7, ↓gr_81_8, ↓gr_81_9, ↓gr_81_11, ↓gr_81_14, ↓gr_81_17, ↓gr_81_18, ↓gr_81_20, ↓gr_81_21, ↓gr_81_25, ↓gr_81_26, ↓gr_81_27, ↓gr_81_28, ↓gr_81_29, ↓gr_81_31, ↓gr_81_32, ↓gr_81_33, ↓gr_81_34, ↓gr_81_36, ↓gr_81_39, na_0, na_1, na_2, na_3, na_4, na_5, na_6, na_7, na_8, na_10, na_11, na_12, na_13, na_15, na_16, na_30, na_60, na_300, an_0, an_1, an_2, an_3, an_4, an_5, an_6, an_7, an_8, an_10, an_11, an_12, an_13, an_15, an_16, an_30, an_60, an_300, nm_0, nm_1, nm_2, nm_3, nm_4, nm_5, nm_6, nm_7, nm_8, nm_10, nm_11, nm_12, nm_13, nm_15, nm_16, nm_30, nm_60, nm_300, mn_0, mn_1, mn_2, mn_3, mn_4, mn_5, mn_6, mn_7, mn_8, mn_10, mn_11, mn_12, mn_13, mn_15, mn_16, mn_30, mn_60, mn_300, nI_add, pk_mul, ↓la_85, ↓st_85]
          rw [sL_ne (by omega)]
        · have : o = 4 + 2 * j ∨ o = 85 := by simpa using ho
          unfold fReel
          simp
          omega
        · intro r hr
          obtain ⟨k1, k2, k3, k4, k5, k6⟩ := hR r hr
          refine ⟨k1, k2, k3, k4, k5, fun t ht => ?_⟩
          rw [sL_same, sL_ne (by omega)]
          show _ ∧ canon (σ.1 83 r) _
          by_cases q : r = j
          · subst q
            rw [sL_same]
            by_cases q2 : t = w
            · subst q2; rw [up_same, up_same, h83]; exact ⟨rfl, e3⟩
            · rw [up_ne q2, up_ne (by omega)]; exact k6 t ht
          · rw [sL_ne (by omega), up_ne (by omega)]; exact k6 t ht
      · obtain ⟨hp1, hp2, -⟩ := pLack_pos hl
        refine Duo.found (c := pLack σ j (nI f) k) h (-10 - pLack σ j (nI f) k) ?_ (fun τ hτ hRτ => ?_)
        · unfold m_Ob_put
          rw [ckd_lay (ci := 8) (o := 1) rfl (by decide), bd_eq ((s_refuseItem hR hj hf).trans (if_neg hl)), ap_ite, if_neg hp2, ap_rt]
        · unfold m_Md_put
          rw [ckd_lay (ci := 9) (o := 81) rfl (by decide), bd_eq s_isReelM, ap_ite, if_neg (by rw [bi_0]; exact fun q => q hi), q_in, ap_ite, if_neg (by rw [bi_0]; exact fun q => q hfm), bd_eq (s_lacks hj (hRτ j hj).2.2.2.1), pLack_found hτ, ap_ite, if_neg hp1, bd_eq s_meets, ap_rt]
    · refine Duo.same h (-2) ?_ ?_
      · have e : m_Ob_refuseItem 1 i f k (lay σ) = some (-2, lay σ) := by
          unfold m_Ob_refuseItem
          rw [ckd_lay (ci := 8) (o := 1) rfl (by decide), bd_eq s_isReel, ap_ite, if_neg (by rw [bi_0]; exact fun q => q hi), bd_eq s_isForm, ap_ite, if_pos (by rw [bi_0]; exact hf), ap_rt]
        unfold m_Ob_put
        rw [ckd_lay (ci := 8) (o := 1) rfl (by decide), bd_eq e, ap_ite, if_neg (by decide), ap_rt]
      · unfold m_Md_put
        rw [ckd_lay (ci := 9) (o := 81) rfl (by decide), bd_eq s_isReelM, ap_ite, if_neg (by rw [bi_0]; exact fun q => q hi), q_in, ap_ite, if_pos (by rw [bi_0, in_65]; exact hf), ap_rt]
  · refine Duo.same h (-2) ?_ ?_
    · have e : m_Ob_refuseItem 1 i f k (lay σ) = some (-2, lay σ) := by
        unfold m_Ob_refuseItem
        rw [ckd_lay (ci := 8) (o := 1) rfl (by decide), bd_eq s_isReel, ap_ite, if_pos (by rw [bi_0]; exact hi), ap_rt]
      unfold m_Ob_put
      rw [ckd_lay (ci := 8) (o := 1) rfl (by decide), bd_eq e, ap_ite, if_neg (by decide), ap_rt]
    · unfold m_Md_put
      rw [ckd_lay (ci := 9) (o := 81) rfl (by decide), bd_eq s_isReelM, ap_ite, if_pos (by rw [bi_0]; exact hi), ap_rt]
/-- a row with 60 places from 60 j on set to 0, from place k on -/
def clr (j : Nat) (f : Nat → Int64) (k : Nat) : Nat → Int64 := fun q => if 60 * j + k ≤ q ∧ q < 60 * j + 60 then 0 else f q
theorem s_reel62 {j : Nat} {z : Int32} (hj : j < 6) : ∀ (r k n : Nat) (σ : SS), k + r = 60 → r < n → l_Md_reel_62 n 81 (nI j) z (nI k) (lay σ) = some (z, lay (sL σ 85 (clr j (σ.2.1 85) k)))
  | r, k, 0, σ, h, hn => by omega
  | 0, k, n + 1, σ, h, hn => by
    have hq : 60 ≤ k := by omega
    show b_Md_reel_62 (l_Md_reel_62 n) 81 (nI j) z (nI k) (lay σ) = _
    unfold b_Md_reel_62
    simp (disch := first | assumption | rfl | decide | omega) only [↓ckd_lay, ↓bd_gI, ↓bd_gL, ↓bd_pI, ↓bd_pL, ↓bd_pZ, ↓bd_now, ↓bd_next, ↓bd_ldR3, ↓bd_ldR4, ↓ap_ite, ↓ap_rt, ↓ap_lt, ↓rz_0, ↓rz_1, rz_bi, ln_0, ln_1, ln_2, ln_3, ln_4, ln_5, ln_6, ln_7, ln_8, ln_10, ln_11, ln_12, ln_13, ln_15, ln_16, ln_30, ln_60, ln_256, ln_300, ln_400, ln_500, ln_1023, ln_1024, nl_0, nl_1, nl_2, nl_3, nl_4, nl_5, nl_6, nl_7, nl_8, nl_10, nl_11, nl_12, nl_13, nl_15, nl_16, nl_30, nl_60, nl_256, nl_300, nl_400, nl_500, nl_1023, nl_1024, tn_0, tn_1, tn_2, tn_3, tn_4, tn_5, tn_6, tn_7, tn_8, tn_10, tn_11, tn_12, tn_13, tn_15, tn_16, tn_30, tn_60, tn_256, tn_300, tn_400, tn_500, tn_1023, tn_1024, nt_0, nt_1, nt_2, nt_3, nt_4, nt_5, nt_6, nt_7, nt_8, nt_10, nt_11, nt_12, nt_13, nt_15, nt_16, nt_30, nt_60, nt_256, nt_300, nt_400, nt_500, nt_1023, nt_1024, ne_0, ne_1, ne_2, ne_3, ne_4, ne_5, ne_6, ne_7, ne_8, ne_10, ne_11, ne_12, ne_13, ne_15, ne_16, ne_30, ne_60, ne_256, ne_300, ne_400, ne_500, ne_1023, ne_1024, le_nn, lt_nn, eq_nn, hq, if_true]
    have : clr j (σ.2.1 85) k = σ.2.1 85 := by
      funext q; unfold clr; rw [if_neg (by omega)]
    rw [this, sL_id]
  | r + 1, k, n + 1, σ, h, hn => by
    have hq : ¬ 60 ≤ k := by omega
    show b_Md_reel_62 (l_Md_reel_62 n) 81 (nI j) z (nI k) (lay σ) = _
    unfold b_Md_reel_62
    simp (disch := first | assumption | rfl | decide | omega) only [↓ckd_lay, ↓bd_gI, ↓bd_gL, ↓bd_pI, ↓bd_pL, ↓bd_pZ, ↓bd_now, ↓bd_next, ↓bd_ldR3, ↓bd_ldR4, ↓ap_ite, ↓ap_rt, ↓ap_lt, ↓rz_0, ↓rz_1, rz_bi, ↓gr_81_0, ↓gr_81_1, ↓gr_81_2, ↓gr_81_3, ↓gr_81_4, ↓gr_81_7, ↓gr_81_8, ↓gr_81_9, ↓gr_81_11, ↓gr_81_14, ↓gr_81_17, ↓gr_81_18, ↓gr_81_20, ↓gr_81_21, ↓gr_81_25, ↓gr_81_26, ↓gr_81_27, ↓gr_81_28, ↓gr_81_29, ↓gr_81_31, ↓gr_81_32, ↓gr_81_33, ↓gr_81_34, ↓gr_81_36, ↓gr_81_39, ln_0, ln_1, ln_2, ln_3, ln_4, ln_5, ln_6, ln_7, ln_8, ln_10, ln_11, ln_12, ln_13, ln_15, ln_16, ln_30, ln_60, ln_256, ln_300, ln_400, ln_500, ln_1023, ln_1024, nl_0, nl_1, nl_2, nl_3, nl_4, nl_5, nl_6, nl_7, nl_8, nl_10, nl_11, nl_12, nl_13, nl_15, nl_16, nl_30, nl_60, nl_256, nl_300, nl_400, nl_500, nl_1023, nl_1024, tn_0, tn_1, tn_2, tn_3, tn_4, tn_5, tn_6, tn_7, tn_8, tn_10, tn_11, tn_12, tn_13, tn_15, tn_16, tn_30, tn_60, tn_256, tn_300, tn_400, tn_500, tn_1023, tn_1024, nt_0, nt_1, nt_2, nt_3, nt_4, nt_5, nt_6, nt_7, nt_8, nt_10, nt_11, nt_12, nt_13, nt_15, nt_16, nt_30, nt_60, nt_256, nt_300, nt_400, nt_500, nt_1023, nt_1024, ne_0, ne_1, ne_2, ne_3, ne_4, ne_5, ne_6, ne_7, ne_8, ne_10, ne_11, ne_12, ne_13, ne_15, ne_16, ne_30, ne_60, ne_256, ne_300, ne_400, ne_500, ne_1023, ne_1024, le_nn, lt_nn, eq_nn, hq, if_false, na_0, na_1, na_2, na_3, na_4, na_5, na_6, na_7, na_8, na_10, na_11, na_12, na_13, na_15, na_16, na_30, na_60, na_300, an_0, an_1, an_2, an_3, an_4, an_5, an_6, an_7, an_8, an_10, an_11, an_12, an_13, an_15, an_16, an_30, an_60, an_300, nm_0, nm_1, nm_2, nm_3, nm_4, nm_5, nm_6, nm_7, nm_8, nm_10, nm_11, nm_12, nm_13, nm_15, nm_16, nm_30, nm_60, nm_300, mn_0, mn_1, mn_2, mn_3, mn_4, mn_5, mn_6, mn_7, mn_8, mn_10, mn_11, mn_12, mn_13, mn_15, mn_16, mn_30, mn_60, mn_300, nI_add, pk_mul, ↓la_85, ↓st_85]
    rw [s_reel62 hj r (k + 1) n _ (by omega) (by omega), sL_same, sL_sL]
    have : clr j (va_up (σ.2.1 85) (60 * j + k) 0) (k + 1) = clr j (σ.2.1 85) k := by
      funext q
      unfold clr
      by_cases q1 : q = 60 * j + k
      · rw [q1, if_neg (by omega), if_pos (by omega), up_same]
      · rw [up_ne q1]
        by_cases q2 : 60 * j + k ≤ q ∧ q < 60 * j + 60
        · rw [if_pos q2, if_pos (by omega)]
        · rw [if_neg q2, if_neg (by omega)]
    rw [this]
theorem d_reel {σ : SS} {i f k : Int32} (h : Rel σ) : Duo (m_Ob_reel 1 i f k) (m_Md_reel 81 i f k) σ := by
  by_cases hi : 0 ≤ i ∧ i < 6
  · by_cases hf : 0 ≤ f ∧ f < 6
    · have hfm : (0 : Int64) ≤ f.toInt64 ∧ f.toInt64 ≤ 5 := (in_65 _).mpr hf
      by_cases h60 : k ≤ 60
      · by_cases h0 : 0 ≤ k
        · obtain ⟨j, hj, rfl⟩ := nI_ex (n := 6) (by omega) hi.1 hi.2
          obtain ⟨f, hf6, rfl⟩ := nI_ex (n := 6) (x := f) (by omega) hf.1 hf.2
          obtain ⟨z, hz, rfl⟩ := nI_ex (n := 61) (x := k) (by omega) h0 (by
            rw [Int32.le_iff_toInt_le, show (60 : Int32).toInt = 60 from rfl] at h60
            rw [Int32.lt_iff_toInt_lt, show (nI 61).toInt = 61 from rfl]
            omega)
          have hR : RReel σ := h.2.1
          have hk := (kd_rl j hj).1
          have hk2 := (kd_rl j hj).2.1
          have hl60 := (kd_rl j hj).2.2.1
          have er : m_Rl_renew (3 + 2 * j) (nI f) (nI z) (lay σ) = some ((), lay (sL (sI (sI (sI σ (fa (3 + 2 * j) 1) (fun _ => 0)) (fa (3 + 2 * j) 2) (fun _ => nI f)) (fa (3 + 2 * j) 3) (fun _ => nI z)) (4 + 2 * j) (fun q => if 0 ≤ q ∧ q < 60 then 0 else σ.2.1 (4 + 2 * j) q))) := by
            unfold m_Rl_renew
            rw [ckd_lay hk (by decide), bd_pZ (Or.inl rfl) hk rfl (by decide), bd_pI hk rfl (by decide), bd_pI hk rfl (by decide), rg0 hj]
            have e := s_fill (σ := sI (sI (sI σ (fa (3 + 2 * j) 1) (fun _ => 0)) (fa (3 + 2 * j) 2) (fun _ => nI f)) (fa (3 + 2 * j) 3) (fun _ => nI z)) (v := 0) hk2
            rw [hl60] at e
            rw [bd_eq e, ap_rt]
            rfl
          have mA : Mod [fa (3 + 2 * j) 1, fa (3 + 2 * j) 2, fa (3 + 2 * j) 3, 4 + 2 * j] σ (sL (sI (sI (sI σ (fa (3 + 2 * j) 1) (fun _ => 0)) (fa (3 + 2 * j) 2) (fun _ => nI f)) (fa (3 + 2 * j) 3) (fun _ => nI z)) (4 + 2 * j) (fun q => if 0 ≤ q ∧ q < 60 then 0 else σ.2.1 (4 + 2 * j) q)) := (((Mod.I (by simp)).tr (Mod.I (by simp))).tr (Mod.I (by simp))).tr (Mod.L (by simp))
          have v1 : (sL (sI (sI (sI σ (fa (3 + 2 * j) 1) (fun _ => 0)) (fa (3 + 2 * j) 2) (fun _ => nI f)) (fa (3 + 2 * j) 3) (fun _ => nI z)) (4 + 2 * j) (fun q => if 0 ≤ q ∧ q < 60 then 0 else σ.2.1 (4 + 2 * j) q)).1 (fa (3 + 2 * j) 1) 0 = 0 := by
            rw [sL_1, sI_ne (by unfold fa; omega), sI_ne (by unfold fa; omega)]; exact sI_row
          have v2 : (sL (sI (sI (sI σ (fa (3 + 2 * j) 1) (fun _ => 0)) (fa (3 + 2 * j) 2) (fun _ => nI f)) (fa (3 + 2 * j) 3) (fun _ => nI z)) (4 + 2 * j) (fun q => if 0 ≤ q ∧ q < 60 then 0 else σ.2.1 (4 + 2 * j) q)).1 (fa (3 + 2 * j) 2) 0 = nI f := by
            rw [sL_1, sI_ne (by unfold fa; omega)]; exact sI_row
          have v3 : (sL (sI (sI (sI σ (fa (3 + 2 * j) 1) (fun _ => 0)) (fa (3 + 2 * j) 2) (fun _ => nI f)) (fa (3 + 2 * j) 3) (fun _ => nI z)) (4 + 2 * j) (fun q => if 0 ≤ q ∧ q < 60 then 0 else σ.2.1 (4 + 2 * j) q)).1 (fa (3 + 2 * j) 3) 0 = nI z := by
            rw [sL_1]; exact sI_row
          have v4 : (sL (sI (sI (sI σ (fa (3 + 2 * j) 1) (fun _ => 0)) (fa (3 + 2 * j) 2) (fun _ => nI f)) (fa (3 + 2 * j) 3) (fun _ => nI z)) (4 + 2 * j) (fun q => if 0 ≤ q ∧ q < 60 then 0 else σ.2.1 (4 + 2 * j) q)).2.1 (4 + 2 * j) = (fun q => if 0 ≤ q ∧ q < 60 then 0 else σ.2.1 (4 + 2 * j) q) := sL_same
          generalize hτ : sL (sI (sI (sI σ (fa (3 + 2 * j) 1) (fun _ => 0)) (fa (3 + 2 * j) 2) (fun _ => nI f)) (fa (3 + 2 * j) 3) (fun _ => nI z)) (4 + 2 * j) (fun q => if 0 ≤ q ∧ q < 60 then 0 else σ.2.1 (4 + 2 * j) q) = τ at er mA v1 v2 v3 v4
          have mB : Mod [82, 83, 84, 85] τ (sL (sI (sI (sI τ 82 (va_up (τ.1 82) j 1)) 83 (va_up (τ.1 83) j (nI f))) 84 (va_up (τ.1 84) j (nI z))) 85 (clr j (τ.2.1 85) 0)) := (((Mod.I (by simp)).tr (Mod.I (by simp))).tr (Mod.I (by simp))).tr (Mod.L (by simp))
          have mAB : Mod [fa (3 + 2 * j) 1, fa (3 + 2 * j) 2, fa (3 + 2 * j) 3, 4 + 2 * j, 82, 83, 84, 85] σ (sL (sI (sI (sI τ 82 (va_up (τ.1 82) j 1)) 83 (va_up (τ.1 83) j (nI f))) 84 (va_up (τ.1 84) j (nI z))) 85 (clr j (τ.2.1 85) 0)) := (mA.mono (fun o ho => by simp at ho ⊢; omega)).tr (mB.mono (by simp))
          refine ⟨nI z, τ, _, ?_, ?_, h.reel mAB (fun o ho => ?_) ?_⟩
          · unfold m_Ob_reel
            rw [ckd_lay (ci := 8) (o := 1) rfl (by decide), bd_eq s_isReel, ap_ite, if_neg (by rw [bi_0]; exact fun q => q hi), bd_eq s_isForm, ap_ite, if_neg (by rw [bi_0]; exact fun q => q hf), ap_ite, if_pos h60, ap_ite, if_pos h0]
            simp (disch := first | assumption | rfl | decide | omega) only [↓ckd_lay, ↓bd_gI, ↓bd_gL, ↓bd_pI, ↓bd_pL, ↓bd_pZ, ↓bd_now, ↓bd_next, ↓bd_ldR3, ↓bd_ldR4, ↓ap_ite, ↓ap_rt, ↓ap_lt, ↓rz_0, ↓rz_1, rz_bi, ↓gr_1_0, ↓gr_1_1, ↓gr_1_2, ↓gr_1_3, ↓gr_1_4, ↓gr_1_5, ↓gr_1_6, ↓gr_15_0, ↓gr_15_1, ↓gr_15_2, ↓gr_15_3, ↓gr_20_0, ↓gr_20_1, ↓gr_23_0, ↓gr_23_1, ↓gr_23_2, ↓gr_27_0, ↓gr_27_1, ↓gr_27_2, ↓gr_29_0, ↓gr_29_1, ↓gr_29_2, ↓gr_29_3, ↓gr_29_4, ↓gr_33_0, ↓gr_33_1, ↓gr_now, ↓gr_next]
            rw [bd_eq er, ap_rt]
          · unfold m_Md_reel
            rw [ckd_lay (ci := 9) (o := 81) rfl (by decide), bd_eq s_isReelM, ap_ite, if_neg (by rw [bi_0]; exact fun q => q hi), q_in, ap_ite, if_neg (by rw [bi_0]; exact fun q => q hfm), ap_ite, if_pos h60, ap_ite, if_pos h0]
            simp (disch := first | assumption | rfl | decide | omega) only [↓ckd_lay, ↓bd_gI, ↓bd_gL, ↓bd_pI, ↓bd_pL, ↓bd_pZ, ↓bd_now, ↓bd_next, ↓bd_ldR3, ↓bd_ldR4, ↓ap_ite, ↓ap_rt, ↓ap_lt, ↓rz_0, ↓rz_1, rz_bi, ↓gr_81_0, ↓gr_81_1, ↓gr_81_2, ↓gr_81_3, ↓gr_81_4, ↓gr_81_7, ↓gr_81_8, ↓gr_81_9, ↓gr_81_11, ↓gr_81_14, ↓gr_81_17, ↓gr_81_18, ↓gr_81_20, ↓gr_81_21, ↓gr_81_25, ↓gr_81_26, ↓gr_81_27, ↓gr_81_28, ↓gr_81_29, ↓gr_81_31, ↓gr_81_32, ↓gr_81_33, ↓gr_81_34, ↓gr_81_36, ↓gr_81_39]
            rw [zs82 hj (Or.inr rfl)]
            simp (disch := first | assumption | rfl | decide | omega) only [↓ckd_lay, ↓bd_gI, ↓bd_gL, ↓bd_pI, ↓bd_pL, ↓bd_pZ, ↓bd_now, ↓bd_next, ↓bd_ldR3, ↓bd_ldR4, ↓ap_ite, ↓ap_rt, ↓ap_lt, ↓rz_0, ↓rz_1, rz_bi, ↓gr_81_0, ↓gr_81_1, ↓gr_81_2, ↓gr_81_3, ↓gr_81_4, ↓gr_81_7, ↓gr_81_8, ↓gr_81_9, ↓gr_81_11, ↓gr_81_14, ↓gr_81_17, ↓gr_81_18, ↓gr_81_20, ↓gr_81_21, ↓gr_81_25, ↓gr_81_26, ↓gr_81_27, ↓gr_81_28, ↓gr_81_29, ↓gr_81_31, ↓gr_81_32, ↓gr_81_33, ↓gr_81_34, ↓gr_81_36, ↓gr_81_39, ↓la_83, ↓st_83, ↓la_84, ↓st_84, sI_ne]
            exact s_reel62 hj 60 0 FU _ (by omega) (by unfold FU; omega)
          · simp at ho
            unfold fReel fa at *
            simp
            omega
          · intro r hr
            obtain ⟨k1, k2, k3, k4, k5, k6⟩ := hR r hr
            rw [mB.i (o := fa (3 + 2 * r) 1) (by unfold fa; simp; omega), mB.i (o := fa (3 + 2 * r) 2) (by unfold fa; simp; omega), mB.i (o := fa (3 + 2 * r) 3) (by unfold fa; simp; omega), mB.l (o := 4 + 2 * r) (by simp; omega), sL_same, sL_1, sI_same, sI_ne (q := 83) (by decide), sI_same, sI_ne (q := 82) (by decide), sI_ne (q := 82) (by decide), sI_same]
            have t82 : τ.1 82 = σ.1 82 := mA.i (by unfold fa; simp; omega)
            have t83 : τ.1 83 = σ.1 83 := mA.i (by unfold fa; simp; omega)
            have t84 : τ.1 84 = σ.1 84 := mA.i (by unfold fa; simp; omega)
            have t85 : τ.2.1 85 = σ.2.1 85 := mA.l (by unfold fa; simp; omega)
            rw [t82, t83, t84, t85]
            by_cases q : r = j
            · subst q
              rw [up_same, up_same, up_same, v1, v2, v3, v4]
              refine ⟨Or.inl ⟨rfl, rfl⟩, rfl, rfl, ⟨z, by omega, rfl⟩, ⟨f, hf6, rfl⟩, fun t ht => ?_⟩
              unfold clr
              rw [if_pos (by omega)]
              refine ⟨if_pos (by omega), fun _ => ⟨by decide, Or.inl (by decide)⟩, fun _ => Or.inl (by decide)⟩
            · rw [up_ne q, up_ne q, up_ne q, mA.i (o := fa (3 + 2 * r) 1) (by unfold fa; simp; omega), mA.i (o := fa (3 + 2 * r) 2) (by unfold fa; simp; omega), mA.i (o := fa (3 + 2 * r) 3) (by unfold fa; simp; omega), mA.l (o := 4 + 2 * r) (by unfold fa; simp; omega)]
              refine ⟨k1, k2, k3, k4, k5, fun t ht => ?_⟩
              unfold clr
              rw [if_neg (by omega)]
              exact k6 t ht
        · refine Duo.found (c := 5) h (-15) ?_ (fun τ hτ hRτ => ?_)
          · unfold m_Ob_reel
            rw [ckd_lay (ci := 8) (o := 1) rfl (by decide), bd_eq s_isReel, ap_ite, if_neg (by rw [bi_0]; exact fun q => q hi), bd_eq s_isForm, ap_ite, if_neg (by rw [bi_0]; exact fun q => q hf), ap_ite, if_pos h60, ap_ite, if_neg h0, bd_eq s_found, ap_rt]
            rfl
          · unfold m_Md_reel
            rw [ckd_lay (ci := 9) (o := 81) rfl (by decide), bd_eq s_isReelM, ap_ite, if_neg (by rw [bi_0]; exact fun q => q hi), q_in, ap_ite, if_neg (by rw [bi_0]; exact fun q => q hfm), ap_ite, if_pos h60, ap_ite, if_neg h0, bd_eq s_meets, ap_rt]
            rfl
      · refine Duo.same h (-2) ?_ ?_
        · unfold m_Ob_reel
          rw [ckd_lay (ci := 8) (o := 1) rfl (by decide), bd_eq s_isReel, ap_ite, if_neg (by rw [bi_0]; exact fun q => q hi), bd_eq s_isForm, ap_ite, if_neg (by rw [bi_0]; exact fun q => q hf), ap_ite, if_neg h60, ap_rt]
        · unfold m_Md_reel
          rw [ckd_lay (ci := 9) (o := 81) rfl (by decide), bd_eq s_isReelM, ap_ite, if_neg (by rw [bi_0]; exact fun q => q hi), q_in, ap_ite, if_neg (by rw [bi_0]; exact fun q => q hfm), ap_ite, if_neg h60, ap_rt]
    · refine Duo.same h (-2) ?_ ?_
      · unfold m_Ob_reel
        rw [ckd_lay (ci := 8) (o := 1) rfl (by decide), bd_eq s_isReel, ap_ite, if_neg (by rw [bi_0]; exact fun q => q hi), bd_eq s_isForm, ap_ite, if_pos (by rw [bi_0]; exact hf), ap_rt]
      · unfold m_Md_reel
        rw [ckd_lay (ci := 9) (o := 81) rfl (by decide), bd_eq s_isReelM, ap_ite, if_neg (by rw [bi_0]; exact fun q => q hi), q_in, ap_ite, if_pos (by rw [bi_0, in_65]; exact hf), ap_rt]
  · refine Duo.same h (-2) ?_ ?_
    · unfold m_Ob_reel
      rw [ckd_lay (ci := 8) (o := 1) rfl (by decide), bd_eq s_isReel, ap_ite, if_pos (by rw [bi_0]; exact hi), ap_rt]
    · unfold m_Md_reel
      rw [ckd_lay (ci := 9) (o := 81) rfl (by decide), bd_eq s_isReelM, ap_ite, if_pos (by rw [bi_0]; exact hi), ap_rt]
