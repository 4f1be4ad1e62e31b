/-! Reels: reel, lose, put, get. -/
theorem kd_rl : ∀ j, j < 6 → kd (3 + 2 * j) = 3 ∧ kd (4 + 2 * j) = 11 ∧ ln (4 + 2 * j) = 60 ∧ ∀ σ, rf σ (3 + 2 * j) 0 = 4 + 2 * j
  | 0, _ => ⟨rfl, rfl, rfl, fun _ => rfl⟩
  | 1, _ => ⟨rfl, rfl, rfl, fun _ => rfl⟩
  | 2, _ => ⟨rfl, rfl, rfl, fun _ => rfl⟩
  | 3, _ => ⟨rfl, rfl, rfl, fun _ => rfl⟩
  | 4, _ => ⟨rfl, rfl, rfl, fun _ => rfl⟩
  | 5, _ => ⟨rfl, rfl, rfl, fun _ => rfl⟩
theorem rg0 {α : Type} {σ : SS} {j : Nat} (hj : j < 6) {f : Nat → M α} : bd (gR 3 (3 + 2 * j) 0) f (lay σ) = f (4 + 2 * j) (lay σ) := by rw [bd_gR (kd_rl j hj).1 rfl (by decide), (kd_rl j hj).2.2.2 σ]
theorem rgI {α : Type} {σ : SS} {j k : Nat} (hj : j < 6) (hk : ft 3 k = 0) {f : Int32 → M α} : bd (gI 3 (3 + 2 * j) k) f (lay σ) = f (σ.1 (fa (3 + 2 * j) k) 0) (lay σ) := bd_gI (kd_rl j hj).1 hk (by decide)
theorem zl82 {α : Type} {σ : SS} {j : Nat} (hj : j < 6) {f : Int32 → M α} : bd (ldZ 82 (nI j)) f (lay σ) = f (σ.1 82 j) (lay σ) := bd_ldZ rfl hj
theorem zs82 {α : Type} {σ : SS} {j : Nat} (hj : j < 6) {v : Int32} (hv : v = 0 ∨ v = 1) {f : Unit → M α} : bd (stZ 82 (nI j) v) f (lay σ) = f () (lay (sI σ 82 (va_up (σ.1 82) j v))) := bd_stZ hv rfl hj
/-- what is wrong with an item of a reel: nothing 0, lost 1, no such item 2, another form 3 -/
def pLack (σ : SS) (j : Nat) (f i : Int32) : Int32 := if σ.1 82 j = 0 then 1 else if σ.1 83 j = f then (if 0 ≤ i ∧ i < σ.1 84 j then 0 else 2) else 3
theorem pLack_ne {σ : SS} {j : Nat} {f i : Int32} : pLack σ j f i = 0 ∨ (pLack σ j f i = 1 ∨ pLack σ j f i = 2 ∨ pLack σ j f i = 3) := by
  unfold pLack
  repeat' split
  all_goals simp
theorem s_lacks {σ : SS} {j : Nat} {f i : Int32} (hj : j < 6) (hz : ∃ z, z ≤ 60 ∧ σ.1 84 j = nI z) : m_Md_lacks 81 (nI j) f i (lay σ) = some (pLack σ j f i, lay σ) := by
  obtain ⟨z, hz1, hz2⟩ := hz
  unfold m_Md_lacks
  simp (disch := first | assumption | rfl | decide | omega) only [↓ckd_lay, ↓bd_gI, ↓bd_gL, ↓bd_pI, ↓bd_pL, ↓bd_pZ, ↓bd_now, ↓bd_next, ↓bd_ldR3, ↓bd_ldR4, ↓ap_ite, ↓ap_rt, ↓ap_lt, ↓rz_0, ↓rz_1, rz_bi, ↓gr_81_0, ↓gr_81_1, ↓gr_81_2, ↓gr_81_3, ↓gr_81_4, ↓gr_81_7, ↓gr_81_8, ↓gr_81_9, ↓gr_81_11, ↓gr_81_14, ↓gr_81_17, ↓gr_81_18, ↓gr_81_20, ↓gr_81_21, ↓gr_81_25, ↓gr_81_26, ↓gr_81_27, ↓gr_81_28, ↓gr_81_29, ↓gr_81_31, ↓gr_81_32, ↓gr_81_33, ↓gr_81_34, ↓gr_81_36, ↓gr_81_39, ↓zl82 hj, ↓la_83, ↓st_83, ↓la_84, ↓st_84, hz2, ↓q_inN, bi_0]
  unfold pLack
  rw [hz2]
  by_cases q1 : σ.1 82 j = 0
  · rw [if_pos q1, if_pos q1]
  · rw [if_neg q1, if_neg q1]
    by_cases q2 : σ.1 83 j = f
    · rw [if_pos q2, if_pos q2]
      by_cases q3 : 0 ≤ i ∧ i < nI z
      · rw [if_neg (fun w => w q3), if_pos q3]
      · rw [if_pos q3, if_neg q3]
    · rw [if_neg q2, if_neg q2]
theorem s_hasItem {σ : SS} {j : Nat} {l : Int64} {z : Nat} (hj : j < 6) (hz : z ≤ 60) (h3 : σ.1 (fa (3 + 2 * j) 3) 0 = nI z) : m_Rl_hasItem (3 + 2 * j) l (lay σ) = some (bi (0 ≤ l.toInt ∧ l.toInt < z), lay σ) := by
  unfold m_Rl_hasItem
  have hk := (kd_rl j hj).1
  rw [ckd_lay hk (by decide)]
  simp (disch := first | assumption | rfl | decide | omega) only [↓ckd_lay, ↓bd_gI, ↓bd_gL, ↓bd_pI, ↓bd_pL, ↓bd_pZ, ↓bd_now, ↓bd_next, ↓bd_ldR3, ↓bd_ldR4, ↓ap_ite, ↓ap_rt, ↓ap_lt, ↓rz_0, ↓rz_1, rz_bi, ↓rgI hj, h3]
  have a1 : (l < 0) ↔ ¬ 0 ≤ l.toInt := by rw [Int64.lt_iff_toInt_lt, show (0 : Int64).toInt = 0 from rfl]; omega
  have a2 : ((nI z).toInt64 ≤ l) ↔ ¬ l.toInt < z := by rw [Int64.le_iff_toInt_le, Int32.toInt_toInt64, nI_toInt (by omega)]; omega
  rw [← bi_ite]
  by_cases q1 : 0 ≤ l.toInt
  · rw [if_neg (fun w => (a1.mp w) q1)]
    by_cases q2 : l.toInt < z
    · rw [if_neg (fun w => (a2.mp w) q2), if_pos ⟨q1, q2⟩]
    · rw [if_pos (a2.mpr q2), if_neg (fun w => q2 w.2)]
  · rw [if_pos (a1.mpr q1), if_neg (fun w => q1 w.1)]
theorem in_z {i : Int32} {z : Nat} (hz : z ≤ 60) : (0 ≤ i.toInt64.toInt ∧ i.toInt64.toInt < z) ↔ (0 ≤ i ∧ i < nI z) := by
  rw [Int32.toInt_toInt64, Int32.le_iff_toInt_le, Int32.lt_iff_toInt_lt, nI_toInt (by omega), show (0 : Int32).toInt = 0 from rfl]
theorem s_refuseItem {σ : SS} {j : Nat} {f i : Int32} (h : RReel σ) (hj : j < 6) (hf : 0 ≤ f ∧ f < 6) : m_Ob_refuseItem 1 (nI j) f i (lay σ) = if pLack σ j f i = 0 then some (0, lay σ) else some (-10 - pLack σ j f i, lay (sI σ (fa 1 9) (fun _ => pLack σ j f i))) := by
  obtain ⟨h1, h2, h3, ⟨z, hz, hz2⟩, h5, h6⟩ := h j hj
  have hi : 0 ≤ nI j ∧ nI j < 6 := ⟨by rw [ln_0 (by omega)]; omega, by rw [nt_6 (by omega)]; omega⟩
  unfold m_Ob_refuseItem
  rw [ckd_lay (ci := 8) (o := 1) rfl (by decide), bd_eq s_isReel, ap_ite, if_neg (by rw [bi_0]; exact fun q => q hi), bd_eq s_isForm, ap_ite, if_neg (by rw [bi_0]; exact fun q => q hf)]
  simp (disch := first | assumption | rfl | decide | omega) only [↓ckd_lay, ↓bd_gI, ↓bd_gL, ↓bd_pI, ↓bd_pL, ↓bd_pZ, ↓bd_now, ↓bd_next, ↓bd_ldR3, ↓bd_ldR4, ↓ap_ite, ↓ap_rt, ↓ap_lt, ↓rz_0, ↓rz_1, rz_bi, ↓gr_1_0, ↓gr_1_1, ↓gr_1_2, ↓gr_1_3, ↓gr_1_4, ↓gr_1_5, ↓gr_1_6, ↓gr_15_0, ↓gr_15_1, ↓gr_15_2, ↓gr_15_3, ↓gr_20_0, ↓gr_20_1, ↓gr_23_0, ↓gr_23_1, ↓gr_23_2, ↓gr_27_0, ↓gr_27_1, ↓gr_27_2, ↓gr_29_0, ↓gr_29_1, ↓gr_29_2, ↓gr_29_3, ↓gr_29_4, ↓gr_33_0, ↓gr_33_1, ↓gr_now, ↓gr_next, ↓rgI hj]
  rw [h2]
  unfold pLack
  rw [hz2]
  rcases h1 with ⟨q1, q2⟩ | ⟨q1, q2⟩
  · rw [q1, q2, if_pos rfl, if_neg (show ¬ ((1 : Int32) = 0) by decide)]
    by_cases w : σ.1 83 j = f
    · rw [if_pos w, if_pos w, bd_eq (s_hasItem hj hz (h3.trans hz2)), ap_ite, bi_congr (in_z hz)]
      by_cases w2 : 0 ≤ i ∧ i < nI z
      · rw [if_neg (by rw [bi_0]; exact fun q => q w2), if_pos w2, if_pos rfl, ap_rt]
      · rw [if_pos (by rw [bi_0]; exact w2), if_neg w2, if_neg (by decide), bd_eq s_found, ap_rt]
    · rw [if_neg w, if_neg w, bd_eq s_found, ap_rt, if_neg (by decide)]
  · rw [q1, q2, if_neg (show ¬ ((1 : Int32) = 0) by decide), if_pos rfl, bd_eq s_found, ap_rt, if_neg (by decide)]
theorem Rel.found {σ : SS} {c : Int32} (h : Rel σ) : Rel (sI (sI σ (fa 1 9) (fun _ => c)) (fa 81 5) (fun _ => c)) := by
  obtain ⟨⟨P, a, b, T, N, sd, fs, hC, hTr⟩, r1, r2, r3, r4, r5, r6⟩ := h
  have hM : Mod [fa 1 9, fa 81 5] σ (sI (sI σ (fa 1 9) (fun _ => c)) (fa 81 5) (fun _ => c)) := (Mod.I (by simp)).tr (Mod.I (by simp))
  refine ⟨⟨P, a, b, T, N, sd, fs, hC.mod hM (by decide), hTr.mod (hC.1.2.elim (fun q => Or.inl q.1) (fun q => Or.inr q.1)) hM (by decide)⟩, r1.mod hM (by decide), ?_, r3.mod hM (by decide), r4.mod hM (by decide), r5.mod hM (by decide), r6.mod hM (by decide)⟩
  show _ = _
  rw [sI_ne (by decide), sI_row, sI_row]
theorem Duo.found {β : Type} {f g : M β} {σ : SS} {c : Int32} (h : Rel σ) (r : β) (e : f (lay σ) = some (r, lay (sI σ (fa 1 9) (fun _ => c)))) (e2 : ∀ τ, τ = sI σ (fa 1 9) (fun _ => c) → RReel τ → g (lay τ) = some (r, lay (sI τ (fa 81 5) (fun _ => c)))) : Duo f g σ :=
  ⟨r, _, _, e, e2 _ rfl (h.2.1.mod (Mod.I (L := [fa 1 9]) (by simp)) (by decide)), h.found⟩
theorem pLack_found {σ τ : SS} {j : Nat} {f i c : Int32} (h : τ = sI σ (fa 1 9) (fun _ => c)) : pLack τ j f i = pLack σ j f i := by
  subst h
  unfold pLack
  rw [sI_ne (by decide), sI_ne (by decide), sI_ne (by decide)]
theorem d_get {σ : SS} {i f k : Int32} (h : Rel σ) : Duo (m_Ob_get 1 i f k) (m_Md_get 81 i f k) σ := by
  by_cases hi : 0 ≤ i ∧ i < 6
  · by_cases hf : 0 ≤ f ∧ f < 6
    · obtain ⟨j, hj, rfl⟩ := nI_ex (n := 6) (by omega) hi.1 hi.2
      have hR : RReel σ := h.2.1
      obtain ⟨h1, h2, h3, ⟨z, hz, hz2⟩, h5, h6⟩ := hR j hj
      have hfm : (0 : Int64) ≤ f.toInt64 ∧ f.toInt64 ≤ 5 := (in_65 f).mpr hf
      by_cases hl : pLack σ j f k = 0
      · have hk : 0 ≤ k ∧ k < nI z := by
          unfold pLack at hl
          rw [hz2] at hl
          by_cases w : 0 ≤ k ∧ k < nI z
          · exact w
          · exfalso
            rw [if_neg w] at hl
            repeat' split at hl
            all_goals simp at hl
        obtain ⟨w, hw, rfl⟩ := nI_ex (by omega) hk.1 hk.2
        refine Duo.same h (σ.2.1 85 (60 * j + w)) ?_ ?_
        · unfold m_Ob_get
          rw [ckd_lay (ci := 8) (o := 1) rfl (by decide), bd_eq ((s_refuseItem hR hj hf).trans (if_pos hl)), ap_ite, if_pos rfl]
          simp (disch := first | assumption | rfl | decide | omega) only [↓ckd_lay, ↓bd_gI, ↓bd_gL, ↓bd_pI, ↓bd_pL, ↓bd_pZ, ↓bd_now, ↓bd_next, ↓bd_ldR3, ↓bd_ldR4, ↓ap_ite, ↓ap_rt, ↓ap_lt, ↓rz_0, ↓rz_1, rz_bi, ↓gr_1_0, ↓gr_1_1, ↓gr_1_2, ↓gr_1_3, ↓gr_1_4, ↓gr_1_5, ↓gr_1_6, ↓gr_15_0, ↓gr_15_1, ↓gr_15_2, ↓gr_15_3, ↓gr_20_0, ↓gr_20_1, ↓gr_23_0, ↓gr_23_1, ↓gr_23_2, ↓gr_27_0, ↓gr_27_1, ↓gr_27_2, ↓gr_29_0, ↓gr_29_1, ↓gr_29_2, ↓gr_29_3, ↓gr_29_4, ↓gr_33_0, ↓gr_33_1, ↓gr_now, ↓gr_next, ↓rg0 hj]
          rw [bd_ldL (kd_rl j hj).2.1 (by rw [(kd_rl j hj).2.2.1]; omega), (h6 w (by omega)).1, ap_rt]
        · unfold m_Md_get
          rw [ckd_lay (ci := 9) (o := 81) rfl (by decide), bd_eq s_isReelM, ap_ite, if_neg (by rw [bi_0]; exact fun q => q hi), q_in, ap_ite, if_neg (by rw [bi_0]; exact fun q => q hfm), bd_eq (s_lacks hj ⟨z, hz, hz2⟩), hl, ap_ite, if_pos (by decide)]
          simp (disch := first | assumption | rfl | decide | omega) only [↓ckd_lay, ↓bd_gI, ↓bd_gL, ↓bd_pI, ↓bd_pL, ↓bd_pZ, ↓bd_now, ↓bd_next, ↓bd_ldR3, ↓bd_ldR4, ↓ap_ite, ↓ap_rt, ↓ap_lt, ↓rz_0, ↓rz_1, rz_bi, ↓gr_81_0, ↓gr_81_1, ↓gr_81_2, ↓gr_81_3, ↓gr_81_4, ↓gr_81_7, ↓gr_81_8, ↓gr_81_9, ↓gr_81_11, ↓gr_81_14, ↓gr_81_17, ↓gr_81_18, ↓gr_81_20, ↓gr_81_21, ↓gr_81_25, ↓gr_81_26, ↓gr_81_27, ↓gr_81_28, ↓gr_81_29, ↓gr_81_31, ↓gr_81_32, ↓gr_81_33, ↓gr_81_34, ↓gr_81_36, ↓gr_81_39, na_0, na_1, na_2, na_3, na_4, na_5, na_6, na_7, na_8, na_10, na_11, na_12, na_13, na_15, na_16, na_30, na_60, na_300, an_0, an_1, an_2, an_3, an_4, an_5, an_6, an_7, an_8, an_10, an_11, an_12, an_13, an_15, an_16, an_30, an_60, an_300, nm_0, nm_1, nm_2, nm_3, nm_4, nm_5, nm_6, nm_7, nm_8, nm_10, nm_11, nm_12, nm_13, nm_15, nm_16, nm_30, nm_60, nm_300, mn_0, mn_1, mn_2, mn_3, mn_4, mn_5, mn_6, mn_7, mn_8, mn_10, mn_11, mn_12, mn_13, mn_15, mn_16, mn_30, mn_60, mn_300, nI_add, pk_mul, ↓la_85, ↓st_85]
      · have hne := pLack_ne (σ := σ) (j := j) (f := f) (i := k)
        have hpos : ¬ pLack σ j f k ≤ 0 := by
          rcases hne with q | q | q | q
          · exact absurd q hl
          · rw [q]; decide
          · rw [q]; decide
          · rw [q]; decide
        have hpos2 : ¬ (-10 - pLack σ j f k = 0) := by
          rcases hne with q | q | q | q
          · exact absurd q hl
          · rw [q]; decide
          · rw [q]; decide
          · rw [q]; decide
        refine Duo.found (c := pLack σ j f k) h 0 ?_ (fun τ hτ hRτ => ?_)
        · unfold m_Ob_get
          rw [ckd_lay (ci := 8) (o := 1) rfl (by decide), bd_eq ((s_refuseItem hR hj hf).trans (if_neg hl)), ap_ite, if_neg hpos2, ap_rt]
        · unfold m_Md_get
          rw [ckd_lay (ci := 9) (o := 81) rfl (by decide), bd_eq s_isReelM, ap_ite, if_neg (by rw [bi_0]; exact fun q => q hi), q_in, ap_ite, if_neg (by rw [bi_0]; exact fun q => q hfm), bd_eq (s_lacks hj (hRτ j hj).2.2.2.1), pLack_found hτ, ap_ite, if_neg hpos, bd_eq s_meets, ap_rt]
    · refine Duo.same h 0 ?_ ?_
      · unfold m_Ob_get m_Ob_refuseItem
        have e : m_Ob_refuseItem 1 i f k (lay σ) = some (-2, lay σ) := by
          unfold m_Ob_refuseItem
          rw [ckd_lay (ci := 8) (o := 1) rfl (by decide), bd_eq s_isReel, ap_ite, if_neg (by rw [bi_0]; exact fun q => q hi), bd_eq s_isForm, ap_ite, if_pos (by rw [bi_0]; exact hf), ap_rt]
        unfold m_Ob_refuseItem at e
        rw [ckd_lay (ci := 8) (o := 1) rfl (by decide), bd_eq e, ap_ite, if_neg (by decide), ap_rt]
      · unfold m_Md_get
        rw [ckd_lay (ci := 9) (o := 81) rfl (by decide), bd_eq s_isReelM, ap_ite, if_neg (by rw [bi_0]; exact fun q => q hi), q_in, ap_ite, if_pos (by rw [bi_0, in_65]; exact hf), ap_rt]
  · refine Duo.same h 0 ?_ ?_
    · have e : m_Ob_refuseItem 1 i f k (lay σ) = some (-2, lay σ) := by
        unfold m_Ob_refuseItem
        rw [ckd_lay (ci := 8) (o := 1) rfl (by decide), bd_eq s_isReel, ap_ite, if_pos (by rw [bi_0]; exact hi), ap_rt]
      unfold m_Ob_get
      rw [ckd_lay (ci := 8) (o := 1) rfl (by decide), bd_eq e, ap_ite, if_neg (by decide), ap_rt]
    · unfold m_Md_get
      rw [ckd_lay (ci := 9) (o := 81) rfl (by decide), bd_eq s_isReelM, ap_ite, if_pos (by rw [bi_0]; exact hi), ap_rt]
theorem d_lose {σ : SS} {i : Int32} (h : Rel σ) : Duo (m_Ob_lose 1 i) (m_Md_lose 81 i) σ := by
  by_cases hi : 0 ≤ i ∧ i < 6
  · obtain ⟨j, hj, rfl⟩ := nI_ex (n := 6) (by omega) hi.1 hi.2
    have hR : RReel σ := h.2.1
    have hk := (kd_rl j hj).1
    obtain ⟨h1, h2, h3, ⟨z, hz, hz2⟩, h5, h6⟩ := hR j hj
    rcases h1 with ⟨q1, q2⟩ | ⟨q1, q2⟩
    · have hM : Mod [fa (3 + 2 * j) 1, 82] σ (sI (sI σ (fa (3 + 2 * j) 1) (fun _ => 1)) 82 (va_up (σ.1 82) j 0)) := (Mod.I (by simp)).tr (Mod.I (by simp))
      have n3 : fa (3 + 2 * j) 3 ≠ fa (3 + 2 * j) 1 := by unfold fa; omega
      refine ⟨nI z, sI σ (fa (3 + 2 * j) 1) (fun _ => 1), sI (sI σ (fa (3 + 2 * j) 1) (fun _ => 1)) 82 (va_up (σ.1 82) j 0), ?_, ?_, ?_⟩
      · unfold m_Ob_lose
        rw [ckd_lay (ci := 8) (o := 1) rfl (by decide), bd_eq s_isReel, ap_ite, if_neg (by rw [bi_0]; exact fun q => q hi)]
        simp (disch := first | assumption | rfl | decide | omega) only [↓ckd_lay, ↓bd_gI, ↓bd_gL, ↓bd_pI, ↓bd_pL, ↓bd_pZ, ↓bd_now, ↓bd_next, ↓bd_ldR3, ↓bd_ldR4, ↓ap_ite, ↓ap_rt, ↓ap_lt, ↓rz_0, ↓rz_1, rz_bi, ↓gr_1_0, ↓gr_1_1, ↓gr_1_2, ↓gr_1_3, ↓gr_1_4, ↓gr_1_5, ↓gr_1_6, ↓gr_15_0, ↓gr_15_1, ↓gr_15_2, ↓gr_15_3, ↓gr_20_0, ↓gr_20_1, ↓gr_23_0, ↓gr_23_1, ↓gr_23_2, ↓gr_27_0, ↓gr_27_1, ↓gr_27_2, ↓gr_29_0, ↓gr_29_1, ↓gr_29_2, ↓gr_29_3, ↓gr_29_4, ↓gr_33_0, ↓gr_33_1, ↓gr_now, ↓gr_next, ↓rgI hj, q1, if_true]
        rw [sI_ne n3, h3, hz2]
      · unfold m_Md_lose
        have n82 : 82 ≠ fa (3 + 2 * j) 1 := by unfold fa; omega
        have n84 : 84 ≠ fa (3 + 2 * j) 1 := by unfold fa; omega
        rw [ckd_lay (ci := 9) (o := 81) rfl (by decide), bd_eq s_isReelM, ap_ite, if_neg (by rw [bi_0]; exact fun q => q hi)]
        simp (disch := first | assumption | rfl | decide | omega) only [↓ckd_lay, ↓bd_gI, ↓bd_gL, ↓bd_pI, ↓bd_pL, ↓bd_pZ, ↓bd_now, ↓bd_next, ↓bd_ldR3, ↓bd_ldR4, ↓ap_ite, ↓ap_rt, ↓ap_lt, ↓rz_0, ↓rz_1, rz_bi, ↓gr_81_0, ↓gr_81_1, ↓gr_81_2, ↓gr_81_3, ↓gr_81_4, ↓gr_81_7, ↓gr_81_8, ↓gr_81_9, ↓gr_81_11, ↓gr_81_14, ↓gr_81_17, ↓gr_81_18, ↓gr_81_20, ↓gr_81_21, ↓gr_81_25, ↓gr_81_26, ↓gr_81_27, ↓gr_81_28, ↓gr_81_29, ↓gr_81_31, ↓gr_81_32, ↓gr_81_33, ↓gr_81_34, ↓gr_81_36, ↓gr_81_39, ↓zl82 hj, sI_ne n82, q2, if_false]
        rw [if_neg (by decide), zs82 hj (Or.inl rfl), sI_ne n82]
        simp (disch := first | assumption | rfl | decide | omega) only [↓ckd_lay, ↓bd_gI, ↓bd_gL, ↓bd_pI, ↓bd_pL, ↓bd_pZ, ↓bd_now, ↓bd_next, ↓bd_ldR3, ↓bd_ldR4, ↓ap_ite, ↓ap_rt, ↓ap_lt, ↓rz_0, ↓rz_1, rz_bi, ↓gr_81_0, ↓gr_81_1, ↓gr_81_2, ↓gr_81_3, ↓gr_81_4, ↓gr_81_7, ↓gr_81_8, ↓gr_81_9, ↓gr_81_11, ↓gr_81_14, ↓gr_81_17, ↓gr_81_18, ↓gr_81_20, ↓gr_81_21, ↓gr_81_25, ↓gr_81_26, ↓gr_81_27, ↓gr_81_28, ↓gr_81_29, ↓gr_81_31, ↓gr_81_32, ↓gr_81_33, ↓gr_81_34, ↓gr_81_36, ↓gr_81_39, ↓la_84, ↓st_84, sI_ne, sI_ne n84, hz2]
      · have hL : ∀ f : Nat → Bool, f 82 = false → (∀ w, w < 6 → f (fa (3 + 2 * w) 1) = false) → ∀ o ∈ [fa (3 + 2 * j) 1, 82], f o = false := fun f e1 e2 o ho => by
          rcases List.mem_cons.mp ho with q | q
          · rw [q]; exact e2 j hj
          · rw [List.mem_singleton.mp q]; exact e1
        have g : ∀ w, w < 6 → ∀ f ∈ [fFind, fW, fHold, fReach, fWorst, fTrace, fCore], f (fa (3 + 2 * w) 1) = false := by decide
        obtain ⟨⟨P, a, b, T, N, sd, fs, hC, hTr⟩, r1, r2, r3, r4, r5, r6⟩ := h
        refine ⟨⟨P, a, b, T, N, sd, fs, hC.mod hM (hL _ rfl (fun w hw => g w hw _ (by simp))), hTr.mod (hC.1.2.elim (fun q => Or.inl q.1) (fun q => Or.inr q.1)) hM (hL _ rfl (fun w hw => g w hw _ (by simp)))⟩, ?_, r2.mod hM (hL _ rfl (fun w hw => g w hw _ (by simp))), r3.mod hM (hL _ rfl (fun w hw => g w hw _ (by simp))), r4.mod hM (hL _ rfl (fun w hw => g w hw _ (by simp))), r5.mod hM (hL _ rfl (fun w hw => g w hw _ (by simp))), r6.mod hM (hL _ rfl (fun w hw => g w hw _ (by simp)))⟩
        intro r hr
        obtain ⟨k1, k2, k3, k4, k5, k6⟩ := r1 r hr
        rw [hM.i (o := fa (3 + 2 * r) 2) (by unfold fa; simp; omega), hM.i (o := fa (3 + 2 * r) 3) (by unfold fa; simp; omega), hM.i (o := 83) (by unfold fa; simp; omega), hM.i (o := 84) (by unfold fa; simp; omega), hM.l (o := 85) (by unfold fa; simp; omega), hM.l (o := 4 + 2 * r) (by unfold fa; simp; omega)]
        refine ⟨?_, k2, k3, k4, k5, k6⟩
        rw [sI_same, sI_ne (by unfold fa; omega)]
        by_cases w : r = j
        · subst w
          right
          rw [up_same]
          exact ⟨sI_row, rfl⟩
        · rw [sI_ne (by unfold fa; omega), up_ne w]; exact k1
    · refine Duo.found (c := 1) h (-11) ?_ (fun τ hτ hRτ => ?_)
      · unfold m_Ob_lose
        rw [ckd_lay (ci := 8) (o := 1) rfl (by decide), bd_eq s_isReel, ap_ite, if_neg (by rw [bi_0]; exact fun q => q hi)]
        simp (disch := first | assumption | rfl | decide | omega) only [↓ckd_lay, ↓bd_gI, ↓bd_gL, ↓bd_pI, ↓bd_pL, ↓bd_pZ, ↓bd_now, ↓bd_next, ↓bd_ldR3, ↓bd_ldR4, ↓ap_ite, ↓ap_rt, ↓ap_lt, ↓rz_0, ↓rz_1, rz_bi, ↓gr_1_0, ↓gr_1_1, ↓gr_1_2, ↓gr_1_3, ↓gr_1_4, ↓gr_1_5, ↓gr_1_6, ↓gr_15_0, ↓gr_15_1, ↓gr_15_2, ↓gr_15_3, ↓gr_20_0, ↓gr_20_1, ↓gr_23_0, ↓gr_23_1, ↓gr_23_2, ↓gr_27_0, ↓gr_27_1, ↓gr_27_2, ↓gr_29_0, ↓gr_29_1, ↓gr_29_2, ↓gr_29_3, ↓gr_29_4, ↓gr_33_0, ↓gr_33_1, ↓gr_now, ↓gr_next, ↓rgI hj, q1]
        rw [if_neg (by decide), bd_eq s_found, ap_rt]
        rfl
      · unfold m_Md_lose
        have q2' : τ.1 82 j = 0 := by rw [hτ, sI_ne (by decide)]; exact q2
        rw [ckd_lay (ci := 9) (o := 81) rfl (by decide), bd_eq s_isReelM, ap_ite, if_neg (by rw [bi_0]; exact fun q => q hi)]
        simp (disch := first | assumption | rfl | decide | omega) only [↓ckd_lay, ↓bd_gI, ↓bd_gL, ↓bd_pI, ↓bd_pL, ↓bd_pZ, ↓bd_now, ↓bd_next, ↓bd_ldR3, ↓bd_ldR4, ↓ap_ite, ↓ap_rt, ↓ap_lt, ↓rz_0, ↓rz_1, rz_bi, ↓gr_81_0, ↓gr_81_1, ↓gr_81_2, ↓gr_81_3, ↓gr_81_4, ↓gr_81_7, ↓gr_81_8, ↓gr_81_9, ↓gr_81_11, ↓gr_81_14, ↓gr_81_17, ↓gr_81_18, ↓gr_81_20, ↓gr_81_21, ↓gr_81_25, ↓gr_81_26, ↓gr_81_27, ↓gr_81_28, ↓gr_81_29, ↓gr_81_31, ↓gr_81_32, ↓gr_81_33, ↓gr_81_34, ↓gr_81_36, ↓gr_81_39, ↓zl82 hj, q2', if_true]
        rw [bd_eq s_meets, ap_rt]
        rfl
  · refine Duo.same h (-2) ?_ ?_
    · unfold m_Ob_lose
      rw [ckd_lay (ci := 8) (o := 1) rfl (by decide), bd_eq s_isReel, ap_ite, if_pos (by rw [bi_0]; exact hi), ap_rt]
    · unfold m_Md_lose
      rw [ckd_lay (ci := 9) (o := 81) rfl (by decide), bd_eq s_isReelM, ap_ite, if_pos (by rw [bi_0]; exact hi), ap_rt]
