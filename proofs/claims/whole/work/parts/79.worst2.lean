/-! worst: all rows, by both together. -/
abbrev wcL : List Nat := wcT ++ [fa 33 3, fa 33 4, fa 33 5, fa 33 6, fa 33 7]
abbrev wrL : List Nat := rwL ++ [fa 81 37, fa 81 38, 106]
section All
variable {P : SH} {n : Nat} {lo hi fs : Int64}
def Head (P : SH) (n : Nat) (lo hi fs : Int64) (σ : SS) (k : Nat) : Prop := (k = 0 → TwF σ 0 (fun _ => 0) fs) ∧ (0 < k → okF P n lo hi fs (k - 1) n 0 = true ∧ ∀ e, e ≤ n → TwF σ e (wN P n lo hi fs (k - 1) e) fs)
theorem c_head {σ : SS} {k : Nat} (hn : n ≤ 12) (hk : k < 2 ^ n) (h : Head P n lo hi fs σ k) : wS n k ≤ n ∧ (∀ i, i < wS n k → wO P n lo hi fs k i = true) ∧ ∀ e, e ≤ wS n k → TwF σ e (wN P n lo hi fs k e) fs := by
  by_cases h0 : k = 0
  · have e0 : wS n k = 0 := by unfold wS; rw [if_pos h0]
    rw [e0]
    refine ⟨Nat.zero_le _, fun i hi => by omega, fun e he => ?_⟩
    have : e = 0 := by omega
    rw [this]
    exact h.1 h0
  · obtain ⟨h1, h2⟩ := h.2 (by omega)
    obtain ⟨s1, s2, s3⟩ := wS_share hn hk (by omega) h1
    exact ⟨by omega, s3, fun e he => by rw [s2 e he]; exact h2 e (by omega)⟩
theorem okF_cut {k s : Nat} (hs : s ≤ n) (h : ∀ i, i < s → wO P n lo hi fs k i = true) : okF P n lo hi fs k (n - s) s = okF P n lo hi fs k n 0 := by
  have : okF P n lo hi fs k (n - s) s = true ↔ okF P n lo hi fs k n 0 = true := by
    rw [okF_iff, okF_iff]
    refine ⟨fun g i _ h2 => ?_, fun g i h1 h2 => g i (by omega) (by omega)⟩
    by_cases z : i < s
    · exact h i z
    · exact g i (by omega) (by omega)
  exact Bool.eq_iff_iff.mpr this
/-- a row of the class -/
theorem c_row {σ : SS} {k f : Nat} {mo : Int64} {be : Int32} (hP : AllP P) (h0 : P.2.2.2.2.2.2 = 0) (hS : 1 ≤ P.2.2.2.1) (hn : n ≤ 12) (hk : k < 2 ^ n) (hlo : smp lo) (hhi : smp hi) (hs : CShp σ P) (hz : TZ σ) (hh : Head P n lo hi fs σ k) :
    ∃ σ', Mod wcT σ σ' ∧ TZ σ' ∧ CShp σ' P ∧ (okF P n lo hi fs k n 0 = true → Head P n lo hi fs σ' (k + 1) ∧ l_Ws_goThroughAll_41 (f + 1) 33 (nI n) lo hi (nI (2 ^ n)) (nI (6 * (P.2.2.2.1 - 1))) mo be (nI k) (lay σ) = if wZ P n lo hi fs k ≤ mo then l_Ws_goThroughAll_41 f 33 (nI n) lo hi (nI (2 ^ n)) (nI (6 * (P.2.2.2.1 - 1))) mo be (nI (k + 1)) (lay σ') else l_Ws_goThroughAll_41 f 33 (nI n) lo hi (nI (2 ^ n)) (nI (6 * (P.2.2.2.1 - 1))) (wZ P n lo hi fs k) (nI k) (nI (k + 1)) (lay σ')) ∧ (¬ okF P n lo hi fs k n 0 = true → l_Ws_goThroughAll_41 (f + 1) 33 (nI n) lo hi (nI (2 ^ n)) (nI (6 * (P.2.2.2.1 - 1))) mo be (nI k) (lay σ) = some (0, lay σ')) := by
  have h12 : 2 ^ n ≤ 4096 := Nat.pow_le_pow_right (n := 2) (j := 12) (by decide) hn
  have hk12 : k < 4096 := Nat.lt_of_lt_of_le hk h12
  have hS5 := hP.1.1.1
  obtain ⟨s1, s2, s3⟩ := c_head hn hk hh
  obtain ⟨σ', e1, m1, z1, c1, g1⟩ := c_goOn (k := k) (fs := fs) hP h0 hk12 hn hlo hhi (n - wS n k) (wS n k) FU σ (by omega) (by unfold FU; omega) hs hz s2 s3
  rw [okF_cut s1 s2] at e1 g1
  have hT : IsTw (35 + 3 * n) := tw_w n (by omega)
  have eg : m_Ws_goOn 33 (nI k) (nI (wS n k)) (nI n) lo hi (lay σ) = some (bi (okF P n lo hi fs k n 0 = true), lay σ') := by
    unfold m_Ws_goOn
    rw [ckd_lay (ci := 7) (o := 33) rfl (by decide)]
    exact e1
  have hq : ¬ nI (2 ^ n) ≤ nI k := fun w => absurd ((le_nn (by omega) (by omega)).mp w) (by omega)
  have start : l_Ws_goThroughAll_41 (f + 1) 33 (nI n) lo hi (nI (2 ^ n)) (nI (6 * (P.2.2.2.1 - 1))) mo be (nI k) (lay σ) = m_Ws_goThroughAll_66 (l_Ws_goThroughAll_41 f) 33 (nI n) lo hi (nI (2 ^ n)) (nI (6 * (P.2.2.2.1 - 1))) mo be (nI k) (nI (wS n k)) (lay σ) := by
    show b_Ws_goThroughAll_41 (l_Ws_goThroughAll_41 f) 33 (nI n) lo hi (nI (2 ^ n)) (nI (6 * (P.2.2.2.1 - 1))) mo be (nI k) (lay σ) = _
    unfold b_Ws_goThroughAll_41
    rw [ap_ite, if_neg hq, ap_ite]
    by_cases z : k = 0
    · have e0 : wS n k = 0 := by unfold wS; rw [if_pos z]
      rw [if_pos ((ne_0 (by omega)).mpr z), e0]
      rfl
    · have e0 : wS n k = n - 1 - tzF 12 k := by unfold wS; rw [if_neg z]
      have ht := tz_lt (by omega) hk hn
      rw [if_neg (fun w => z ((ne_0 (by omega)).mp w)), bd_eq s_tz, (tz_all (by omega) hk12).1, ns_1 _ (by omega), pk_sub (by omega), e0]
  refine ⟨σ', m1, z1, c1, fun ok => ⟨⟨fun w => by omega, fun _ => ?_⟩, ?_⟩, fun no => ?_⟩
  · rw [Nat.add_sub_cancel]
    exact ⟨ok, g1 ok⟩
  · rw [start]
    unfold m_Ws_goThroughAll_66
    rw [bd_eq eg, ap_ite, if_neg (by rw [bi_0]; exact fun w => w ok), gr_33_1, bd_ldR4 (by omega), tg1 hT, tld hT (by omega), (g1 ok n (Nat.le_refl _)).1, ap_lt, ap_ite, na_1]
    rfl
  · rw [start]
    unfold m_Ws_goThroughAll_66
    rw [bd_eq eg, ap_ite, if_pos (by rw [bi_0]; exact no), rz_0]
theorem r_196 {τ0 : SS} {mo : Int64} {B : Nat} (hB : B < 4096) (hn : n ≤ 12) : ∀ (r i f : Nat) (τ : SS), i + r = n → r < f → Mod [106] τ0 τ → (∀ j, j < i → τ.2.1 106 j = if wbit B n j = true then hi else lo) → ∃ υ, l_Md_worst_196 f 81 (nI n) lo hi mo (nI B) (nI i) (lay τ) = some (mo, lay υ) ∧ Mod [106] τ0 υ ∧ ∀ j, j < n → υ.2.1 106 j = if wbit B n j = true then hi else lo
  | r, i, 0, τ, h, hf, hM, hj => by omega
  | 0, i, f + 1, τ, h, hf, hM, hj => by
    refine ⟨τ, ?_, hM, fun j hj2 => hj j (by omega)⟩
    show b_Md_worst_196 (l_Md_worst_196 f) 81 (nI n) lo hi mo (nI B) (nI i) (lay τ) = _
    unfold b_Md_worst_196
    rw [ap_ite, if_pos ((le_nn (by omega) (by omega)).mpr (by omega)), ap_rt]
  | r + 1, i, f + 1, τ, h, hf, hM, hj => by
    have hq : ¬ nI n ≤ nI i := fun w => absurd ((le_nn (by omega) (by omega)).mp w) (by omega)
    have wb := wa_bit hB (show i < n by omega) hn
    obtain ⟨υ, y1, y2, y3⟩ := r_196 (mo := mo) hB hn r (i + 1) f (sL τ 106 (va_up (τ.2.1 106) i (if wbit B n i = true then hi else lo))) (by omega) (by omega) (hM.tr (Mod.L (by simp))) (fun j hj2 => by
      rw [sL_same]
      by_cases z : j = i
      · rw [z, up_same]
      · rw [up_ne z]; exact hj j (by omega))
    refine ⟨υ, ?_, y2, y3⟩
    show b_Md_worst_196 (l_Md_worst_196 f) 81 (nI n) lo hi mo (nI B) (nI i) (lay τ) = _
    unfold b_Md_worst_196
    rw [ap_ite, if_neg hq, gr_81_39, ap_ite]
    by_cases q : wbit B n i = true
    · rw [if_pos q] at y1
      rw [if_neg (fun w => wb.mp w q), st_106 (by omega), na_1]
      exact y1
    · rw [if_neg q] at y1
      rw [if_pos (wb.mpr q), st_106 (by omega), na_1]
      exact y1
theorem s_worst (hP : AllP P) (h0 : P.2.2.2.2.2.2 = 0) (hS : 1 ≤ P.2.2.2.1) (hn : n ≤ 12) (hlo : smp lo) (hhi : smp hi) : ∀ (r k f : Nat) (σ : SS) (mo : Int64) (be : Nat), k + r = 2 ^ n → r < f → be < 4096 → CShp σ P → TZ σ → Head P n lo hi fs σ k →
    ∃ (ok : Bool) (σ' : SS) (M : Int64) (B : Nat), l_Ws_goThroughAll_41 f 33 (nI n) lo hi (nI (2 ^ n)) (nI (6 * (P.2.2.2.1 - 1))) mo (nI be) (nI k) (lay σ) = some (bi (ok = true), lay σ') ∧ Mod wcL σ σ' ∧ TZ σ' ∧ B < 4096 ∧ (ok = true → σ'.2.1 (fa 33 3) 0 = M ∧ σ'.1 (fa 33 4) 0 = nI n ∧ σ'.1 (fa 33 5) 0 = nI B ∧ σ'.2.1 (fa 33 6) 0 = lo ∧ σ'.2.1 (fa 33 7) 0 = hi) ∧ (¬ ok = true → Mod wcT σ σ') ∧
      ∀ τ : SS, RShp τ P → τ.2.1 (fa 81 13) 0 = fs → Z30 (τ.2.1 95) → ∃ υ, l_Md_worst_66 f 81 (nI n) lo hi mo (nI be) (nI k) (lay τ) = some (if ok = true then M else -9223372036854775808, lay υ) ∧ Mod wrL τ υ ∧ Z30 (υ.2.1 95) ∧ (ok = true → υ.1 (fa 81 37) 0 = 0 ∧ υ.1 (fa 81 38) 0 = nI n ∧ ∀ j, j < n → υ.2.1 106 j = if wbit B n j = true then hi else lo) ∧ (¬ ok = true → υ.1 (fa 81 37) 0 = -6 ∧ Mod (rwL ++ [fa 81 37]) τ υ)
  | r, k, 0, σ, mo, be, h, hf, hbe, hs, hz, hh => by omega
  | 0, k, f + 1, σ, mo, be, h, hf, hbe, hs, hz, hh => by
    have h12 : 2 ^ n ≤ 4096 := Nat.pow_le_pow_right (n := 2) (j := 12) (by decide) hn
    have hq : 2 ^ n ≤ k := by omega
    have mm : Mod [fa 33 3, fa 33 4, fa 33 5, fa 33 6, fa 33 7] σ (sL (sL (sI (sI (sL σ (fa 33 3) (fun _ => mo)) (fa 33 4) (fun _ => nI n)) (fa 33 5) (fun _ => nI be)) (fa 33 6) (fun _ => lo)) (fa 33 7) (fun _ => hi)) := ((((Mod.L (by simp)).tr (Mod.I (by simp))).tr (Mod.I (by simp))).tr (Mod.L (by simp))).tr (Mod.L (by simp))
    refine ⟨true, _, mo, be, ?_, mm.mono (fun o ho => List.mem_append_right _ ho), fun d hd => ?_, hbe, fun _ => ⟨?_, ?_, ?_, ?_, ?_⟩, fun w => absurd rfl w, fun τ g1 g2 g3 => ?_⟩
    · show b_Ws_goThroughAll_41 (l_Ws_goThroughAll_41 f) 33 (nI n) lo hi (nI (2 ^ n)) (nI (6 * (P.2.2.2.1 - 1))) mo (nI be) (nI k) (lay σ) = _
      unfold b_Ws_goThroughAll_41
      rw [ap_ite, if_pos ((le_nn (by omega) (by omega)).mpr hq)]
      simp (disch := first | assumption | rfl | decide | omega) only [↓ckd_lay, ↓bd_gI, ↓bd_gL, ↓bd_pI, ↓bd_pL, ↓bd_pZ, ↓bd_now, ↓bd_next, ↓bd_ldR3, ↓bd_ldR4, ↓ap_ite, ↓ap_rt, ↓ap_lt, ↓rz_0, ↓rz_1, rz_bi]
      rfl
    · rw [mm.l (by unfold fa; simp; omega)]; exact hz d hd
    · rw [sL_ne (by decide), sL_ne (by decide), sI_2, sI_2, sL_row]
    · rw [sL_1, sL_1, sI_ne (by decide), sI_row]
    · rw [sL_1, sL_1, sI_row]
    · rw [sL_ne (by decide), sL_row]
    · rw [sL_row]
    · obtain ⟨υ, y1, y2, y3⟩ := r_196 (lo := lo) (hi := hi) (mo := mo) (τ0 := sI (sI τ (fa 81 37) (fun _ => 0)) (fa 81 38) (fun _ => nI n)) hbe hn n 0 FU (sI (sI τ (fa 81 37) (fun _ => 0)) (fa 81 38) (fun _ => nI n)) (by omega) (by unfold FU; omega) Mod.rf (fun j hj => by omega)
      have mr : Mod [fa 81 37, fa 81 38, 106] τ υ := ((Mod.I (by simp)).tr (Mod.I (by simp))).tr (y2.mono (by simp))
      refine ⟨υ, ?_, mr.mono (by decide), by rw [mr.l (by decide)]; exact g3, fun _ => ⟨?_, ?_, y3⟩, fun w => absurd rfl w⟩
      · show b_Md_worst_66 (l_Md_worst_66 f) 81 (nI n) lo hi mo (nI be) (nI k) (lay τ) = _
        unfold b_Md_worst_66
        rw [wa_pow n (by omega), ap_ite, if_pos ((le_nn (by omega) (by omega)).mpr hq)]
        simp (disch := first | assumption | rfl | decide | omega) only [↓ckd_lay, ↓bd_gI, ↓bd_gL, ↓bd_pI, ↓bd_pL, ↓bd_pZ, ↓bd_now, ↓bd_next, ↓bd_ldR3, ↓bd_ldR4, ↓ap_ite, ↓ap_rt, ↓ap_lt, ↓rz_0, ↓rz_1, rz_bi, if_true]
        exact y1
      · rw [y2.i (by decide), sI_ne (by decide), sI_row]
      · rw [y2.i (by decide), sI_row]
  | r + 1, k, f + 1, σ, mo, be, h, hf, hbe, hs, hz, hh => by
    have h12 : 2 ^ n ≤ 4096 := Nat.pow_le_pow_right (n := 2) (j := 12) (by decide) hn
    have hk : k < 2 ^ n := by omega
    have hq : ¬ nI (2 ^ n) ≤ nI k := fun w => absurd ((le_nn (by omega) (by omega)).mp w) (by omega)
    obtain ⟨σ1, m1, z1, c1, g1, g2⟩ := c_row (f := f) (mo := mo) (be := nI be) hP h0 hS hn hk hlo hhi hs hz hh
    have ref : ∀ τ : SS, RShp τ P → τ.2.1 (fa 81 13) 0 = fs → Z30 (τ.2.1 95) → ∃ τ', Mod rwL τ τ' ∧ Z30 (τ'.2.1 95) ∧ RShp τ' P ∧ (okF P n lo hi fs k n 0 = true → l_Md_worst_66 (f + 1) 81 (nI n) lo hi mo (nI be) (nI k) (lay τ) = if wZ P n lo hi fs k ≤ mo then l_Md_worst_66 f 81 (nI n) lo hi mo (nI be) (nI (k + 1)) (lay τ') else l_Md_worst_66 f 81 (nI n) lo hi (wZ P n lo hi fs k) (nI k) (nI (k + 1)) (lay τ')) ∧ (¬ okF P n lo hi fs k n 0 = true → l_Md_worst_66 (f + 1) 81 (nI n) lo hi mo (nI be) (nI k) (lay τ) = bd (m_Md_refuses 81 (-6 : Int32)) (fun v7 => rt v7) (lay τ')) := fun τ t1 t2 t3 => by
      obtain ⟨τ1, e1, x1, x2, x3⟩ := s_rest (σ := τ) t3
      rw [t2] at x3
      obtain ⟨τ', y1, y2, y3, y4, y5⟩ := r_row (lo := lo) (hi := hi) (fs := fs) (k66 := l_Md_worst_66 f) (mo := mo) (be := nI be) hP h0 hS (show k < 4096 by omega) hn n 0 FU τ1 (by omega) (by unfold FU; omega) (t1.mod2 x1 (by decide)) x2 x3
      have start : l_Md_worst_66 (f + 1) 81 (nI n) lo hi mo (nI be) (nI k) (lay τ) = l_Md_worst_81 (l_Md_worst_66 f) FU 81 (nI n) lo hi mo (nI be) (nI k) (nI 0) (lay τ1) := by
        show b_Md_worst_66 (l_Md_worst_66 f) 81 (nI n) lo hi mo (nI be) (nI k) (lay τ) = _
        unfold b_Md_worst_66
        rw [wa_pow n (by omega), ap_ite, if_neg hq, bd_eq e1]
        rfl
      refine ⟨τ', (x1.mono (by decide)).tr y1, y2, y3, fun ok => ?_, fun no => ?_⟩
      · rw [start, y4 ok]
        unfold m_Md_worst_159
        rw [ap_ite, na_1]
      · rw [start, y5 no]
    by_cases ok : okF P n lo hi fs k n 0 = true
    · obtain ⟨hd, e1⟩ := g1 ok
      by_cases q : wZ P n lo hi fs k ≤ mo
      · obtain ⟨o, σ', M, B, y1, y2, y3, y4, y5, y6, y7⟩ := s_worst hP h0 hS hn hlo hhi r (k + 1) f σ1 mo be (by omega) (by omega) hbe c1 z1 hd
        refine ⟨o, σ', M, B, by rw [e1, if_pos q, y1], (m1.mono (fun o ho => List.mem_append_left _ ho)).tr y2, y3, y4, y5, fun w => m1.tr (y6 w), fun τ t1 t2 t3 => ?_⟩
        obtain ⟨τ', w1, w2, w3, w4, -⟩ := ref τ t1 t2 t3
        obtain ⟨υ, v1, v2, v3, v4, v5⟩ := y7 τ' w3 (by rw [w1.l (by decide)]; exact t2) w2
        exact ⟨υ, by rw [w4 ok, if_pos q, v1], (w1.mono (by decide)).tr v2, v3, v4, fun w => ⟨(v5 w).1, (w1.mono (by decide)).tr (v5 w).2⟩⟩
      · obtain ⟨o, σ', M, B, y1, y2, y3, y4, y5, y6, y7⟩ := s_worst hP h0 hS hn hlo hhi r (k + 1) f σ1 (wZ P n lo hi fs k) k (by omega) (by omega) (by omega) c1 z1 hd
        refine ⟨o, σ', M, B, by rw [e1, if_neg q, y1], (m1.mono (fun o ho => List.mem_append_left _ ho)).tr y2, y3, y4, y5, fun w => m1.tr (y6 w), fun τ t1 t2 t3 => ?_⟩
        obtain ⟨τ', w1, w2, w3, w4, -⟩ := ref τ t1 t2 t3
        obtain ⟨υ, v1, v2, v3, v4, v5⟩ := y7 τ' w3 (by rw [w1.l (by decide)]; exact t2) w2
        exact ⟨υ, by rw [w4 ok, if_neg q, v1], (w1.mono (by decide)).tr v2, v3, v4, fun w => ⟨(v5 w).1, (w1.mono (by decide)).tr (v5 w).2⟩⟩
    · refine ⟨false, σ1, 0, 0, by rw [g2 ok]; rfl, m1.mono (fun o ho => List.mem_append_left _ ho), z1, by omega, fun w => (by cases w), fun _ => m1, fun τ t1 t2 t3 => ?_⟩
      obtain ⟨τ', w1, w2, w3, -, w5⟩ := ref τ t1 t2 t3
      have mr : Mod [fa 81 37] τ' (sI τ' (fa 81 37) (fun _ => -6)) := Mod.I (by simp)
      refine ⟨sI τ' (fa 81 37) (fun _ => -6), ?_, (w1.mono (by decide)).tr (mr.mono (by decide)), w2, fun w => (by cases w), fun _ => ⟨sI_row, (w1.mono (by decide)).tr (mr.mono (by decide))⟩⟩
      rw [w5 ok]
      have er : m_Md_refuses 81 (-6 : Int32) (lay τ') = some (-9223372036854775808, lay (sI τ' (fa 81 37) (fun _ => -6))) := by
        unfold m_Md_refuses
        simp (disch := first | assumption | rfl | decide | omega) only [↓ckd_lay, ↓bd_gI, ↓bd_gL, ↓bd_pI, ↓bd_pL, ↓bd_pZ, ↓bd_now, ↓bd_next, ↓bd_ldR3, ↓bd_ldR4, ↓ap_ite, ↓ap_rt, ↓ap_lt, ↓rz_0, ↓rz_1, rz_bi]
      rw [bd_eq er, ap_rt]
      rfl
end All
