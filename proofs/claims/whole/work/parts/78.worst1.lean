/-! worst: a row, by the class and by the reference. -/
def wcT : List Nat := (List.range 13).flatMap (fun d => twL (35 + 3 * d))
theorem wcT_mem {d o : Nat} (hd : d < 13) (ho : o ∈ twL (35 + 3 * d)) : o ∈ wcT := List.mem_flatMap.mpr ⟨d, List.mem_range.mpr hd, ho⟩
def TwF (σ : SS) (e : Nat) (N : Nat → Int64) (fs : Int64) : Prop := σ.2.1 (35 + 3 * e + 1) = N ∧ σ.2.1 (fa (35 + 3 * e) 4) 0 = fs
theorem TZ.at {σ : SS} (h : TZ σ) {d : Nat} (hd : d < 13) : Z30 (σ.2.1 (35 + 3 * d + 1)) := by
  have := h d hd
  rw [show 36 + 3 * d = 35 + 3 * d + 1 by omega] at this
  exact this
section Row
variable {P : SH} {n : Nat} {lo hi fs : Int64} {k : Nat}
theorem lot0 (h0 : P.2.2.2.2.2.2 = 0) (z : Int64) : (pLot P.2.2.2.2.2.2 z).2 = z := by
  rw [h0]
  unfold pLot
  rw [if_neg (by omega)]
theorem c_goOn (hP : AllP P) (h0 : P.2.2.2.2.2.2 = 0) (hk : k < 4096) (hn : n ≤ 12) (hlo : smp lo) (hhi : smp hi) : ∀ (r d f : Nat) (σ : SS), d + r = n → r < f → CShp σ P → TZ σ → (∀ i, i < d → wO P n lo hi fs k i = true) → (∀ e, e ≤ d → TwF σ e (wN P n lo hi fs k e) fs) →
    ∃ σ', l_Ws_goOn_3 f 33 (nI k) (nI n) lo hi (nI d) (lay σ) = some (bi (okF P n lo hi fs k r d = true), lay σ') ∧ Mod wcT σ σ' ∧ TZ σ' ∧ CShp σ' P ∧ (okF P n lo hi fs k r d = true → ∀ e, e ≤ n → TwF σ' e (wN P n lo hi fs k e) fs)
  | r, d, 0, σ, h, hf, hs, hz, ho, ht => by omega
  | 0, d, f + 1, σ, h, hf, hs, hz, ho, ht => by
    have hq : n ≤ d := by omega
    refine ⟨σ, ?_, Mod.rf, hz, hs, fun _ e he => ht e (by omega)⟩
    show b_Ws_goOn_3 (l_Ws_goOn_3 f) 33 (nI k) (nI n) lo hi (nI d) (lay σ) = _
    unfold b_Ws_goOn_3
    rw [ap_ite, if_pos ((le_nn (by omega) (by omega)).mpr hq), rz_1]
    rfl
  | r + 1, d, f + 1, σ, h, hf, hs, hz, ho, ht => by
    have hF : FitP P := hP.1.1
    have hq : ¬ nI n ≤ nI d := fun w => absurd ((le_nn (by omega) (by omega)).mp w) (by omega)
    have hT : IsTw (35 + 3 * (d + 1)) := tw_w (d + 1) (by omega)
    have hU : IsTw (35 + 3 * d) := tw_w d (by omega)
    have h6 := hT.1
    obtain ⟨t1, t2⟩ := ht d (Nat.le_refl _)
    obtain ⟨τ1, e1, m1, n1, s1⟩ := s_becomeLike (σ := σ) hT hU (hz.at (by omega)) (hz.at (by omega))
    rw [t1] at n1
    rw [t2] at s1
    have c1 : CShp τ1 P := hs.mod hT (m1.mono (by simp))
    have hu : smp (wU n lo hi k d) := by
      unfold wU
      split
      · exact hhi
      · exact hlo
    have hng : NG P (wN P n lo hi fs k d) := wN_ng d ho
    obtain ⟨τ2, e2, m2, n2, mk, sd2, td2⟩ := s_makeStep (u := wU n lo hi k d) hT c1 hF
    rw [n1, s1, out_eq hP hng hu] at e2 n2
    rw [s1, lot0 h0] at sd2
    rw [show (pOut nR P (wU n lo hi k d) (wN P n lo hi fs k d) fs).1 = wO P n lo hi fs k d from rfl] at e2
    rw [← wN_s] at n2
    have c2 : CShp τ2 P := c1.mod hT m2
    have m02 : Mod (twL (35 + 3 * (d + 1))) σ τ2 := (m1.mono (by simp)).tr m2
    have mT : Mod wcT σ τ2 := m02.mono (fun o ho => wcT_mem (by omega) ho)
    have z2 : TZ τ2 := fun e he => by
      by_cases q : e = d + 1
      · rw [q, show 36 + 3 * (d + 1) = 35 + 3 * (d + 1) + 1 by omega, n2]
        exact wN_z hF (d + 1)
      · rw [m02.l (by unfold twL fa; simp; omega)]
        exact hz e he
    have f2 : ∀ e, e ≤ d + 1 → TwF τ2 e (wN P n lo hi fs k e) fs := fun e he => by
      by_cases q : e = d + 1
      · rw [q]; exact ⟨n2, sd2⟩
      · obtain ⟨x1, x2⟩ := ht e (by omega)
        refine ⟨?_, ?_⟩
        · rw [m02.l (by unfold twL fa; simp; omega)]; exact x1
        · rw [m02.l (by unfold twL fa; simp; omega)]; exact x2
    have step : l_Ws_goOn_3 (f + 1) 33 (nI k) (nI n) lo hi (nI d) (lay σ) = if wO P n lo hi fs k d = true then l_Ws_goOn_3 f 33 (nI k) (nI n) lo hi (nI (d + 1)) (lay τ2) else some (0, lay τ2) := by
      show b_Ws_goOn_3 (l_Ws_goOn_3 f) 33 (nI k) (nI n) lo hi (nI d) (lay σ) = _
      unfold b_Ws_goOn_3
      rw [ap_ite, if_neg hq, gr_33_1, na_1, bd_ldR4 (by omega), gr_33_1, bd_ldR4 (by omega), bd_eq e1, gr_33_1, bd_ldR4 (by omega), bd_eq (s_isOne hk (show d < n by omega) hn), ap_ite]
      by_cases q : wbit k n d = true
      · have eu : wU n lo hi k d = hi := by unfold wU; rw [if_pos q]
        rw [eu] at e2
        rw [if_neg (by rw [bi_0]; exact fun w => w q), bd_eq e2, ap_ite, rz_0]
        by_cases o : wO P n lo hi fs k d = true
        · rw [if_neg (by rw [bi_0]; exact fun w => w o), if_pos o]
        · rw [if_pos (by rw [bi_0]; exact o), if_neg o]
      · have eu : wU n lo hi k d = lo := by unfold wU; rw [if_neg q]
        rw [eu] at e2
        rw [if_pos (by rw [bi_0]; exact q), bd_eq e2, ap_ite, rz_0]
        by_cases o : wO P n lo hi fs k d = true
        · rw [if_neg (by rw [bi_0]; exact fun w => w o), if_pos o]
        · rw [if_pos (by rw [bi_0]; exact o), if_neg o]
    by_cases o : wO P n lo hi fs k d = true
    · obtain ⟨σ', y1, y2, y3, y4, y5⟩ := c_goOn hP h0 hk hn hlo hhi r (d + 1) f τ2 (by omega) (by omega) c2 z2 (fun i hi => by
        by_cases z : i = d
        · rw [z]; exact o
        · exact ho i (by omega)) f2
      have eo : okF P n lo hi fs k (r + 1) d = okF P n lo hi fs k r (d + 1) := if_pos o
      rw [eo]
      exact ⟨σ', by rw [step, if_pos o, y1], mT.tr y2, y3, y4, y5⟩
    · have eo : okF P n lo hi fs k (r + 1) d = false := if_neg o
      rw [eo]
      refine ⟨τ2, by rw [step, if_neg o]; rfl, mT, z2, c2, fun w => by cases w⟩
/-- the size of what the last stage keeps -/
def wZ (P : SH) (n : Nat) (lo hi fs : Int64) (k : Nat) : Int64 := mabs (wN P n lo hi fs k n (6 * (P.2.2.2.1 - 1)))
theorem r_row {k66 : Nat → Int32 → Int64 → Int64 → Int64 → Int32 → Int32 → M Int64} {mo : Int64} {be : Int32} (hP : AllP P) (h0 : P.2.2.2.2.2.2 = 0) (hS : 1 ≤ P.2.2.2.1) (hk : k < 4096) (hn : n ≤ 12) : ∀ (r d f : Nat) (τ : SS), d + r = n → r < f → RShp τ P → τ.2.1 95 = wN P n lo hi fs k d → τ.2.1 (fa 81 22) 0 = fs →
    ∃ τ', Mod rwL τ τ' ∧ Z30 (τ'.2.1 95) ∧ RShp τ' P ∧ (okF P n lo hi fs k r d = true → l_Md_worst_81 k66 f 81 (nI n) lo hi mo be (nI k) (nI d) (lay τ) = m_Md_worst_159 k66 81 (nI n) lo hi mo be (nI k) (wZ P n lo hi fs k) (lay τ')) ∧ (¬ okF P n lo hi fs k r d = true → l_Md_worst_81 k66 f 81 (nI n) lo hi mo be (nI k) (nI d) (lay τ) = bd (m_Md_refuses 81 (-6 : Int32)) (fun v7 => rt v7) (lay τ'))
  | r, d, 0, τ, h, hf, hs, h1, h2 => by omega
  | 0, d, f + 1, τ, h, hf, hs, h1, h2 => by
    have hF : FitP P := hP.1.1
    have hS5 := hF.1
    have hd : d = n := by omega
    subst hd
    refine ⟨τ, Mod.rf, by rw [h1]; exact wN_z hF d, hs, fun _ => ?_, fun w => absurd rfl w⟩
    show b_Md_worst_81 k66 (l_Md_worst_81 k66 f) 81 (nI d) lo hi mo be (nI k) (nI d) (lay τ) = _
    unfold b_Md_worst_81
    rw [ap_ite, if_pos ((le_nn (by omega) (by omega)).mpr (Nat.le_refl _)), gr_81_21, bd_gI (ci := 9) (o := 81) (k := 6) rfl rfl (by decide), hs.2.2.2.1, mn_6, ns_6 _ (by omega), la_95 (by omega), h1, ap_ite]
    unfold wZ
    rw [mabs_eq, show 6 * P.2.2.2.1 - 6 = 6 * (P.2.2.2.1 - 1) by omega]
    split <;> rfl
  | r + 1, d, f + 1, τ, h, hf, hs, h1, h2 => by
    have hF : FitP P := hP.1.1
    have hq : ¬ nI n ≤ nI d := fun w => absurd ((le_nn (by omega) (by omega)).mp w) (by omega)
    obtain ⟨τ2, e2, m2, n2, mk, sd2, td2⟩ := s_tries (u := wU n lo hi k d) hs hP.1
    rw [h1, h2] at e2 n2
    rw [h2, lot0 h0] at sd2
    rw [show (pOut nR P (wU n lo hi k d) (wN P n lo hi fs k d) fs).1 = wO P n lo hi fs k d from rfl] at e2
    rw [← wN_s] at n2
    have s2 : RShp τ2 P := hs.mod2 m2 (by decide)
    have step : l_Md_worst_81 k66 (f + 1) 81 (nI n) lo hi mo be (nI k) (nI d) (lay τ) = if wO P n lo hi fs k d = true then l_Md_worst_81 k66 f 81 (nI n) lo hi mo be (nI k) (nI (d + 1)) (lay τ2) else bd (m_Md_refuses 81 (-6 : Int32)) (fun v7 => rt v7) (lay τ2) := by
      show b_Md_worst_81 k66 (l_Md_worst_81 k66 f) 81 (nI n) lo hi mo be (nI k) (nI d) (lay τ) = _
      unfold b_Md_worst_81
      rw [ap_ite, if_neg hq, ap_ite]
      have wb := wa_bit hk (show d < n by omega) hn
      by_cases q : wbit k n d = true
      · have eu : wU n lo hi k d = hi := by unfold wU; rw [if_pos q]
        rw [eu] at e2
        rw [if_neg (fun w => wb.mp w q), bd_eq e2, ap_ite, na_1]
        by_cases o : wO P n lo hi fs k d = true
        · rw [if_neg (by rw [bi_0]; exact fun w => w o), if_pos o]
        · rw [if_pos (by rw [bi_0]; exact o), if_neg o]
      · have eu : wU n lo hi k d = lo := by unfold wU; rw [if_neg q]
        rw [eu] at e2
        rw [if_pos (wb.mpr q), bd_eq e2, ap_ite, na_1]
        by_cases o : wO P n lo hi fs k d = true
        · rw [if_neg (by rw [bi_0]; exact fun w => w o), if_pos o]
        · rw [if_pos (by rw [bi_0]; exact o), if_neg o]
    by_cases o : wO P n lo hi fs k d = true
    · obtain ⟨τ', y1, y2, y3, y4, y5⟩ := r_row (k66 := k66) (mo := mo) (be := be) hP h0 hS hk hn r (d + 1) f τ2 (by omega) (by omega) s2 n2 sd2
      have eo : okF P n lo hi fs k (r + 1) d = okF P n lo hi fs k r (d + 1) := if_pos o
      rw [eo]
      exact ⟨τ', m2.tr y1, y2, y3, fun w => by rw [step, if_pos o]; exact y4 w, fun w => by rw [step, if_pos o]; exact y5 w⟩
    · have eo : okF P n lo hi fs k (r + 1) d = false := if_neg o
      rw [eo]
      exact ⟨τ2, m2, by rw [n2]; exact wN_z hF (d + 1), s2, fun w => (by cases w), fun _ => by rw [step, if_neg o]⟩
end Row
