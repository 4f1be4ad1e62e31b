/-! hold: a step of the class. -/
abbrev hdl (σ : SS) : Int32 × Int32 × Int64 := (σ.1 (fa 27 3) 0, σ.1 (fa 27 4) 0, σ.2.1 (fa 27 5) 0)
theorem wd_le {P : SH} (hF : FitP P) : wd P ≤ 11 := by
  have := hF.1
  unfold wd
  split <;> omega
def lik (P : SH) (u : Int64) (N : Nat → Int64) (sd : Int64) (e t : Nat) : Prop := ∀ i, i < wd P → std P (hq P u N sd e).1 (hq P u N sd e).2.1 i = std P (hq P u N sd t).1 (hq P u N sd t).2.1 i
theorem CH.none {σ : SS} {P : SH} {b t : Nat} {u sd : Int64} {N : Nat → Int64} (h : CH σ P b u N sd t) : ∀ e, e < t → ¬ lik P u N sd e t := by
  obtain ⟨c1, c2, c3, c4, c5, c6, c7, c8, c9, c10⟩ := h
  intro e he q
  refine c6.2 e he (fun i hi => ?_)
  rw [c9 e he i hi, c8 i hi]
  exact q i hi
theorem c_hold {σ : SS} {P : SH} {b t m n : Nat} {u sd : Int64} {N : Nat → Int64} (hT : IsTw b) (hP : AllP P) (hu : smp u) (hs : CShp σ P) (h : CH σ P b u N sd t) (ht : t < m) (hm : m ≤ 400) :
    ∃ σ1, Mod (hcL b) σ σ1 ∧ Z30 (σ1.2.1 (b + 1)) ∧ CShp σ1 P ∧
      ((¬ (pOut nR P u (hq P u N sd t).1 (hq P u N sd t).2.1).1 = true ∧ l_Hd_goRound_22 (n + 1) 27 b u (nI m) (hq P u N sd t).2.2.1 (nI t) (lay σ) = some (-6, lay σ1) ∧ hdl σ1 = hdl σ)
      ∨ ((pOut nR P u (hq P u N sd t).1 (hq P u N sd t).2.1).1 = true ∧ l_Hd_goRound_22 (n + 1) 27 b u (nI m) (hq P u N sd t).2.2.1 (nI t) (lay σ) = l_Hd_goRound_22 n 27 b u (nI m) (hq P u N sd (t + 1)).2.2.1 (nI (t + 1)) (lay σ1) ∧ CH σ1 P b u N sd (t + 1) ∧ hdl σ1 = hdl σ)
      ∨ ((pOut nR P u (hq P u N sd t).1 (hq P u N sd t).2.1).1 = true ∧ ∃ e, e < t + 1 ∧ l_Hd_goRound_22 (n + 1) 27 b u (nI m) (hq P u N sd t).2.2.1 (nI t) (lay σ) = some (nI e, lay σ1) ∧ lik P u N sd e (t + 1) ∧ (∀ e', e' < t + 1 → lik P u N sd e' (t + 1) → e' = e) ∧ hdl σ1 = (nI e, nI (t + 1 - e), (hq P u N sd (t + 1)).2.2.1 - (hq P u N sd e).2.2.1))) := by
  obtain ⟨c1, c2, c3, c4, c5, c6, c7, c8, c9, c10⟩ := h
  have h6 := hT.1
  have hlt := hT.2.2.2.2.2.2
  have hF : FitP P := hP.1.1
  have hw := wd_le hF
  have hcw : (t + 1) * wd P ≤ 4400 := Nat.le_trans (Nat.mul_le_mul (show t + 1 ≤ 400 by omega) hw) (by decide)
  obtain ⟨σa, ea, ma, oka, olda, newa⟩ := s_add c5 c6 hw c7 (by omega) hcw
  have mb : Mod [24, 25, fa 23 5, 28] σ (sL σa 28 (va_up (σa.2.1 28) t (hq P u N sd t).2.2.1)) := (ma.mono (by simp)).tr (Mod.L (by simp))
  have okb : SeenOk (sL σa 28 (va_up (σa.2.1 28) t (hq P u N sd t).2.2.1)) (wd P) (t + 1) := oka.mod (Mod.L (L := [28]) (by simp)) (by decide)
  have b24 : (sL σa 28 (va_up (σa.2.1 28) t (hq P u N sd t).2.2.1)).2.1 24 = σa.2.1 24 := sL_ne (by decide)
  have b28 : (sL σa 28 (va_up (σa.2.1 28) t (hq P u N sd t).2.2.1)).2.1 28 = va_up (σ.2.1 28) t (hq P u N sd t).2.2.1 := by rw [sL_same, ma.l (by decide)]
  generalize hσb : sL σa 28 (va_up (σa.2.1 28) t (hq P u N sd t).2.2.1) = σb at mb okb b24 b28
  have sb : CShp σb P := hs.mod2 mb (by decide)
  have n1 : σb.2.1 (b + 1) = (hq P u N sd t).1 := by rw [mb.l (by unfold fa; simp; omega)]; exact c1
  have s1 : σb.2.1 (fa b 4) 0 = (hq P u N sd t).2.1 := by rw [mb.l (by unfold fa; simp; omega)]; exact c2
  obtain ⟨τ2, e2, m2, n2, mk, sd2, td2⟩ := s_makeStep (u := u) hT sb hF
  rw [n1, s1, out_eq hP c3 hu] at e2 n2
  rw [n1, s1, told_eq hP c3 hu] at td2
  rw [s1] at sd2
  have s2 : CShp τ2 P := sb.mod hT m2
  have ok2 : SeenOk τ2 (wd P) (t + 1) := okb.mod m2 (by intro o ho; unfold twL fa; revert ho; unfold fa; simp; omega)
  have k2 : ∀ o, o < 35 ∨ (200 ≤ o ∧ o < 1950) → τ2.1 o = σb.1 o ∧ τ2.2.1 o = σb.2.1 o := fun o ho => m2.1 o (by unfold twL fa; simp; omega)
  have m02 : Mod (hcL b) σ τ2 := (mb.mono (by unfold hcL; simp)).tr (m2.mono (by unfold hcL; intro o ho; exact List.mem_append_left _ ho))
  have hz2 : Z30 (τ2.2.1 (b + 1)) := by rw [n2]; exact Z30.out hF c4
  have start : l_Hd_goRound_22 (n + 1) 27 b u (nI m) (hq P u N sd t).2.2.1 (nI t) (lay σ) = bd (m_Tw_makeStep b u) (fun v3 => if v3 = 0 then (rt (-6 : Int32)) else (bd (gR 0 27 0) (fun v4 => bd (gR 5 v4 3) (fun v5 => bd (gI 6 b 5) (fun v6 => bd (ldL v5 v6) (fun v7 => lt_ ((hq P u N sd t).2.2.1 + v7) (fun v8 => bd (gR 0 27 1) (fun v9 => bd (m_Sn_find v9 b) (fun v10 => if v10 < 0 then (l_Hd_goRound_22 n 27 b u (nI m) v8 (nI t + 1)) else (bd (pI 0 27 3 v10) (fun _ => bd (pI 0 27 4 ((nI t + (1 : Int32)) - v10)) (fun _ => bd (gR 0 27 2) (fun v11 => bd (ldL v11 v10) (fun v12 => bd (pL 0 27 5 (v8 - v12)) (fun _ => bd (gI 0 27 3) (fun v13 => rt v13)))))))))))))))) (lay σb) := by
    have h400 : ¬ ((400 : Int32) ≤ nI t) := fun w => absurd ((le_nn (a := 400) (b := t) (by omega) (by omega)).mp w) (by omega)
    show b_Hd_goRound_22 (l_Hd_goRound_22 n) 27 b u (nI m) (hq P u N sd t).2.2.1 (nI t) (lay σ) = _
    unfold b_Hd_goRound_22
    rw [ap_ite, if_neg (fun w => absurd ((le_nn (by omega) (by omega)).mp w) (by omega)), ap_ite, if_neg h400, gr_27_1, bd_eq ea, gr_27_2, st_28 (by omega), hσb]
  rw [bd_eq e2] at start
  by_cases ho : (pOut nR P u (hq P u N sd t).1 (hq P u N sd t).2.1).1 = true
  · have htl := told_lt (u := u) (sd := (hq P u N sd t).2.1) (N := (hq P u N sd t).1) hF
    have h16 := hF.2.2.1
    obtain ⟨v, σ3, e3, m3, w3, k3, f3⟩ := s_find (σ := τ2) hT s2 hF ok2
    have m03 : Mod (hcL b) σ σ3 := m02.tr (m3.mono (by unfold hcL; simp))
    have s3 : CShp σ3 P := s2.mod2 m3 (by decide)
    have hz3 : Z30 (σ3.2.1 (b + 1)) := by rw [m3.l (by unfold fa; simp; omega)]; exact hz2
    have q1 : (hq P u N sd (t + 1)).1 = (pOut nR P u (hq P u N sd t).1 (hq P u N sd t).2.1).2.1 := by rw [hq_s]
    have q2 : (hq P u N sd (t + 1)).2.1 = (pLot P.2.2.2.2.2.2 (hq P u N sd t).2.1).2 := by rw [hq_s]
    have q3 : (hq P u N sd (t + 1)).2.2.1 = (hq P u N sd t).2.2.1 + P.2.2.2.2.1 (pTold nR P u (hq P u N sd t).1 (hq P u N sd t).2.1) := by rw [hq_s]
    have row24 : ∀ e, e < t + 1 → ∀ i, i < wd P → τ2.2.1 24 (e * wd P + i) = std P (hq P u N sd e).1 (hq P u N sd e).2.1 i := fun e he i hi => by
      rw [(k2 24 (by omega)).2, b24]
      by_cases z : e = t
      · rw [z, newa i hi, c8 i hi]
      · rw [olda e (by omega) i hi, c9 e (by omega) i hi]
    have row28 : ∀ e, e < t + 1 → τ2.2.1 28 e = (hq P u N sd e).2.2.1 := fun e he => by
      rw [(k2 28 (by omega)).2, b28]
      by_cases z : e = t
      · rw [z, up_same]
      · rw [up_ne z]; exact c10 e (by omega)
    rw [n2, sd2, ← q1, ← q2] at k3 f3
    have hd3 : hdl σ3 = hdl σ := by
      have a : ∀ o ∈ [fa 27 3, fa 27 4, fa 27 5], σ3.1 o = σ.1 o ∧ σ3.2.1 o = σ.2.1 o := fun o ho => by
        have l1 : 200 ≤ o ∧ o < 1950 ∧ 1500 < o := by revert ho; unfold fa; simp; omega
        have y1 := m3.1 o (by unfold fa; simp; omega)
        have y2 := k2 o (by omega)
        have y3 := mb.1 o (by unfold fa; simp; omega)
        exact ⟨y1.1.trans (y2.1.trans y3.1), y1.2.trans (y2.2.trans y3.2)⟩
      unfold hdl
      rw [(a (fa 27 3) (by simp)).1, (a (fa 27 4) (by simp)).1, (a (fa 27 5) (by simp)).2]
    rw [ap_ite, if_neg (by rw [bi_0]; exact fun q => q ho), gr_27_0, gr_15_3, bd_gI h6 rfl (by decide), td2, la_19 (by omega), ap_lt, gr_27_1, s2.2.2.2.2.1, ← q3, bd_eq e3, ap_ite] at start
    rcases f3 with ⟨rfl, fr⟩ | ⟨e, he, rfl, hm3⟩
    · refine ⟨σ3, m03, hz3, s3, Or.inr (Or.inl ⟨ho, ?_, ⟨?_, ?_, ?_, ?_, ?_, fr, w3, k3, ?_, ?_⟩, hd3⟩)⟩
      · rw [start, if_pos (by decide), na_1]
      · rw [m3.l (by unfold fa; simp; omega), n2, q1]
      · rw [m3.l (by unfold fa; simp; omega), sd2, q2]
      · rw [q1]; exact NG.out ho
      · rw [q1]; exact Z30.out hF c4
      · exact ok2.mod m3 (by decide)
      · rw [m3.l (by decide)]; exact row24
      · rw [m3.l (by decide)]; exact row28
    · have hpos : ¬ (nI e < 0) := nI_pos (by omega)
      have hmm : Mod [fa 27 3, fa 27 4, fa 27 5] σ3 (sL (sI (sI σ3 (fa 27 3) (fun _ => nI e)) (fa 27 4) (fun _ => nI (t + 1 - e))) (fa 27 5) (fun _ => (hq P u N sd (t + 1)).2.2.1 - (hq P u N sd e).2.2.1)) := ((Mod.I (by simp)).tr (Mod.I (by simp))).tr (Mod.L (by simp))
      have l28 : σ3.2.1 28 e = (hq P u N sd e).2.2.1 := by rw [m3.l (by decide)]; exact row28 e he
      refine ⟨_, m03.tr (hmm.mono (by unfold hcL; simp)), ?_, s3.mod2 hmm (by decide), Or.inr (Or.inr ⟨ho, e, he, ?_, ?_, ?_, ?_⟩)⟩
      · rw [hmm.l (by unfold fa; simp; omega)]; exact hz3
      · rw [start, if_neg hpos, na_1, pk_sub (by omega)]
        simp (disch := first | assumption | rfl | decide | omega) only [↓ckd_lay, ↓bd_gI, ↓bd_gL, ↓bd_pI, ↓bd_pL, ↓bd_pZ, ↓bd_now, ↓bd_next, ↓bd_ldR3, ↓bd_ldR4, ↓ap_ite, ↓ap_rt, ↓ap_lt, ↓rz_0, ↓rz_1, rz_bi, ↓gr_1_0, ↓gr_1_1, ↓gr_1_2, ↓gr_1_3, ↓gr_1_4, ↓gr_1_5, ↓gr_1_6, ↓gr_15_0, ↓gr_15_1, ↓gr_15_2, ↓gr_15_3, ↓gr_20_0, ↓gr_20_1, ↓gr_23_0, ↓gr_23_1, ↓gr_23_2, ↓gr_27_0, ↓gr_27_1, ↓gr_27_2, ↓gr_29_0, ↓gr_29_1, ↓gr_29_2, ↓gr_29_3, ↓gr_29_4, ↓gr_33_0, ↓gr_33_1, ↓gr_now, ↓gr_next, sI_2, ↓la_28, ↓st_28, l28, sL_1, sI_ne, sI_row]
      · intro i hi
        rw [← row24 e he i hi]
        exact hm3 i hi
      · intro e' he' hl
        obtain ⟨-, -, -, tb, -, -, -, t4⟩ := ok2
        refine t4 e' e he' he (fun i hi => ?_)
        rw [row24 e' he' i hi, hl i hi, hm3 i hi]
      · unfold hdl
        rw [sL_1, sI_ne (by decide), sI_row, sI_row, sL_row]
  · refine ⟨τ2, m02, hz2, s2, Or.inl ⟨ho, ?_, ?_⟩⟩
    · rw [start, ap_ite, if_pos (by rw [bi_0]; exact ho), ap_rt]
    · have a : ∀ o ∈ [fa 27 3, fa 27 4, fa 27 5], τ2.1 o = σ.1 o ∧ τ2.2.1 o = σ.2.1 o := fun o ho => by
        have l1 : 200 ≤ o ∧ o < 1950 ∧ 1500 < o := by revert ho; unfold fa; simp; omega
        have y2 := k2 o (by omega)
        have y3 := mb.1 o (by unfold fa; simp; omega)
        exact ⟨y2.1.trans y3.1, y2.2.trans y3.2⟩
      unfold hdl
      rw [(a (fa 27 3) (by simp)).1, (a (fa 27 4) (by simp)).1, (a (fa 27 5) (by simp)).2]
