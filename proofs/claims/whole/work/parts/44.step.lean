/-! step, clear, undo, check. -/
def Rst (σ : SS) : Prop := RReel σ ∧ RFind σ ∧ RW σ ∧ RHold σ ∧ RReach σ ∧ RWorst σ
def fRst (o : Nat) : Bool := fReel o || fFind o || fW o || fHold o || fReach o || fWorst o
theorem Rst.mdp {σ τ : SS} {L : List Nat} (h : Rst σ) (hM : Mdp L σ τ) (hL : ∀ o ∈ L, fRst o = false) : Rst τ := by
  have hh : ∀ o ∈ L, fReel o = false ∧ fFind o = false ∧ fW o = false ∧ fHold o = false ∧ fReach o = false ∧ fWorst o = false := fun o ho => by
    have := hL o ho
    unfold fRst at this
    simpa [Bool.or_eq_false_iff, and_assoc] using this
  obtain ⟨h3, h4, h5, h6, h7, h8⟩ := h
  exact ⟨RReel.mod (σ := (σ.1, σ.2.1, τ.2.2)) h3 hM.m (fun o ho => (hh o ho).1), RFind.mod (σ := (σ.1, σ.2.1, τ.2.2)) h4 hM.m (fun o ho => (hh o ho).2.1), RW.mod (σ := (σ.1, σ.2.1, τ.2.2)) h5 hM.m (fun o ho => (hh o ho).2.2.1), RHold.mod (σ := (σ.1, σ.2.1, τ.2.2)) h6 hM.m (fun o ho => (hh o ho).2.2.2.1), RReach.mod (σ := (σ.1, σ.2.1, τ.2.2)) h7 hM.m (fun o ho => (hh o ho).2.2.2.2.1), RWorst.mod (σ := (σ.1, σ.2.1, τ.2.2)) h8 hM.m (fun o ho => (hh o ho).2.2.2.2.2)⟩
theorem TZ.mdp {σ τ : SS} {L : List Nat} (h : TZ σ) (hM : Mdp L σ τ) (hL : ∀ o ∈ L, (36 ≤ o && o ≤ 72 && o % 3 == 0) = false) : TZ τ := fun d hd => by
  have := (key_of hM.m hL (36 + 3 * d) (by simp; omega)).2
  rw [this]; exact h d hd
theorem Rel.cut2 {σ : SS} (h : Rel σ) : (∃ P fs a b S, CI σ P fs a b S ∧ RI σ P fs S ∧ PI P fs S ∧ TZ σ) ∧ Rst σ := ⟨h.cut, h.2⟩
theorem Rel.mk2 {σ : SS} {P : SH} {fs : Int64} {a b : Nat} {S : SG} (c : CI σ P fs a b S) (r : RI σ P fs S) (p : PI P fs S) (z : TZ σ) (h : Rst σ) : Rel σ := ⟨Rel.core c r p z, h⟩
theorem CI.tw {σ : SS} {P : SH} {fs : Int64} {a b : Nat} {S : SG} (h : CI σ P fs a b S) : IsTw a ∧ IsTw b := by
  rcases h.1.2 with ⟨rfl, rfl⟩ | ⟨rfl, rfl⟩
  · exact ⟨tw_now, tw_next⟩
  · exact ⟨tw_next, tw_now⟩
theorem d_step {σ : SS} {u : Int64} (h : Rel σ) : Duo (m_Ob_step 1 u) (m_Md_step 81 u) σ := by
  by_cases hu : smpB u = true
  · obtain ⟨⟨P, fs, a, b, S, c, r, p, z⟩, rs⟩ := h.cut2
    have hs := (smpB_iff u).mp hu
    obtain ⟨τ, a', b', e1, m1, c1⟩ := s_makeOne c p hs
    have r1 : RI τ P fs S := r.mod m1 (by decide)
    obtain ⟨υ, e2, m2, r2⟩ := s_does (u := u) r1 p
    refine ⟨(pDo P u S).1, τ, υ, ?_, ?_, Rel.mk2 (c1.mod m2 (by decide)) r2 (p.do hs) ((z.mdp m1 (by decide)).mdp m2.p (by decide)) ((rs.mdp m1 (by decide)).mdp m2.p (by decide))⟩
    · unfold m_Ob_step
      rw [ckd_lay (ci := 8) (o := 1) rfl (by decide), q_isSample, ap_ite, if_neg (by rw [bi_0]; exact fun q => q hu), bd_eq e1, ap_rt]
    · unfold m_Md_step
      rw [ckd_lay (ci := 9) (o := 81) rfl (by decide), q_isSampleM, ap_ite, if_neg (by rw [bi_0]; exact fun q => q hu), bd_eq e2, ap_rt]
  · refine Duo.same h (-2) ?_ ?_
    · unfold m_Ob_step
      rw [ckd_lay (ci := 8) (o := 1) rfl (by decide), q_isSample, ap_ite, if_pos (by rw [bi_0]; exact hu), ap_rt]
    · unfold m_Md_step
      rw [ckd_lay (ci := 9) (o := 81) rfl (by decide), q_isSampleM, ap_ite, if_pos (by rw [bi_0]; exact hu), ap_rt]
/-- the shape without its stages -/
def bare (P : SH) : SH := (P.1, P.2.1, P.2.2.1, 0, P.2.2.2.2)
theorem AllP.bare {P : SH} (h : AllP P) : AllP (bare P) := ⟨⟨⟨by show 0 ≤ 5; omega, h.1.1.2⟩, fun s (hs : s < 0) => absurd hs (by omega)⟩, h.2⟩
theorem d_clear {σ : SS} (h : Rel σ) : Duo (m_Ob_clear 1) (m_Md_clear 81) σ := by
  obtain ⟨⟨P, fs, a, b, S, c, r, p, z⟩, rs⟩ := h.cut2
  obtain ⟨h1, h2, h5, h7, h9, h11, h15, hm, hr, l2⟩ := id c
  obtain ⟨g2, g5, g7, g9, g11, g15, gm, gr, gl⟩ := id r
  have hTW := c.tw
  have hT := hTW.1
  have h6 := hT.1
  have hlt := hT.2.2.2.2.2.2
  have hlb := hTW.2.2.2.2.2.2.2
  have hnow : σ.2.2.1 = a := by rw [h1.1]
  have hz := RunOk.z30 p.1.1.1 p.2.2.2.1
  have hN : Z30 (fun _ => (0 : Int64)) := fun _ _ => rfl
  obtain ⟨τ, e1, m1, n1, s1⟩ := s_beginAgain (σ := sI (sI σ (fa 20 2) (fun _ => 0)) (fa 15 4) (fun _ => 0)) hT (by show Z30 (σ.2.1 (a + 1)); rw [h9]; exact hz)
  have mm : Mod [a + 1, fa a 4, fa 20 2, fa 15 4] σ τ := ((Mod.I (by simp)).tr (Mod.I (by simp))).tr (m1.mono (by simp))
  have hoff : ∀ o ∈ [a + 1, fa a 4], o ∉ [a + 2, b + 1, fa a 3, fa 20 2, fa 15 4, fa 15 7, 16, 17, 18, 19, fa 15 5, fa 15 6, 21, 22] := by
    rcases h1.2 with ⟨rfl, rfl⟩ | ⟨rfl, rfl⟩ <;> decide
  have k1 : ∀ o ∈ [a + 2, b + 1, fa a 3, fa 20 2, fa 15 4, fa 15 7, 16, 17, 18, 19, fa 15 5, fa 15 6, 21, 22], τ.1 o = (sI (sI σ (fa 20 2) (fun _ => 0)) (fa 15 4) (fun _ => 0)).1 o ∧ τ.2.1 o = σ.2.1 o := fun o ho => m1.1 o (fun q => hoff o q ho)
  have na3 : fa a 3 ≠ fa 20 2 ∧ fa a 3 ≠ fa 15 4 := by unfold fa; omega
  have c1 : CI τ (bare P) fs a b (0, (fun _ => 0), fs, S.2.2.2.1, S.2.2.2.2) := by
    refine ⟨⟨mm.2.trans h1.1, h1.2⟩, ⟨?_, ?_, ?_, ?_, ?_, ?_, ?_⟩, ?_, ?_, n1, ?_, ?_, fun t ht => absurd ht (Nat.not_lt_zero t), fun t ht => absurd ht (Nat.not_lt_zero t), ?_⟩
    · rw [(k1 16 (by simp)).1]; exact h2.1
    · rw [(k1 17 (by simp)).2]; exact h2.2.1
    · rw [(k1 18 (by simp)).1]; exact h2.2.2.1
    · rw [(k1 (fa 15 4) (by simp)).1]; exact sI_row
    · rw [(k1 19 (by simp)).2]; exact h2.2.2.2.2.1
    · rw [(k1 (fa 15 5) (by simp)).1]; exact h2.2.2.2.2.2.1
    · rw [(k1 (fa 15 6) (by simp)).1]; exact h2.2.2.2.2.2.2
    · rw [(k1 (fa 15 7) (by simp)).2]; exact h5
    · rw [s1]; exact h5
    · rw [(k1 (b + 1) (by simp)).2]; exact h11
    · rw [(k1 (fa 20 2) (by simp)).1, sI_ne (by decide)]; exact sI_row
    · rw [(k1 (a + 2) (by simp)).1, (k1 (fa a 3) (by simp)).1, sI_ne (by unfold fa; omega), sI_ne (by unfold fa; omega), sI_ne na3.2, sI_ne na3.1]; exact l2
  have mp : Mdp [76, fa 75 4, 79, fa 78 4, fa 20 2, fa 15 4] σ τ := by
    rcases h1.2 with ⟨rfl, rfl⟩ | ⟨rfl, rfl⟩
    · exact (mm.mono (by decide)).p
    · exact (mm.mono (by decide)).p
  have r1 : RI τ P fs S := r.mod mp (by decide)
  obtain ⟨f2, f5, f7, f9, f11, f15, fm, fr, fl⟩ := r1
  obtain ⟨υ1, e2, m2, n2, s2⟩ := s_rest (σ := sI (sI τ (fa 81 16) (fun _ => 0)) (fa 81 6) (fun _ => 0)) f11
  obtain ⟨υ2, e3, m3, n3, s3⟩ := s_lay (σ := υ1) (by rw [m2.l (by decide)]; show Z30 (τ.2.1 91); rw [f9]; exact hz) (by rw [n2]; exact hN)
  have mr : Mod [fa 81 16, fa 81 6, 95, fa 81 22, 91, fa 81 15] τ υ2 := ((Mod.I (by simp)).tr (Mod.I (by simp))).tr ((m2.mono (by simp)).tr (m3.mono (by simp)))
  have r2 : RI υ2 (bare P) fs (0, (fun _ => 0), fs, S.2.2.2.1, S.2.2.2.2) := by
    refine ⟨⟨?_, ?_, ?_, ?_, ?_, ?_, ?_⟩, ?_, ?_, ?_, ?_, ?_, fun t ht => absurd ht (Nat.not_lt_zero t), fun t ht => absurd ht (Nat.not_lt_zero t), ?_⟩
    · rw [mr.i (by decide)]; exact f2.1
    · rw [mr.l (by decide)]; exact f2.2.1
    · rw [mr.i (by decide)]; exact f2.2.2.1
    · rw [m3.i (by decide), m2.i (by decide)]; exact sI_row
    · rw [mr.l (by decide)]; exact f2.2.2.2.2.1
    · rw [mr.i (by decide)]; exact f2.2.2.2.2.2.1
    · rw [mr.i (by decide)]; exact f2.2.2.2.2.2.2
    · rw [mr.l (by decide)]; exact f5
    · rw [s3, s2]; exact f5
    · rw [n3, n2]
    · rw [m3.l (by decide), n2]; exact hN
    · rw [m3.i (by decide), m2.i (by decide), sI_ne (by decide)]; exact sI_row
    · rw [mr.i (by decide), mr.i (by decide)]; exact fl
  have p2 : PI (bare P) fs (0, (fun _ => 0), fs, S.2.2.2.1, S.2.2.2.2) := ⟨p.1.bare, Nat.zero_le _, fun t ht => absurd ht (Nat.not_lt_zero t), ⟨rfl, rfl⟩, fun t ht => absurd ht (Nat.not_lt_zero t), p.2.2.2.2.2⟩
  refine ⟨nI S.1, τ, υ2, ?_, ?_, Rel.mk2 (c1.mod mr (by decide)) r2 p2 ((z.mdp mp (by decide)).mdp mr.p (by decide)) ((rs.mdp mp (by decide)).mdp mr.p (by decide))⟩
  · unfold m_Ob_clear
    simp (disch := first | assumption | rfl | decide | omega) only [↓ckd_lay, ↓bd_gI, ↓bd_gL, ↓bd_pI, ↓bd_pL, ↓bd_pZ, ↓bd_now, ↓bd_next, ↓bd_ldR3, ↓bd_ldR4, ↓ap_ite, ↓ap_rt, ↓ap_lt, ↓rz_0, ↓rz_1, rz_bi, ↓gr_1_0, ↓gr_1_1, ↓gr_1_2, ↓gr_1_3, ↓gr_1_4, ↓gr_1_5, ↓gr_1_6, ↓gr_15_0, ↓gr_15_1, ↓gr_15_2, ↓gr_15_3, ↓gr_20_0, ↓gr_20_1, ↓gr_23_0, ↓gr_23_1, ↓gr_23_2, ↓gr_27_0, ↓gr_27_1, ↓gr_27_2, ↓gr_29_0, ↓gr_29_1, ↓gr_29_2, ↓gr_29_3, ↓gr_29_4, ↓gr_33_0, ↓gr_33_1, ↓gr_now, ↓gr_next, h15, sI_2, hnow]
    rw [bd_eq e1, ap_rt]
  · unfold m_Md_clear
    simp (disch := first | assumption | rfl | decide | omega) only [↓ckd_lay, ↓bd_gI, ↓bd_gL, ↓bd_pI, ↓bd_pL, ↓bd_pZ, ↓bd_now, ↓bd_next, ↓bd_ldR3, ↓bd_ldR4, ↓ap_ite, ↓ap_rt, ↓ap_lt, ↓rz_0, ↓rz_1, rz_bi, ↓gr_81_0, ↓gr_81_1, ↓gr_81_2, ↓gr_81_3, ↓gr_81_4, ↓gr_81_7, ↓gr_81_8, ↓gr_81_9, ↓gr_81_11, ↓gr_81_14, ↓gr_81_17, ↓gr_81_18, ↓gr_81_20, ↓gr_81_21, ↓gr_81_25, ↓gr_81_26, ↓gr_81_27, ↓gr_81_28, ↓gr_81_29, ↓gr_81_31, ↓gr_81_32, ↓gr_81_33, ↓gr_81_34, ↓gr_81_36, ↓gr_81_39, f15]
    rw [bd_eq e2, bd_eq e3, ap_rt]
