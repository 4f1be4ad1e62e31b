/-! reach: the class's try. -/
theorem s_restoreGo {σ0 : SS} {P : SH} {b e w : Nat} (hT : IsTw b) (hs : CShp σ0 P) (hF : FitP P) (h4 : σ0.1 (fa 23 4) 0 = nI w) (hw : 2 * P.2.2.2.1 ≤ w) (he : e * w + w ≤ 4400) : ∀ (r s n : Nat) (σ : SS), s + r = P.2.2.2.1 → r < n → Mod [b + 1] σ0 σ → (∀ i, i < s → σ.2.1 (b + 1) (6 * i) = σ0.2.1 24 (e * w + 2 * i) ∧ σ.2.1 (b + 1) (6 * i + 1) = σ0.2.1 24 (e * w + (2 * i + 1))) → Z30 (σ.2.1 (b + 1)) →
    ∃ τ, l_Sn_restore_2 n 23 (nI e) b (nI s) (lay σ) = some ((), lay τ) ∧ Mod [b + 1] σ0 τ ∧ Z30 (τ.2.1 (b + 1)) ∧ ∀ i, i < P.2.2.2.1 → τ.2.1 (b + 1) (6 * i) = σ0.2.1 24 (e * w + 2 * i) ∧ τ.2.1 (b + 1) (6 * i + 1) = σ0.2.1 24 (e * w + (2 * i + 1))
  | r, s, 0, σ, h, hn, hM, hi, hz => by omega
  | 0, s, n + 1, σ, h, hn, hM, hi, hz => by
    have h6 := hT.1
    have hlt := hT.2.2.2.2.2.2
    have h5 := hF.1
    have hq : P.2.2.2.1 ≤ s := by omega
    have e4 : σ.1 (fa 15 4) 0 = nI P.2.2.2.1 := by rw [hM.i (by unfold fa; simp; omega)]; exact hs.2.2.2.1
    refine ⟨σ, ?_, hM, hz, fun i h => hi i (by omega)⟩
    show b_Sn_restore_2 (l_Sn_restore_2 n) 23 (nI e) b (nI s) (lay σ) = _
    unfold b_Sn_restore_2
    simp (disch := first | assumption | rfl | decide | omega) only [↓ckd_lay, ↓bd_gI, ↓bd_gL, ↓bd_pI, ↓bd_pL, ↓bd_pZ, ↓bd_now, ↓bd_next, ↓bd_ldR3, ↓bd_ldR4, ↓ap_ite, ↓ap_rt, ↓ap_lt, ↓rz_0, ↓rz_1, rz_bi, ↓gr_1_0, ↓gr_1_1, ↓gr_1_2, ↓gr_1_3, ↓gr_1_4, ↓gr_1_5, ↓gr_1_6, ↓gr_15_0, ↓gr_15_1, ↓gr_15_2, ↓gr_15_3, ↓gr_20_0, ↓gr_20_1, ↓gr_23_0, ↓gr_23_1, ↓gr_23_2, ↓gr_27_0, ↓gr_27_1, ↓gr_27_2, ↓gr_29_0, ↓gr_29_1, ↓gr_29_2, ↓gr_29_3, ↓gr_29_4, ↓gr_33_0, ↓gr_33_1, ↓gr_now, ↓gr_next, ↓tg0 hT, ↓tg1 hT, ↓tg2 hT, ↓tld hT, ↓tst hT, ↓tsm hT, ↓bd_ldv, e4, le_nn, hq, if_true]
  | r + 1, s, n + 1, σ, h, hn, hM, hi, hz => by
    have h6 := hT.1
    have hlt := hT.2.2.2.2.2.2
    have h5 := hF.1
    have hq : ¬ P.2.2.2.1 ≤ s := by omega
    have e4 : σ.1 (fa 15 4) 0 = nI P.2.2.2.1 := by rw [hM.i (by unfold fa; simp; omega)]; exact hs.2.2.2.1
    have ew : σ.1 (fa 23 4) 0 = nI w := by rw [hM.i (by unfold fa; simp; omega)]; exact h4
    have e24 : σ.2.1 24 = σ0.2.1 24 := hM.l (by simp; omega)
    have n24 : (24 : Nat) ≠ b + 1 := by omega
    have b1 : e * w + 2 * s < 4400 := by omega
    have b2 : e * w + 2 * s + 1 < 4400 := by omega
    obtain ⟨τ, e1, d⟩ := s_restoreGo hT hs hF h4 hw he r (s + 1) n (sL (sL σ (b + 1) (va_up (σ.2.1 (b + 1)) (s * 6 + 0) (σ0.2.1 24 (e * w + 2 * s)))) (b + 1) (va_up (va_up (σ.2.1 (b + 1)) (s * 6 + 0) (σ0.2.1 24 (e * w + 2 * s))) (s * 6 + 1) (σ0.2.1 24 (e * w + 2 * s + 1)))) (by omega) (by omega) (hM.tr ((Mod.L (by simp)).tr (Mod.L (by simp)))) (fun i h1 => by
      rw [sL_same]
      by_cases z : i = s
      · rw [z, show 6 * s + 1 = s * 6 + 1 by omega, up_same, up_ne (by omega), show 6 * s = s * 6 + 0 by omega, up_same]
        exact ⟨rfl, by rw [Nat.add_assoc]⟩
      · rw [up_ne (by omega), up_ne (by omega), up_ne (by omega), up_ne (by omega)]; exact hi i (by omega)) (fun k hk => by rw [sL_same, up_ne (by omega), up_ne (by omega)]; exact hz k hk)
    refine ⟨τ, ?_, d⟩
    show b_Sn_restore_2 (l_Sn_restore_2 n) 23 (nI e) b (nI s) (lay σ) = _
    unfold b_Sn_restore_2
    simp (disch := first | assumption | rfl | decide | omega) only [↓ckd_lay, ↓bd_gI, ↓bd_gL, ↓bd_pI, ↓bd_pL, ↓bd_pZ, ↓bd_now, ↓bd_next, ↓bd_ldR3, ↓bd_ldR4, ↓ap_ite, ↓ap_rt, ↓ap_lt, ↓rz_0, ↓rz_1, rz_bi, ↓gr_1_0, ↓gr_1_1, ↓gr_1_2, ↓gr_1_3, ↓gr_1_4, ↓gr_1_5, ↓gr_1_6, ↓gr_15_0, ↓gr_15_1, ↓gr_15_2, ↓gr_15_3, ↓gr_20_0, ↓gr_20_1, ↓gr_23_0, ↓gr_23_1, ↓gr_23_2, ↓gr_27_0, ↓gr_27_1, ↓gr_27_2, ↓gr_29_0, ↓gr_29_1, ↓gr_29_2, ↓gr_29_3, ↓gr_29_4, ↓gr_33_0, ↓gr_33_1, ↓gr_now, ↓gr_next, ↓tg0 hT, ↓tg1 hT, ↓tg2 hT, ↓tld hT, ↓tst hT, ↓tsm hT, ↓bd_ldv, e4, le_nn, hq, if_false, ew, na_0, na_1, na_2, na_3, na_4, na_5, na_6, na_7, na_8, na_10, na_11, na_12, na_13, na_15, na_16, na_30, na_60, na_300, an_0, an_1, an_2, an_3, an_4, an_5, an_6, an_7, an_8, an_10, an_11, an_12, an_13, an_15, an_16, an_30, an_60, an_300, nm_0, nm_1, nm_2, nm_3, nm_4, nm_5, nm_6, nm_7, nm_8, nm_10, nm_11, nm_12, nm_13, nm_15, nm_16, nm_30, nm_60, nm_300, mn_0, mn_1, mn_2, mn_3, mn_4, mn_5, mn_6, mn_7, mn_8, mn_10, mn_11, mn_12, mn_13, mn_15, mn_16, mn_30, mn_60, mn_300, nI_add, pk_mul, ↓la_24, ↓st_24, e24, sL_1, sL_same, sL_ne n24]
    exact e1
def beyB (m : Int64) (N : Nat → Int64) : Nat → Nat → Bool
  | 0, _ => false
  | r + 1, s => if m < N (6 * s) then true else if -m ≤ N (6 * s) then beyB m N r (s + 1) else true
theorem beyB_iff {m : Int64} {N : Nat → Int64} : ∀ (r s : Nat), beyB m N r s = true ↔ ¬ ∀ i, s ≤ i → i < s + r → rIn m (N (6 * i))
  | 0, s => ⟨fun h => (by cases h), fun h => absurd (fun i _ _ => by omega) h⟩
  | r + 1, s => by
    unfold beyB
    by_cases q : m < N (6 * s)
    · rw [if_pos q]
      refine ⟨fun _ h => ?_, fun _ => rfl⟩
      have := (h s (by omega) (by omega)).2
      rw [← Int64.not_lt] at this
      exact this q
    · rw [if_neg q]
      by_cases q2 : -m ≤ N (6 * s)
      · rw [if_pos q2, beyB_iff r (s + 1)]
        refine not_congr ⟨fun h i h1 h2 => ?_, fun h i h1 h2 => h i (by omega) (by omega)⟩
        by_cases z : i = s
        · rw [z]; exact ⟨q2, by rw [← Int64.not_lt]; exact q⟩
        · exact h i (by omega) (by omega)
      · rw [if_neg q2]
        exact ⟨fun _ h => q2 (h s (by omega) (by omega)).1, fun _ => rfl⟩
theorem s_beyondGo {σ : SS} {P : SH} {b : Nat} {m : Int64} (hT : IsTw b) (hs : CShp σ P) (hF : FitP P) : ∀ (r s n : Nat), s + r = P.2.2.2.1 → r < n → l_Rc_isBeyond_3 n 29 b m (nI s) (lay σ) = some (bi (beyB m (σ.2.1 (b + 1)) r s = true), lay σ)
  | r, s, 0, h, hn => by omega
  | 0, s, n + 1, h, hn => by
    have h6 := hT.1
    have h5 := hF.1
    have hq : P.2.2.2.1 ≤ s := by omega
    show b_Rc_isBeyond_3 (l_Rc_isBeyond_3 n) 29 b m (nI s) (lay σ) = _
    unfold b_Rc_isBeyond_3
    simp (disch := first | assumption | rfl | decide | omega) only [↓ckd_lay, ↓bd_gI, ↓bd_gL, ↓bd_pI, ↓bd_pL, ↓bd_pZ, ↓bd_now, ↓bd_next, ↓bd_ldR3, ↓bd_ldR4, ↓ap_ite, ↓ap_rt, ↓ap_lt, ↓rz_0, ↓rz_1, rz_bi, ↓gr_1_0, ↓gr_1_1, ↓gr_1_2, ↓gr_1_3, ↓gr_1_4, ↓gr_1_5, ↓gr_1_6, ↓gr_15_0, ↓gr_15_1, ↓gr_15_2, ↓gr_15_3, ↓gr_20_0, ↓gr_20_1, ↓gr_23_0, ↓gr_23_1, ↓gr_23_2, ↓gr_27_0, ↓gr_27_1, ↓gr_27_2, ↓gr_29_0, ↓gr_29_1, ↓gr_29_2, ↓gr_29_3, ↓gr_29_4, ↓gr_33_0, ↓gr_33_1, ↓gr_now, ↓gr_next, hs.2.2.2.1, le_nn, hq, if_true]
    rfl
  | r + 1, s, n + 1, h, hn => by
    have h6 := hT.1
    have h5 := hF.1
    have hq : ¬ P.2.2.2.1 ≤ s := by omega
    have e0 : s * 6 + 0 = 6 * s := by omega
    show b_Rc_isBeyond_3 (l_Rc_isBeyond_3 n) 29 b m (nI s) (lay σ) = _
    unfold b_Rc_isBeyond_3
    simp (disch := first | assumption | rfl | decide | omega) only [↓ckd_lay, ↓bd_gI, ↓bd_gL, ↓bd_pI, ↓bd_pL, ↓bd_pZ, ↓bd_now, ↓bd_next, ↓bd_ldR3, ↓bd_ldR4, ↓ap_ite, ↓ap_rt, ↓ap_lt, ↓rz_0, ↓rz_1, rz_bi, ↓gr_1_0, ↓gr_1_1, ↓gr_1_2, ↓gr_1_3, ↓gr_1_4, ↓gr_1_5, ↓gr_1_6, ↓gr_15_0, ↓gr_15_1, ↓gr_15_2, ↓gr_15_3, ↓gr_20_0, ↓gr_20_1, ↓gr_23_0, ↓gr_23_1, ↓gr_23_2, ↓gr_27_0, ↓gr_27_1, ↓gr_27_2, ↓gr_29_0, ↓gr_29_1, ↓gr_29_2, ↓gr_29_3, ↓gr_29_4, ↓gr_33_0, ↓gr_33_1, ↓gr_now, ↓gr_next, ↓tg0 hT, ↓tg1 hT, ↓tg2 hT, ↓tld hT, ↓tst hT, ↓tsm hT, ↓bd_ldv, hs.2.2.2.1, le_nn, hq, if_false, na_0, na_1, na_2, na_3, na_4, na_5, na_6, na_7, na_8, na_10, na_11, na_12, na_13, na_15, na_16, na_30, na_60, na_300, an_0, an_1, an_2, an_3, an_4, an_5, an_6, an_7, an_8, an_10, an_11, an_12, an_13, an_15, an_16, an_30, an_60, an_300, nm_0, nm_1, nm_2, nm_3, nm_4, nm_5, nm_6, nm_7, nm_8, nm_10, nm_11, nm_12, nm_13, nm_15, nm_16, nm_30, nm_60, nm_300, mn_0, mn_1, mn_2, mn_3, mn_4, mn_5, mn_6, mn_7, mn_8, mn_10, mn_11, mn_12, mn_13, mn_15, mn_16, mn_30, mn_60, mn_300, nI_add, pk_mul, e0]
    rw [s_beyondGo hT hs hF r (s + 1) n (by omega) (by omega)]
    by_cases q : m < σ.2.1 (b + 1) (6 * s)
    · rw [if_pos q]
      have : beyB m (σ.2.1 (b + 1)) (r + 1) s = true := if_pos q
      rw [this]
      rfl
    · rw [if_neg q]
      by_cases q2 : -m ≤ σ.2.1 (b + 1) (6 * s)
      · rw [if_pos q2]
        have : beyB m (σ.2.1 (b + 1)) (r + 1) s = beyB m (σ.2.1 (b + 1)) r (s + 1) := (if_neg q).trans (if_pos q2)
        rw [this]
      · rw [if_neg q2]
        have : beyB m (σ.2.1 (b + 1)) (r + 1) s = true := (if_neg q).trans (if_neg q2)
        rw [this]
        rfl
theorem wd_r {P : SH} (hR : ReachP P) : wd P = 2 * P.2.2.2.1 := by unfold wd; rw [if_pos hR.2.2.1]; omega
theorem std_ag {P : SH} {A B : Nat → Int64} {s s' : Int64} (hR : ReachP P) (h : Ag 0 P.2.2.2.1 A B) : ∀ i, i < wd P → std P A s i = std P B s' i := fun i hi => by
  rw [wd_r hR] at hi
  unfold std
  rw [if_pos hi, if_pos hi]
  have := h (i / 2) (by omega) (by omega)
  by_cases q : i % 2 = 0
  · rw [q, Nat.add_zero]; exact this.1
  · rw [show i % 2 = 1 by omega]; exact this.2
theorem std_ev {P : SH} {A : Nat → Int64} {s : Int64} {i : Nat} (hi : i < P.2.2.2.1) : std P A s (2 * i) = A (6 * i) ∧ std P A s (2 * i + 1) = A (6 * i + 1) := by
  unfold std
  rw [if_pos (by omega), if_pos (by omega), show 2 * i / 2 = i by omega, show 2 * i % 2 = 0 by omega, show (2 * i + 1) / 2 = i by omega, show (2 * i + 1) % 2 = 1 by omega]
  exact ⟨rfl, rfl⟩
theorem std_inj {P : SH} {N : Nat → Int64} {x y x' y' s s' : Int64} (hR : ReachP P) (hy : P.2.2.2.1 ≤ 1 → y = y') (h : ∀ i, i < wd P → std P (stN N x y) s i = std P (stN N x' y') s' i) : x = x' ∧ y = y' := by
  rw [wd_r hR] at h
  obtain ⟨r1, r2, r3, r4⟩ := hR
  have h0 := h (2 * 0) (by omega)
  rw [(std_ev (by omega)).1, (std_ev (by omega)).1] at h0
  rw [show 6 * 0 = 0 from rfl, stN_0, stN_0] at h0
  refine ⟨h0, ?_⟩
  by_cases q : P.2.2.2.1 ≤ 1
  · exact hy q
  · have h1 := h (2 * 1) (by omega)
    rw [(std_ev (by omega)).1, (std_ev (by omega)).1, show 6 * 1 = 6 from rfl, stN_6, stN_6] at h1
    exact h1
theorem rO_ag {P : SH} {N : Nat → Int64} {sd u : Int64} {Q : RQ} {a : Nat} (hR : ReachP P) (ok : (rO P N sd Q a u).1 = true) : Ag 0 P.2.2.2.1 (rO P N sd Q a u).2.1 (stN N (rX P N sd Q a u) (rY P N sd Q a u)) := fun s _ hs => by
  have hb := ((out_ag (u := u) (sd := sd) (sd' := sd) (N := stN N (Q.2.1 a) (Q.2.2.1 a)) (M := stN N (Q.2.1 a) (Q.2.2.1 a)) hR (fun s _ _ => ⟨rfl, rfl⟩)).2 ok).2 s hs
  have b2 : (rO P N sd Q a u).2.1 (6 * s + 1) = stN N (rX P N sd Q a u) (rY P N sd Q a u) (6 * s + 1) := by
    rw [stN_o (by omega) (by omega)]
    refine Eq.trans hb ?_
    rw [stN_o (by omega) (by omega)]
  have hr2 := hR.2.1
  have s01 : s = 0 ∨ s = 1 := by omega
  refine ⟨?_, b2⟩
  rcases s01 with rfl | rfl
  · rw [show 6 * 0 = 0 from rfl, stN_0]; rfl
  · rw [show 6 * 1 = 6 from rfl, stN_6]
    unfold rY
    rw [if_neg (by omega)]
theorem Ag.tr {a b : Nat} {A B C : Nat → Int64} (h : Ag a b A B) (g : Ag a b B C) : Ag a b A C := fun s h1 h2 => ⟨(h s h1 h2).1.trans (g s h1 h2).1, (h s h1 h2).2.trans (g s h1 h2).2⟩
theorem rBy_iff {P : SH} {N M : Nat → Int64} {sd u m : Int64} {Q : RQ} {a : Nat} (hR : ReachP P) (hm : 1 ≤ m.toInt) (h : Ag 0 P.2.2.2.1 M (stN N (rX P N sd Q a u) (rY P N sd Q a u))) : beyB m M P.2.2.2.1 0 = true ↔ rBy P N sd m Q a u := by
  obtain ⟨r1, r2, r3, r4⟩ := hR
  rw [beyB_iff]
  unfold rBy
  refine not_congr ⟨fun g => ?_, fun g i _ hi => ?_⟩
  · have g0 := g 0 (by omega) (by omega)
    rw [(h 0 (by omega) (by omega)).1, show 6 * 0 = 0 from rfl, stN_0] at g0
    refine ⟨g0, ?_⟩
    by_cases q : P.2.2.2.1 ≤ 1
    · unfold rY
      rw [if_pos q]
      unfold rIn
      rw [Int64.le_iff_toInt_le, Int64.le_iff_toInt_le, toInt_neg64 (by omega), show (0 : Int64).toInt = 0 from rfl]
      omega
    · have g1 := g 1 (by omega) (by omega)
      rw [(h 1 (by omega) (by omega)).1, show 6 * 1 = 6 from rfl, stN_6] at g1
      exact g1
  · have s01 : i = 0 ∨ i = 1 := by omega
    rw [(h i (by omega) (by omega)).1]
    rcases s01 with rfl | rfl
    · rw [show 6 * 0 = 0 from rfl, stN_0]; exact g.1
    · rw [show 6 * 1 = 6 from rfl, stN_6]; exact g.2
/-- the class's rows while it searches -/
def CR (σ : SS) (P : SH) (b : Nat) (N : Nat → Int64) (sd : Int64) (Q : RQ) : Prop := SeenOk σ (wd P) Q.1 ∧ σ.1 (fa 23 4) 0 = nI (wd P) ∧ (∀ e, e < Q.1 → ∀ i, i < wd P → σ.2.1 24 (e * wd P + i) = std P (stN N (Q.2.1 e) (Q.2.2.1 e)) sd i) ∧ (∀ e, 0 < e → e < Q.1 → σ.1 30 e = nI (Q.2.2.2.1 e) ∧ σ.2.1 31 e = Q.2.2.2.2 e) ∧ Z30 (σ.2.1 (b + 1)) ∧ CShp σ P
abbrev kcL (b : Nat) : List Nat := twL b ++ [24, 25, 26, fa 23 3, fa 23 4, fa 23 5, 30, 31, 32, fa 29 5]
theorem c_try {σ : SS} {P : SH} {b a : Nat} {u sd m : Int64} {N : Nat → Int64} {Q : RQ} (hT : IsTw b) (hP : AllP P) (hR : ReachP P) (hu : smp u) (hm : 1 ≤ m.toInt) (hQ : QI P N Q) (ha : a < Q.1) (h : CR σ P b N sd Q) :
    (¬ (rO P N sd Q a u).1 = true → ∃ σ1, Mod (kcL b) σ σ1 ∧ Z30 (σ1.2.1 (b + 1)) ∧ m_Rc_tryFrom 29 (nI a) b u m (lay σ) = some (-6, lay σ1) ∧ σ1.1 (fa 29 5) 0 = σ.1 (fa 29 5) 0)
    ∧ ((rO P N sd Q a u).1 = true → rBy P N sd m Q a u → ∀ d, Came Q.1 Q.2.2.2.1 a d → ∃ σ1, Mod (kcL b) σ σ1 ∧ Z30 (σ1.2.1 (b + 1)) ∧ m_Rc_tryFrom 29 (nI a) b u m (lay σ) = some (-100 - nI (d + 1), lay σ1) ∧ σ1.1 (fa 29 5) 0 = nI (d + 1) ∧ ∀ i, i ≤ d → σ1.2.1 32 i = tlR Q.2.2.2.1 Q.2.2.2.2 a d u i)
    ∧ ((rO P N sd Q a u).1 = true → ¬ rBy P N sd m Q a u → rOld Q (rX P N sd Q a u) (rY P N sd Q a u) → ∃ σ1, Mod (kcL b) σ σ1 ∧ m_Rc_tryFrom 29 (nI a) b u m (lay σ) = some (0, lay σ1) ∧ CR σ1 P b N sd Q ∧ σ1.1 (fa 29 5) 0 = σ.1 (fa 29 5) 0)
    ∧ ((rO P N sd Q a u).1 = true → ¬ rBy P N sd m Q a u → ¬ rOld Q (rX P N sd Q a u) (rY P N sd Q a u) → Q.1 = 500 → ∃ σ1, Mod (kcL b) σ σ1 ∧ Z30 (σ1.2.1 (b + 1)) ∧ m_Rc_tryFrom 29 (nI a) b u m (lay σ) = some (-5, lay σ1) ∧ σ1.1 (fa 29 5) 0 = σ.1 (fa 29 5) 0)
    ∧ ((rO P N sd Q a u).1 = true → ¬ rBy P N sd m Q a u → ¬ rOld Q (rX P N sd Q a u) (rY P N sd Q a u) → Q.1 < 500 → ∃ σ1, Mod (kcL b) σ σ1 ∧ m_Rc_tryFrom 29 (nI a) b u m (lay σ) = some (0, lay σ1) ∧ CR σ1 P b N sd (rNew Q (rX P N sd Q a u) (rY P N sd Q a u) a u) ∧ σ1.1 (fa 29 5) 0 = σ.1 (fa 29 5) 0) := by
  obtain ⟨c1, c2, c3, c4, c5, c6⟩ := id h
  obtain ⟨q1, q2, q3, q4, q5⟩ := id hQ
  have h6 := hT.1
  have hlt := hT.2.2.2.2.2.2
  have hF : FitP P := hP.1.1
  have hw := wd_le hF
  have hw2 := wd_r hR
  have hS2 := hR.2.1
  have hS1 := hR.1
  have hcw : a * wd P + wd P ≤ 4400 := by
    have : (a + 1) * wd P ≤ 500 * 4 := Nat.mul_le_mul (by omega) (by omega)
    rw [Nat.add_mul, Nat.one_mul] at this
    omega
  obtain ⟨σa, ea, ma, za, ra⟩ := s_restoreGo (e := a) hT c6 hF c2 (by omega) hcw P.2.2.2.1 0 FU σ (by omega) (by unfold FU; omega) Mod.rf (fun i hi => by omega) c5
  have sa : CShp σa P := c6.mod hT (ma.mono (by simp))
  have ag1 : Ag 0 P.2.2.2.1 (σa.2.1 (b + 1)) (stN N (Q.2.1 a) (Q.2.2.1 a)) := fun s _ hs => by
    obtain ⟨x1, x2⟩ := ra s hs
    rw [x1, x2, c3 a ha (2 * s) (by omega), c3 a ha (2 * s + 1) (by omega), (std_ev hs).1, (std_ev hs).2]
    exact ⟨rfl, rfl⟩
  have ng1 : NG P (σa.2.1 (b + 1)) := NG.ag ag1 (q3 a ha)
  obtain ⟨σ2, e2, m2, n2, mk, sd2, td2⟩ := s_makeStep (u := u) hT sa hF
  rw [out_eq hP ng1 hu] at e2 n2
  obtain ⟨o1, o2⟩ := out_ag (u := u) (sd := σa.2.1 (fa b 4) 0) (sd' := sd) hR ag1
  rw [show (pOut nR P u (σa.2.1 (b + 1)) (σa.2.1 (fa b 4) 0)).1 = (rO P N sd Q a u).1 from o1] at e2 o2
  have s2 : CShp σ2 P := sa.mod hT m2
  have z2 : Z30 (σ2.2.1 (b + 1)) := by rw [n2]; exact Z30.out hF za
  have m02 : Mod (twL b) σ σ2 := (ma.mono (by simp)).tr m2
  have k2 : ∀ o, o < 35 ∨ (200 ≤ o ∧ o < 1950) → σ2.1 o = σ.1 o ∧ σ2.2.1 o = σ.2.1 o := fun o ho => m02.1 o (by unfold twL fa; simp; omega)
  have mk2 : Mod (kcL b) σ σ2 := m02.mono (by unfold kcL; intro o ho; exact List.mem_append_left _ ho)
  have ok2 : SeenOk σ2 (wd P) Q.1 := c1.mod m02 (by intro o ho; unfold twL fa; revert ho; unfold fa; simp; omega)
  have f5 : σ2.1 (fa 29 5) 0 = σ.1 (fa 29 5) 0 := by rw [(k2 (fa 29 5) (by unfold fa; omega)).1]
  have start : m_Rc_tryFrom 29 (nI a) b u m (lay σ) = (if bi ((rO P N sd Q a u).1 = true) = 0 then (rt (-6 : Int32)) else (bd (m_Rc_isBeyond 29 b m) (fun v3 => if v3 = 0 then (bd (gR 2 29 1) (fun v4 => bd (m_Sn_find v4 b) (fun v5 => if v5 < 0 then (bd (gR 2 29 1) (fun v6 => bd (gI 4 v6 5) (fun v7 => if v7 < (500 : Int32) then (bd (gR 2 29 2) (fun v8 => bd (gR 2 29 1) (fun v9 => bd (gI 4 v9 5) (fun v10 => bd (stI v8 v10 (nI a)) (fun _ => bd (gR 2 29 3) (fun v11 => bd (gR 2 29 1) (fun v12 => bd (gI 4 v12 5) (fun v13 => bd (stL v11 v13 u) (fun _ => bd (gR 2 29 1) (fun v14 => bd (m_Sn_addAsked v14) (fun _ => rt (0 : Int32)))))))))))) else (rt (-5 : Int32))))) else (rt (0 : Int32))))) else (bd (m_Rc_tellRow 29 (nI a) u) (fun _ => bd (gI 2 29 5) (fun v15 => rt ((-100 : Int32) - v15)))))) : M Int32) (lay σ2) := by
    have er : m_Sn_restore 23 (nI a) b (lay σ) = some ((), lay σa) := by
      unfold m_Sn_restore
      rw [ckd_lay (ci := 4) (o := 23) rfl (by decide)]
      exact ea
    unfold m_Rc_tryFrom
    rw [ckd_lay (ci := 2) (o := 29) rfl (by decide), gr_29_1, bd_eq er, bd_eq e2]
  have eb : m_Rc_isBeyond 29 b m (lay σ2) = some (bi (beyB m (σ2.2.1 (b + 1)) P.2.2.2.1 0 = true), lay σ2) := by
    unfold m_Rc_isBeyond
    rw [ckd_lay (ci := 2) (o := 29) rfl (by decide)]
    exact s_beyondGo hT s2 hF P.2.2.2.1 0 FU (by omega) (by unfold FU; omega)
  -- behind a step that is not great
  have past : (rO P N sd Q a u).1 = true → Ag 0 P.2.2.2.1 (σ2.2.1 (b + 1)) (stN N (rX P N sd Q a u) (rY P N sd Q a u)) := fun ok => by
    rw [n2]
    exact ((o2 ok).1).tr (rO_ag hR ok)
  have r24 : σ2.2.1 24 = σ.2.1 24 := (k2 24 (by omega)).2
  have find : (rO P N sd Q a u).1 = true → ¬ rBy P N sd m Q a u → ∃ v σ3, m_Rc_tryFrom 29 (nI a) b u m (lay σ) = (if v < (0 : Int32) then (bd (gR 2 29 1) (fun v6 => bd (gI 4 v6 5) (fun v7 => if v7 < (500 : Int32) then (bd (gR 2 29 2) (fun v8 => bd (gR 2 29 1) (fun v9 => bd (gI 4 v9 5) (fun v10 => bd (stI v8 v10 (nI a)) (fun _ => bd (gR 2 29 3) (fun v11 => bd (gR 2 29 1) (fun v12 => bd (gI 4 v12 5) (fun v13 => bd (stL v11 v13 u) (fun _ => bd (gR 2 29 1) (fun v14 => bd (m_Sn_addAsked v14) (fun _ => rt (0 : Int32)))))))))))) else (rt (-5 : Int32))))) else (rt (0 : Int32)) : M Int32) (lay σ3) ∧ Mod [26, fa 23 4, fa 23 3] σ2 σ3 ∧ σ3.1 (fa 23 4) 0 = nI (wd P) ∧ (∀ i, i < wd P → σ3.2.1 26 i = std P (stN N (rX P N sd Q a u) (rY P N sd Q a u)) sd i) ∧ ((v = -1 ∧ Fresh σ3 (wd P) Q.1 ∧ ¬ rOld Q (rX P N sd Q a u) (rY P N sd Q a u)) ∨ (¬ v < 0 ∧ rOld Q (rX P N sd Q a u) (rY P N sd Q a u))) := fun ok hby => by
    have hb0 : ¬ beyB m (σ2.2.1 (b + 1)) P.2.2.2.1 0 = true := fun w => hby ((rBy_iff hR hm (past ok)).mp w)
    obtain ⟨v, σ3, e3, m3, w3, k3, f3⟩ := s_find (σ := σ2) hT s2 hF ok2
    have k3' : ∀ i, i < wd P → σ3.2.1 26 i = std P (stN N (rX P N sd Q a u) (rY P N sd Q a u)) sd i := fun i hi => by rw [k3 i hi]; exact std_ag hR (past ok) i hi
    refine ⟨v, σ3, ?_, m3, w3, k3', ?_⟩
    · rw [start, ap_ite, if_neg (by rw [bi_0]; exact fun q => q ok), bd_eq eb, ap_ite, if_pos (by rw [bi_0]; exact hb0), gr_29_1, bd_eq e3]
    · rcases f3 with ⟨rfl, fr⟩ | ⟨e, he, rfl, hm3⟩
      · refine Or.inl ⟨rfl, fr, fun ⟨e, he, hx, hy⟩ => ?_⟩
        refine fr.2 e he (fun i hi => ?_)
        rw [k3' i hi, m3.l (by decide), r24, c3 e he i hi, hx, hy]
      · refine Or.inr ⟨nI_pos (by omega), e, he, ?_⟩
        refine std_inj (N := N) (s := sd) (s' := sd) hR (fun q => ?_) (fun i hi => ?_)
        · rw [q4 q e he]; unfold rY; rw [if_pos q]
        · rw [← c3 e he i hi, ← r24, hm3 i hi]
          exact std_ag hR (past ok) i hi
  refine ⟨fun ho => ?_, fun ok hby d hC => ?_, fun ok hby hold => ?_, fun ok hby hold h500 => ?_, fun ok hby hold h500 => ?_⟩
  · refine ⟨σ2, mk2, z2, ?_, f5⟩
    rw [start, ap_ite, if_pos (by rw [bi_0]; exact ho), ap_rt]
  · have hb1 : beyB m (σ2.2.1 (b + 1)) P.2.2.2.1 0 = true := (rBy_iff hR hm (past ok)).mpr hby
    obtain ⟨σ3, e3, m3, t3, k3⟩ := c_tell (σ := σ2) (u := u) (g := Q.2.2.2.2) hC (fun e h0 he => by rw [(k2 30 (by omega)).1, (k2 31 (by omega)).2]; exact c4 e h0 he)
    refine ⟨σ3, mk2.tr (m3.mono (by unfold kcL; simp)), by rw [m3.l (by unfold fa; simp; omega)]; exact z2, ?_, t3, k3⟩
    rw [start, ap_ite, if_neg (by rw [bi_0]; exact fun q => q ok), bd_eq eb, ap_ite, if_neg (by rw [bi_0]; exact fun q => q hb1), bd_eq e3]
    simp (disch := first | assumption | rfl | decide | omega) only [↓ckd_lay, ↓bd_gI, ↓bd_gL, ↓bd_pI, ↓bd_pL, ↓bd_pZ, ↓bd_now, ↓bd_next, ↓bd_ldR3, ↓bd_ldR4, ↓ap_ite, ↓ap_rt, ↓ap_lt, ↓rz_0, ↓rz_1, rz_bi, t3]
  · obtain ⟨v, σ3, e3, m3, w3, k3, f3⟩ := find ok hby
    rcases f3 with ⟨-, -, no⟩ | ⟨hv, -⟩
    · exact absurd hold no
    · refine ⟨σ3, mk2.tr (m3.mono (by unfold kcL; simp)), ?_, ⟨ok2.mod m3 (by decide), w3, ?_, ?_, ?_, s2.mod2 m3 (by decide)⟩, ?_⟩
      · rw [e3, ap_ite, if_neg hv, ap_rt]
      · rw [m3.l (by decide), r24]; exact c3
      · rw [m3.i (by decide), m3.l (by decide), (k2 30 (by omega)).1, (k2 31 (by omega)).2]; exact c4
      · rw [m3.l (by unfold fa; simp; omega)]; exact z2
      · rw [m3.i (by decide)]; exact f5
  · obtain ⟨v, σ3, e3, m3, w3, k3, f3⟩ := find ok hby
    rcases f3 with ⟨rfl, fr, -⟩ | ⟨-, no⟩
    · have e5 : σ3.1 (fa 23 5) 0 = nI Q.1 := by rw [m3.i (by decide)]; exact ok2.1
      refine ⟨σ3, mk2.tr (m3.mono (by unfold kcL; simp)), by rw [m3.l (by unfold fa; simp; omega)]; exact z2, ?_, by rw [m3.i (by decide)]; exact f5⟩
      rw [e3, ap_ite, if_pos (by decide), gr_29_1, bd_gI (ci := 4) (o := 23) (k := 5) rfl rfl (by decide), e5, ap_ite, if_neg (fun w => absurd ((nt_500 (by omega)).mp w) (by omega)), ap_rt]
    · exact absurd no hold
  · obtain ⟨v, σ3, e3, m3, w3, k3, f3⟩ := find ok hby
    rcases f3 with ⟨rfl, fr, -⟩ | ⟨-, no⟩
    · have e5 : σ3.1 (fa 23 5) 0 = nI Q.1 := by rw [m3.i (by decide)]; exact ok2.1
      have ok3 : SeenOk σ3 (wd P) Q.1 := ok2.mod m3 (by decide)
      have m4 : Mod [30, 31] σ3 (sL (sI σ3 30 (va_up (σ3.1 30) Q.1 (nI a))) 31 (va_up (σ3.2.1 31) Q.1 u)) := (Mod.I (by simp)).tr (Mod.L (by simp))
      have r30 : (sL (sI σ3 30 (va_up (σ3.1 30) Q.1 (nI a))) 31 (va_up (σ3.2.1 31) Q.1 u)).1 30 = va_up (σ.1 30) Q.1 (nI a) := by rw [sL_1, sI_same, m3.i (by decide), (k2 30 (by omega)).1]
      have r31 : (sL (sI σ3 30 (va_up (σ3.1 30) Q.1 (nI a))) 31 (va_up (σ3.2.1 31) Q.1 u)).2.1 31 = va_up (σ.2.1 31) Q.1 u := by rw [sL_same, m3.l (by decide), (k2 31 (by omega)).2]
      have e4 : m_Rc_tryFrom 29 (nI a) b u m (lay σ) = bd (m_Sn_addAsked 23) (fun _ => rt (0 : Int32)) (lay (sL (sI σ3 30 (va_up (σ3.1 30) Q.1 (nI a))) 31 (va_up (σ3.2.1 31) Q.1 u))) := by
        rw [e3, ap_ite, if_pos (by decide), gr_29_1, bd_gI (ci := 4) (o := 23) (k := 5) rfl rfl (by decide), e5, ap_ite, if_pos ((nt_500 (by omega)).mpr h500)]
        simp (disch := first | assumption | rfl | decide | omega) only [↓ckd_lay, ↓bd_gI, ↓bd_gL, ↓bd_pI, ↓bd_pL, ↓bd_pZ, ↓bd_now, ↓bd_next, ↓bd_ldR3, ↓bd_ldR4, ↓ap_ite, ↓ap_rt, ↓ap_lt, ↓rz_0, ↓rz_1, rz_bi, ↓gr_1_0, ↓gr_1_1, ↓gr_1_2, ↓gr_1_3, ↓gr_1_4, ↓gr_1_5, ↓gr_1_6, ↓gr_15_0, ↓gr_15_1, ↓gr_15_2, ↓gr_15_3, ↓gr_20_0, ↓gr_20_1, ↓gr_23_0, ↓gr_23_1, ↓gr_23_2, ↓gr_27_0, ↓gr_27_1, ↓gr_27_2, ↓gr_29_0, ↓gr_29_1, ↓gr_29_2, ↓gr_29_3, ↓gr_29_4, ↓gr_33_0, ↓gr_33_1, ↓gr_now, ↓gr_next, e5, ↓la_30, ↓st_30, ↓la_31, ↓st_31, sI_ne, sI_2]
      generalize hσ4 : sL (sI σ3 30 (va_up (σ3.1 30) Q.1 (nI a))) 31 (va_up (σ3.2.1 31) Q.1 u) = σ4 at m4 r30 r31 e4
      have ok4 : SeenOk σ4 (wd P) Q.1 := ok3.mod m4 (by decide)
      have fr4 : Fresh σ4 (wd P) Q.1 := by
        unfold Fresh
        rw [m4.i (by decide), m4.i (by decide), m4.l (by decide), m4.l (by decide)]
        exact fr
      have w4 : σ4.1 (fa 23 4) 0 = nI (wd P) := by rw [m4.i (by decide)]; exact w3
      obtain ⟨σ5, x1, x2, x3, x4, x5⟩ := s_add ok4 fr4 hw w4 (by omega) (Nat.le_trans (Nat.mul_le_mul (show Q.1 + 1 ≤ 500 by omega) (show wd P ≤ 4 by omega)) (by decide))
      have m25 : Mod [24, 25, 26, fa 23 3, fa 23 4, fa 23 5, 30, 31] σ2 σ5 := (m3.mono (by decide)).tr ((m4.mono (by decide)).tr (x2.mono (by decide)))
      have b24 : σ4.2.1 24 = σ.2.1 24 := by rw [m4.l (by decide), m3.l (by decide)]; exact r24
      have b26 : σ4.2.1 26 = σ3.2.1 26 := m4.l (by decide)
      refine ⟨σ5, mk2.tr (m25.mono (by unfold kcL; simp)), ?_, ⟨x3, ?_, fun e he i hi => ?_, fun e h0 he => ?_, ?_, s2.mod2 m25 (by decide)⟩, ?_⟩
      · rw [e4, bd_eq x1, ap_rt]
      · rw [x2.i (by decide)]; exact w4
      · have he' : e < Q.1 + 1 := he
        show _ = std P (stN N (va_up Q.2.1 Q.1 (rX P N sd Q a u) e) (va_up Q.2.2.1 Q.1 (rY P N sd Q a u) e)) sd i
        by_cases z : e = Q.1
        · rw [z, up_same, up_same, x5 i hi, b26, k3 i hi]
        · rw [up_ne z, up_ne z, x4 e (by omega) i hi, b24]
          exact c3 e (by omega) i hi
      · have he' : e < Q.1 + 1 := he
        show _ = nI (va_up Q.2.2.2.1 Q.1 a e) ∧ _ = va_up Q.2.2.2.2 Q.1 u e
        rw [x2.i (by decide), x2.l (by decide), r30, r31]
        by_cases z : e = Q.1
        · rw [z, up_same, up_same, up_same, up_same]; exact ⟨rfl, rfl⟩
        · rw [up_ne z, up_ne z, up_ne z, up_ne z]; exact c4 e h0 (by omega)
      · rw [m25.l (by unfold fa; simp; omega)]; exact z2
      · rw [m25.i (by decide)]; exact f5
    · exact absurd no hold
