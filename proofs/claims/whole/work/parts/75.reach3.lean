/-! reach: both search together. -/
def Both (P : SH) (b : Nat) (N : Nat → Int64) (sd : Int64) (f g : M Int32) (σ : SS) (Q : RQ) : Prop := ∃ (v : Int32) (σ' : SS) (w : Nat) (ρ : Nat → Int64), f (lay σ) = some (v, lay σ') ∧ Mod (kcL b) σ σ' ∧ Z30 (σ'.2.1 (b + 1)) ∧ w ≤ 500 ∧ σ'.1 (fa 29 5) 0 = nI w ∧ (∀ i, i < w → σ'.2.1 32 i = ρ i) ∧
  ∀ τ : SS, RR τ P N sd Q → τ.1 (fa 81 35) 0 = nI 0 → ∃ υ, g (lay τ) = some (v, lay υ) ∧ Mod krL τ υ ∧ Z30 (υ.2.1 95) ∧ υ.1 (fa 81 35) 0 = nI w ∧ ∀ i, i < w → υ.2.1 105 i = ρ i
theorem n100 : ∀ w, w < 502 → ¬ ((-100 : Int32) - nI w = 0) := by decide +kernel
def uu (lo : Int64) (k : Nat) : Int64 := lo + lN k
theorem uu_T {lo : Int64} {k : Nat} (h : smp lo) (hk : k ≤ 7) : (uu lo k).toInt = lo.toInt + k := by
  unfold uu
  unfold smp at h
  rw [toInt_add64 (by omega) (by rw [lN_T (by omega)]; omega), lN_T (by omega)]
theorem uu_s {lo : Int64} {k : Nat} : uu lo k + 1 = uu lo (k + 1) := by
  unfold uu
  rw [Int64.add_assoc, lit_lN 1, lN_add]
section Loops
variable {P : SH} {b a D n31 : Nat} {sd m lo hi : Int64} {N : Nat → Int64}
theorem b_in (hT : IsTw b) (hP : AllP P) (hR : ReachP P) (hm : 1 ≤ m.toInt) (hlo : smp lo) (hhi : smp hi) (hD : hi.toInt = lo.toInt + D) (hD6 : D ≤ 6) (hN : Z30 N)
    (IH : ∀ (Q : RQ) (σ : SS), QI P N Q → CR σ P b N sd Q → σ.1 (fa 29 5) 0 = nI 0 → Both P b N sd (l_Rc_findStands_31 n31 29 b lo hi m (nI (a + 1))) (l_Md_reach_109 n31 81 lo hi m (nI (a + 1))) σ Q) :
    ∀ (r k n : Nat) (Q : RQ) (σ : SS), k + r = D + 1 → r < n → QI P N Q → a < Q.1 → CR σ P b N sd Q → σ.1 (fa 29 5) 0 = nI 0 → Both P b N sd (l_Rc_findStands_54 (l_Rc_findStands_31 n31) n 29 b lo hi m (nI a) (uu lo k)) (l_Md_reach_121 (l_Md_reach_109 n31) n 81 lo hi m (nI a) (uu lo k)) σ Q
  | r, k, 0, Q, σ, h, hn, hQ, ha, hc, h5 => by omega
  | 0, k, n + 1, Q, σ, h, hn, hQ, ha, hc, h5 => by
    have hq : hi < uu lo k := by rw [Int64.lt_iff_toInt_lt, uu_T hlo (by omega)]; omega
    have e1 : l_Rc_findStands_54 (l_Rc_findStands_31 n31) (n + 1) 29 b lo hi m (nI a) (uu lo k) = l_Rc_findStands_31 n31 29 b lo hi m (nI (a + 1)) := by
      show b_Rc_findStands_54 (l_Rc_findStands_31 n31) (l_Rc_findStands_54 (l_Rc_findStands_31 n31) n) 29 b lo hi m (nI a) (uu lo k) = _
      unfold b_Rc_findStands_54
      rw [if_pos hq, na_1]
    have e2 : l_Md_reach_121 (l_Md_reach_109 n31) (n + 1) 81 lo hi m (nI a) (uu lo k) = l_Md_reach_109 n31 81 lo hi m (nI (a + 1)) := by
      show b_Md_reach_121 (l_Md_reach_109 n31) (l_Md_reach_121 (l_Md_reach_109 n31) n) 81 lo hi m (nI a) (uu lo k) = _
      unfold b_Md_reach_121
      rw [if_pos hq, na_1]
    rw [e1, e2]
    exact IH Q σ hQ hc h5
  | r + 1, k, n + 1, Q, σ, h, hn, hQ, ha, hc, h5 => by
    have hu := uu_T (k := k) hlo (by omega)
    have hq : ¬ hi < uu lo k := by rw [Int64.lt_iff_toInt_lt, hu]; omega
    have hsu : smp (uu lo k) := by unfold smp at *; omega
    obtain ⟨c1, c2, c3, c4, c5⟩ := c_try (u := uu lo k) (m := m) hT hP hR hsu hm hQ ha hc
    have tr : ∀ τ, RR τ P N sd Q → _ := fun τ g => r_try (τ := τ) (u := uu lo k) (m := m) (lo := lo) (hi := hi) (n := n) (k109 := l_Md_reach_109 n31) hP hR hQ ha hq g
    have st : ∀ (v : Int32) (σ1 : SS), m_Rc_tryFrom 29 (nI a) b (uu lo k) m (lay σ) = some (v, lay σ1) → l_Rc_findStands_54 (l_Rc_findStands_31 n31) (n + 1) 29 b lo hi m (nI a) (uu lo k) (lay σ) = if v = 0 then l_Rc_findStands_54 (l_Rc_findStands_31 n31) n 29 b lo hi m (nI a) (uu lo (k + 1)) (lay σ1) else some (v, lay σ1) := fun v σ1 e => by
      show b_Rc_findStands_54 (l_Rc_findStands_31 n31) (l_Rc_findStands_54 (l_Rc_findStands_31 n31) n) 29 b lo hi m (nI a) (uu lo k) (lay σ) = _
      unfold b_Rc_findStands_54
      rw [ap_ite, if_neg hq, bd_eq e, ap_ite, uu_s, ap_lt, ap_rt]
    by_cases ho : (rO P N sd Q a (uu lo k)).1 = true
    · by_cases hb : rBy P N sd m Q a (uu lo k)
      · obtain ⟨d, d1, d2, d3⟩ := itr_end hQ.2.2.2.2 a a (Nat.le_refl _) ha
        have hC : Came Q.1 Q.2.2.2.1 a d := ⟨hQ.2.1, ha, d1, d2, d3⟩
        have hc5 := hQ.2.1
        obtain ⟨σ1, x1, x2, x3, x4, x5⟩ := c2 ho hb d hC
        refine ⟨-100 - nI (d + 1), σ1, d + 1, tlR Q.2.2.2.1 Q.2.2.2.2 a d (uu lo k), ?_, x1, x2, by omega, x4, fun i hi => x5 i (by omega), fun τ g g35 => ?_⟩
        · rw [st _ _ x3, if_neg (n100 (d + 1) (by omega))]
        · obtain ⟨-, t2, -, -, -⟩ := tr τ g
          obtain ⟨τ1, y1, y2, y3, y4, y5⟩ := t2 ho hb d hC
          exact ⟨τ1, y3, y1, y2, y4, fun i hi => y5 i (by omega)⟩
      · by_cases hl : rOld Q (rX P N sd Q a (uu lo k)) (rY P N sd Q a (uu lo k))
        · obtain ⟨σ1, x1, x3, x4, x5⟩ := c3 ho hb hl
          obtain ⟨v, σ', w, ρ, y1, y2, y3, y4, y5, y6, y7⟩ := b_in hT hP hR hm hlo hhi hD hD6 hN IH r (k + 1) n Q σ1 (by omega) (by omega) hQ ha x4 (x5.trans h5)
          refine ⟨v, σ', w, ρ, ?_, x1.tr y2, y3, y4, y5, y6, fun τ g g35 => ?_⟩
          · rw [st _ _ x3, if_pos rfl, y1]
          · obtain ⟨-, -, t3, -, -⟩ := tr τ g
            obtain ⟨τ1, z1, z2, z3, z4⟩ := t3 ho hb hl
            obtain ⟨υ, w1, w2, w3⟩ := y7 τ1 z3 (z4.trans g35)
            exact ⟨υ, by rw [z2, uu_s, w1], z1.tr w2, w3⟩
        · by_cases h500 : Q.1 = 500
          · obtain ⟨σ1, x1, x2, x3, x4⟩ := c4 ho hb hl h500
            refine ⟨-5, σ1, 0, fun _ => 0, ?_, x1, x2, by omega, x4.trans h5, fun i hi => by omega, fun τ g g35 => ?_⟩
            · rw [st _ _ x3, if_neg (by decide)]
            · obtain ⟨-, -, -, t4, -⟩ := tr τ g
              obtain ⟨τ1, z1, z2, z3, z4⟩ := t4 ho hb hl h500
              exact ⟨τ1, z3, z1, z2, z4.trans g35, fun i hi => by omega⟩
          · have hlt : Q.1 < 500 := by have := hQ.2.1; omega
            obtain ⟨σ1, x1, x3, x4, x5⟩ := c5 ho hb hl hlt
            obtain ⟨v, σ', w, ρ, y1, y2, y3, y4, y5, y6, y7⟩ := b_in hT hP hR hm hlo hhi hD hD6 hN IH r (k + 1) n _ σ1 (by omega) (by omega) (hQ.new (sd := sd) hR ha hlt ho) (by show a < Q.1 + 1; omega) x4 (x5.trans h5)
            refine ⟨v, σ', w, ρ, ?_, x1.tr y2, y3, y4, y5, y6, fun τ g g35 => ?_⟩
            · rw [st _ _ x3, if_pos rfl, y1]
            · obtain ⟨-, -, -, -, t5⟩ := tr τ g
              obtain ⟨τ1, z1, z2, z3, z4⟩ := t5 ho hb hl hlt
              obtain ⟨υ, w1, w2, w3⟩ := y7 τ1 z3 (z4.trans g35)
              exact ⟨υ, by rw [z2, uu_s, w1], z1.tr w2, w3⟩
    · obtain ⟨σ1, x1, x2, x3, x4⟩ := c1 ho
      refine ⟨-6, σ1, 0, fun _ => 0, ?_, x1, x2, by omega, x4.trans h5, fun i hi => by omega, fun τ g g35 => ?_⟩
      · rw [st _ _ x3, if_neg (by decide)]
      · obtain ⟨t1, -, -, -, -⟩ := tr τ g
        obtain ⟨τ1, z1, z2, z3, z4⟩ := t1 ho
        exact ⟨τ1, z3, z1, z2, z4.trans g35, fun i hi => by omega⟩
end Loops
theorem b_out {P : SH} {b D : Nat} {sd m lo hi : Int64} {N : Nat → Int64} (hT : IsTw b) (hP : AllP P) (hR : ReachP P) (hm : 1 ≤ m.toInt) (hlo : smp lo) (hhi : smp hi) (hD : hi.toInt = lo.toInt + D) (hD6 : D ≤ 6) (hN : Z30 N) :
    ∀ (r a n : Nat) (Q : RQ) (σ : SS), a + r = 500 → r < n → QI P N Q → CR σ P b N sd Q → σ.1 (fa 29 5) 0 = nI 0 → Both P b N sd (l_Rc_findStands_31 n 29 b lo hi m (nI a)) (l_Md_reach_109 n 81 lo hi m (nI a)) σ Q
  | r, a, 0, Q, σ, h, hn, hQ, hc, h5 => by omega
  | r, a, n + 1, Q, σ, h, hn, hQ, hc, h5 => by
    have hc5 := hQ.2.1
    by_cases hq : Q.1 ≤ a
    · refine ⟨nI Q.1, σ, 0, fun _ => 0, ?_, Mod.rf, hc.2.2.2.2.1, by omega, h5, fun i hi => by omega, fun τ g g35 => ⟨τ, ?_, Mod.rf, g.2.2.2.2.1, g35, fun i hi => by omega⟩⟩
      · show b_Rc_findStands_31 (l_Rc_findStands_31 n) 29 b lo hi m (nI a) (lay σ) = _
        unfold b_Rc_findStands_31
        by_cases q5 : 500 ≤ a
        · rw [ap_ite, if_pos ((ln_500 (by omega)).mpr q5)]
          simp (disch := first | assumption | rfl | decide | omega) only [↓ckd_lay, ↓bd_gI, ↓bd_gL, ↓bd_pI, ↓bd_pL, ↓bd_pZ, ↓bd_now, ↓bd_next, ↓bd_ldR3, ↓bd_ldR4, ↓ap_ite, ↓ap_rt, ↓ap_lt, ↓rz_0, ↓rz_1, rz_bi, ↓gr_1_0, ↓gr_1_1, ↓gr_1_2, ↓gr_1_3, ↓gr_1_4, ↓gr_1_5, ↓gr_1_6, ↓gr_15_0, ↓gr_15_1, ↓gr_15_2, ↓gr_15_3, ↓gr_20_0, ↓gr_20_1, ↓gr_23_0, ↓gr_23_1, ↓gr_23_2, ↓gr_27_0, ↓gr_27_1, ↓gr_27_2, ↓gr_29_0, ↓gr_29_1, ↓gr_29_2, ↓gr_29_3, ↓gr_29_4, ↓gr_33_0, ↓gr_33_1, ↓gr_now, ↓gr_next, hc.1.1]
        · rw [ap_ite, if_neg (fun w => q5 ((ln_500 (by omega)).mp w))]
          simp (disch := first | assumption | rfl | decide | omega) only [↓ckd_lay, ↓bd_gI, ↓bd_gL, ↓bd_pI, ↓bd_pL, ↓bd_pZ, ↓bd_now, ↓bd_next, ↓bd_ldR3, ↓bd_ldR4, ↓ap_ite, ↓ap_rt, ↓ap_lt, ↓rz_0, ↓rz_1, rz_bi, ↓gr_1_0, ↓gr_1_1, ↓gr_1_2, ↓gr_1_3, ↓gr_1_4, ↓gr_1_5, ↓gr_1_6, ↓gr_15_0, ↓gr_15_1, ↓gr_15_2, ↓gr_15_3, ↓gr_20_0, ↓gr_20_1, ↓gr_23_0, ↓gr_23_1, ↓gr_23_2, ↓gr_27_0, ↓gr_27_1, ↓gr_27_2, ↓gr_29_0, ↓gr_29_1, ↓gr_29_2, ↓gr_29_3, ↓gr_29_4, ↓gr_33_0, ↓gr_33_1, ↓gr_now, ↓gr_next, hc.1.1, le_nn, hq, if_true]
      · show b_Md_reach_109 (l_Md_reach_109 n) 81 lo hi m (nI a) (lay τ) = _
        unfold b_Md_reach_109
        simp (disch := first | assumption | rfl | decide | omega) only [↓ckd_lay, ↓bd_gI, ↓bd_gL, ↓bd_pI, ↓bd_pL, ↓bd_pZ, ↓bd_now, ↓bd_next, ↓bd_ldR3, ↓bd_ldR4, ↓ap_ite, ↓ap_rt, ↓ap_lt, ↓rz_0, ↓rz_1, rz_bi, ↓gr_81_0, ↓gr_81_1, ↓gr_81_2, ↓gr_81_3, ↓gr_81_4, ↓gr_81_7, ↓gr_81_8, ↓gr_81_9, ↓gr_81_11, ↓gr_81_14, ↓gr_81_17, ↓gr_81_18, ↓gr_81_20, ↓gr_81_21, ↓gr_81_25, ↓gr_81_26, ↓gr_81_27, ↓gr_81_28, ↓gr_81_29, ↓gr_81_31, ↓gr_81_32, ↓gr_81_33, ↓gr_81_34, ↓gr_81_36, ↓gr_81_39, g.2.2.2.2.2.1, le_nn, hq, if_true]
    · have q5 : ¬ 500 ≤ a := by omega
      have hin := b_in (a := a) (n31 := n) (sd := sd) hT hP hR hm hlo hhi hD hD6 hN (fun Q' σ' h1 h2 h3 => b_out hT hP hR hm hlo hhi hD hD6 hN (r - 1) (a + 1) n Q' σ' (by omega) (by omega) h1 h2 h3) (D + 1) 0 FU Q σ (by omega) (by unfold FU; omega) hQ (by omega) hc h5
      have u0 : uu lo 0 = lo := by unfold uu; rw [show lN 0 = 0 from rfl, Int64.add_zero]
      rw [u0] at hin
      obtain ⟨v, σ', w, ρ, y1, y2, y3, y4, y5, y6, y7⟩ := hin
      refine ⟨v, σ', w, ρ, ?_, y2, y3, y4, y5, y6, fun τ g g35 => ?_⟩
      · show b_Rc_findStands_31 (l_Rc_findStands_31 n) 29 b lo hi m (nI a) (lay σ) = _
        unfold b_Rc_findStands_31
        rw [ap_ite, if_neg (fun w => q5 ((ln_500 (by omega)).mp w))]
        simp (disch := first | assumption | rfl | decide | omega) only [↓ckd_lay, ↓bd_gI, ↓bd_gL, ↓bd_pI, ↓bd_pL, ↓bd_pZ, ↓bd_now, ↓bd_next, ↓bd_ldR3, ↓bd_ldR4, ↓ap_ite, ↓ap_rt, ↓ap_lt, ↓rz_0, ↓rz_1, rz_bi, ↓gr_1_0, ↓gr_1_1, ↓gr_1_2, ↓gr_1_3, ↓gr_1_4, ↓gr_1_5, ↓gr_1_6, ↓gr_15_0, ↓gr_15_1, ↓gr_15_2, ↓gr_15_3, ↓gr_20_0, ↓gr_20_1, ↓gr_23_0, ↓gr_23_1, ↓gr_23_2, ↓gr_27_0, ↓gr_27_1, ↓gr_27_2, ↓gr_29_0, ↓gr_29_1, ↓gr_29_2, ↓gr_29_3, ↓gr_29_4, ↓gr_33_0, ↓gr_33_1, ↓gr_now, ↓gr_next, hc.1.1, le_nn, hq, if_false]
        exact y1
      · obtain ⟨υ, w1, w2⟩ := y7 τ g g35
        refine ⟨υ, ?_, w2⟩
        show b_Md_reach_109 (l_Md_reach_109 n) 81 lo hi m (nI a) (lay τ) = _
        unfold b_Md_reach_109
        simp (disch := first | assumption | rfl | decide | omega) only [↓ckd_lay, ↓bd_gI, ↓bd_gL, ↓bd_pI, ↓bd_pL, ↓bd_pZ, ↓bd_now, ↓bd_next, ↓bd_ldR3, ↓bd_ldR4, ↓ap_ite, ↓ap_rt, ↓ap_lt, ↓rz_0, ↓rz_1, rz_bi, ↓gr_81_0, ↓gr_81_1, ↓gr_81_2, ↓gr_81_3, ↓gr_81_4, ↓gr_81_7, ↓gr_81_8, ↓gr_81_9, ↓gr_81_11, ↓gr_81_14, ↓gr_81_17, ↓gr_81_18, ↓gr_81_20, ↓gr_81_21, ↓gr_81_25, ↓gr_81_26, ↓gr_81_27, ↓gr_81_28, ↓gr_81_29, ↓gr_81_31, ↓gr_81_32, ↓gr_81_33, ↓gr_81_34, ↓gr_81_36, ↓gr_81_39, g.2.2.2.2.2.1, le_nn, hq, if_false]
        exact w1
