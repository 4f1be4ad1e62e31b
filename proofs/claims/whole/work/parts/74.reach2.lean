/-! reach: the reference's try. -/
def RR (τ : SS) (P : SH) (N : Nat → Int64) (sd : Int64) (Q : RQ) : Prop := RShp τ P ∧ τ.2.1 91 = N ∧ τ.2.1 (fa 81 15) 0 = sd ∧ Z30 N ∧ Z30 (τ.2.1 95) ∧ τ.1 (fa 81 30) 0 = nI Q.1 ∧ (∀ e, e < Q.1 → τ.2.1 101 e = Q.2.1 e ∧ τ.2.1 102 e = Q.2.2.1 e) ∧ τ.1 103 0 = -1 ∧ ∀ e, 0 < e → e < Q.1 → τ.1 103 e = nI (Q.2.2.2.1 e) ∧ τ.2.1 104 e = Q.2.2.2.2 e
abbrev krL : List Nat := rwL ++ [101, 102, 103, 104, fa 81 30, 105, fa 81 35]
section Find
variable {τ : SS} {Q : RQ} {k109 : Nat → Int64 → Int64 → Int64 → Int32 → M Int32} {k121 : Nat → Int64 → Int64 → Int64 → Int32 → Int64 → M Int32} {lo hi m u X Y : Int64} {a : Nat}
theorem r_find0 (hc : Q.1 ≤ 500) (h30 : τ.1 (fa 81 30) 0 = nI Q.1) (hr : ∀ e, e < Q.1 → τ.2.1 101 e = Q.2.1 e ∧ τ.2.1 102 e = Q.2.2.1 e) : ∀ (r e n : Nat), e + r = Q.1 → r < n → (∀ e', e ≤ e' → e' < Q.1 → ¬ (Q.2.1 e' = X ∧ Q.2.2.1 e' = Y)) → l_Md_reach_245 k109 k121 n 81 lo hi m (nI a) u X Y (nI e) (lay τ) = m_Md_reach_286 k109 k121 81 lo hi m (nI a) u X Y (nI Q.1) (lay τ)
  | r, e, 0, h, hn, hno => by omega
  | 0, e, n + 1, h, hn, hno => by
    have he : e = Q.1 := by omega
    show b_Md_reach_245 k109 k121 (l_Md_reach_245 k109 k121 n) 81 lo hi m (nI a) u X Y (nI e) (lay τ) = _
    unfold b_Md_reach_245
    rw [bd_gI (ci := 9) (o := 81) (k := 30) rfl rfl (by decide), h30, he, ap_ite, if_pos ((le_nn (by omega) (by omega)).mpr (Nat.le_refl _))]
  | r + 1, e, n + 1, h, hn, hno => by
    obtain ⟨r1, r2⟩ := hr e (by omega)
    have hq : ¬ nI Q.1 ≤ nI e := fun w => absurd ((le_nn (by omega) (by omega)).mp w) (by omega)
    have hx := hno e (by omega) (by omega)
    show b_Md_reach_245 k109 k121 (l_Md_reach_245 k109 k121 n) 81 lo hi m (nI a) u X Y (nI e) (lay τ) = _
    unfold b_Md_reach_245
    rw [bd_gI (ci := 9) (o := 81) (k := 30) rfl rfl (by decide), h30, ap_ite, if_neg hq]
    simp (disch := first | assumption | rfl | decide | omega) only [↓ckd_lay, ↓bd_gI, ↓bd_gL, ↓bd_pI, ↓bd_pL, ↓bd_pZ, ↓bd_now, ↓bd_next, ↓bd_ldR3, ↓bd_ldR4, ↓ap_ite, ↓ap_rt, ↓ap_lt, ↓rz_0, ↓rz_1, rz_bi, ↓gr_81_0, ↓gr_81_1, ↓gr_81_2, ↓gr_81_3, ↓gr_81_4, ↓gr_81_7, ↓gr_81_8, ↓gr_81_9, ↓gr_81_11, ↓gr_81_14, ↓gr_81_17, ↓gr_81_18, ↓gr_81_20, ↓gr_81_21, ↓gr_81_25, ↓gr_81_26, ↓gr_81_27, ↓gr_81_28, ↓gr_81_29, ↓gr_81_31, ↓gr_81_32, ↓gr_81_33, ↓gr_81_34, ↓gr_81_36, ↓gr_81_39, ↓la_101, ↓st_101, ↓la_102, ↓st_102, r1, r2, na_1]
    rw [r_find0 hc h30 hr r (e + 1) n (by omega) (by omega) (fun e' h1 h2 => hno e' (by omega) h2)]
    by_cases q1 : Q.2.1 e = X
    · rw [if_pos q1, if_neg (fun w => hx ⟨q1, w⟩)]
    · rw [if_neg q1]
theorem r_find1 (hc : Q.1 ≤ 500) (h30 : τ.1 (fa 81 30) 0 = nI Q.1) (hr : ∀ e, e < Q.1 → τ.2.1 101 e = Q.2.1 e ∧ τ.2.1 102 e = Q.2.2.1 e) {e1 : Nat} (he1 : e1 < Q.1) (hm1 : Q.2.1 e1 = X ∧ Q.2.2.1 e1 = Y) : ∀ (r e n : Nat), e + r = e1 → r < n → l_Md_reach_245 k109 k121 n 81 lo hi m (nI a) u X Y (nI e) (lay τ) = k121 81 lo hi m (nI a) (u + 1) (lay τ) := by
  have e286 : ∀ e, e < Q.1 → m_Md_reach_286 k109 k121 81 lo hi m (nI a) u X Y (nI e) (lay τ) = k121 81 lo hi m (nI a) (u + 1) (lay τ) := fun e he => by
    unfold m_Md_reach_286
    rw [bd_gI (ci := 9) (o := 81) (k := 30) rfl rfl (by decide), h30, ap_ite, if_neg (fun w => absurd ((eq_nn (by omega) (by omega)).mp w) (by omega)), ap_lt]
  intro r
  induction r with
  | zero =>
    intro e n h hn
    obtain ⟨n, rfl⟩ : ∃ m, n = m + 1 := ⟨n - 1, by omega⟩
    have he : e = e1 := by omega
    subst he
    obtain ⟨r1, r2⟩ := hr e (by omega)
    have hq : ¬ nI Q.1 ≤ nI e := fun w => absurd ((le_nn (by omega) (by omega)).mp w) (by omega)
    show b_Md_reach_245 k109 k121 (l_Md_reach_245 k109 k121 n) 81 lo hi m (nI a) u X Y (nI e) (lay τ) = _
    unfold b_Md_reach_245
    rw [bd_gI (ci := 9) (o := 81) (k := 30) rfl rfl (by decide), h30, ap_ite, if_neg hq]
    simp (disch := first | assumption | rfl | decide | omega) only [↓ckd_lay, ↓bd_gI, ↓bd_gL, ↓bd_pI, ↓bd_pL, ↓bd_pZ, ↓bd_now, ↓bd_next, ↓bd_ldR3, ↓bd_ldR4, ↓ap_ite, ↓ap_rt, ↓ap_lt, ↓rz_0, ↓rz_1, rz_bi, ↓gr_81_0, ↓gr_81_1, ↓gr_81_2, ↓gr_81_3, ↓gr_81_4, ↓gr_81_7, ↓gr_81_8, ↓gr_81_9, ↓gr_81_11, ↓gr_81_14, ↓gr_81_17, ↓gr_81_18, ↓gr_81_20, ↓gr_81_21, ↓gr_81_25, ↓gr_81_26, ↓gr_81_27, ↓gr_81_28, ↓gr_81_29, ↓gr_81_31, ↓gr_81_32, ↓gr_81_33, ↓gr_81_34, ↓gr_81_36, ↓gr_81_39, ↓la_101, ↓st_101, ↓la_102, ↓st_102, r1, r2, hm1.1, hm1.2, if_true]
    exact e286 e he1
  | succ r ih =>
    intro e n h hn
    obtain ⟨n, rfl⟩ : ∃ m, n = m + 1 := ⟨n - 1, by omega⟩
    obtain ⟨r1, r2⟩ := hr e (by omega)
    have hq : ¬ nI Q.1 ≤ nI e := fun w => absurd ((le_nn (by omega) (by omega)).mp w) (by omega)
    show b_Md_reach_245 k109 k121 (l_Md_reach_245 k109 k121 n) 81 lo hi m (nI a) u X Y (nI e) (lay τ) = _
    unfold b_Md_reach_245
    rw [bd_gI (ci := 9) (o := 81) (k := 30) rfl rfl (by decide), h30, ap_ite, if_neg hq]
    simp (disch := first | assumption | rfl | decide | omega) only [↓ckd_lay, ↓bd_gI, ↓bd_gL, ↓bd_pI, ↓bd_pL, ↓bd_pZ, ↓bd_now, ↓bd_next, ↓bd_ldR3, ↓bd_ldR4, ↓ap_ite, ↓ap_rt, ↓ap_lt, ↓rz_0, ↓rz_1, rz_bi, ↓gr_81_0, ↓gr_81_1, ↓gr_81_2, ↓gr_81_3, ↓gr_81_4, ↓gr_81_7, ↓gr_81_8, ↓gr_81_9, ↓gr_81_11, ↓gr_81_14, ↓gr_81_17, ↓gr_81_18, ↓gr_81_20, ↓gr_81_21, ↓gr_81_25, ↓gr_81_26, ↓gr_81_27, ↓gr_81_28, ↓gr_81_29, ↓gr_81_31, ↓gr_81_32, ↓gr_81_33, ↓gr_81_34, ↓gr_81_36, ↓gr_81_39, ↓la_101, ↓st_101, ↓la_102, ↓st_102, r1, r2, na_1]
    rw [ih (e + 1) n (by omega) (by omega), e286 e (by omega)]
    by_cases q1 : Q.2.1 e = X
    · rw [if_pos q1]
      by_cases q2 : Q.2.2.1 e = Y
      · rw [if_pos q2]
      · rw [if_neg q2]
    · rw [if_neg q1]
end Find
theorem r_try {τ : SS} {P : SH} {a n : Nat} {u sd m lo hi : Int64} {N : Nat → Int64} {Q : RQ} {k109 : Nat → Int64 → Int64 → Int64 → Int32 → M Int32} (hP : AllP P) (hR : ReachP P) (hQ : QI P N Q) (ha : a < Q.1) (hh : ¬ hi < u) (h : RR τ P N sd Q) :
    (¬ (rO P N sd Q a u).1 = true → ∃ τ1, Mod krL τ τ1 ∧ Z30 (τ1.2.1 95) ∧ l_Md_reach_121 k109 (n + 1) 81 lo hi m (nI a) u (lay τ) = some (-6, lay τ1) ∧ τ1.1 (fa 81 35) 0 = τ.1 (fa 81 35) 0)
    ∧ ((rO P N sd Q a u).1 = true → rBy P N sd m Q a u → ∀ d, Came Q.1 Q.2.2.2.1 a d → ∃ τ1, Mod krL τ τ1 ∧ Z30 (τ1.2.1 95) ∧ l_Md_reach_121 k109 (n + 1) 81 lo hi m (nI a) u (lay τ) = some (-100 - nI (d + 1), lay τ1) ∧ τ1.1 (fa 81 35) 0 = nI (d + 1) ∧ ∀ i, i ≤ d → τ1.2.1 105 i = tlR Q.2.2.2.1 Q.2.2.2.2 a d u i)
    ∧ ((rO P N sd Q a u).1 = true → ¬ rBy P N sd m Q a u → rOld Q (rX P N sd Q a u) (rY P N sd Q a u) → ∃ τ1, Mod krL τ τ1 ∧ l_Md_reach_121 k109 (n + 1) 81 lo hi m (nI a) u (lay τ) = l_Md_reach_121 k109 n 81 lo hi m (nI a) (u + 1) (lay τ1) ∧ RR τ1 P N sd Q ∧ τ1.1 (fa 81 35) 0 = τ.1 (fa 81 35) 0)
    ∧ ((rO P N sd Q a u).1 = true → ¬ rBy P N sd m Q a u → ¬ rOld Q (rX P N sd Q a u) (rY P N sd Q a u) → Q.1 = 500 → ∃ τ1, Mod krL τ τ1 ∧ Z30 (τ1.2.1 95) ∧ l_Md_reach_121 k109 (n + 1) 81 lo hi m (nI a) u (lay τ) = some (-5, lay τ1) ∧ τ1.1 (fa 81 35) 0 = τ.1 (fa 81 35) 0)
    ∧ ((rO P N sd Q a u).1 = true → ¬ rBy P N sd m Q a u → ¬ rOld Q (rX P N sd Q a u) (rY P N sd Q a u) → Q.1 < 500 → ∃ τ1, Mod krL τ τ1 ∧ l_Md_reach_121 k109 (n + 1) 81 lo hi m (nI a) u (lay τ) = l_Md_reach_121 k109 n 81 lo hi m (nI a) (u + 1) (lay τ1) ∧ RR τ1 P N sd (rNew Q (rX P N sd Q a u) (rY P N sd Q a u) a u) ∧ τ1.1 (fa 81 35) 0 = τ.1 (fa 81 35) 0) := by
  obtain ⟨g1, g2, g3, g4, g5, g6, g7, g8, g9⟩ := id h
  obtain ⟨q1, q2, q3, q4, q5⟩ := id hQ
  have hF : FitP P := hP.1.1
  have hS5 := hF.1
  obtain ⟨τ1, e1, m1, n1, s1⟩ := s_take (σ := τ) (by rw [g2]; exact g4) g5
  rw [g2] at n1
  rw [g3] at s1
  obtain ⟨x1, x2⟩ := g7 a ha
  have m2 : Mod [95] τ1 (sL (sL τ1 95 (va_up N 0 (Q.2.1 a))) 95 (va_up (va_up N 0 (Q.2.1 a)) 6 (Q.2.2.1 a))) := (Mod.L (by simp)).tr (Mod.L (by simp))
  have n2 : (sL (sL τ1 95 (va_up N 0 (Q.2.1 a))) 95 (va_up (va_up N 0 (Q.2.1 a)) 6 (Q.2.2.1 a))).2.1 95 = stN N (Q.2.1 a) (Q.2.2.1 a) := by rw [sL_same]; rfl
  have p1 : l_Md_reach_121 k109 (n + 1) 81 lo hi m (nI a) u (lay τ) = bd (m_Md_tries 81 u) (fun v7 => if v7 = 0 then (rt (-6 : Int32)) else (bd (gR 9 81 21) (fun v8 => bd (ldL v8 (0 : Int32)) (fun v9 => bd (gI 9 81 6) (fun v10 => if v10 ≤ (1 : Int32) then (m_Md_reach_198 k109 (l_Md_reach_121 k109 n) 81 lo hi m (nI a) u v9 (0 : Int64)) else (bd (gR 9 81 21) (fun v11 => bd (ldL v11 (6 : Int32)) (fun v12 => m_Md_reach_198 k109 (l_Md_reach_121 k109 n) 81 lo hi m (nI a) u v9 v12)))))))) (lay (sL (sL τ1 95 (va_up N 0 (Q.2.1 a))) 95 (va_up (va_up N 0 (Q.2.1 a)) 6 (Q.2.2.1 a)))) := by
    show b_Md_reach_121 k109 (l_Md_reach_121 k109 n) 81 lo hi m (nI a) u (lay τ) = _
    unfold b_Md_reach_121
    rw [ap_ite, if_neg hh, bd_eq e1, gr_81_21, gr_81_31, la_101 (by omega), m1.l (by decide), x1, show (0 : Int32) = nI 0 from rfl, st_95 (by omega), n1, gr_81_21, gr_81_32, la_102 (by omega), sL_ne (by decide), m1.l (by decide), x2, show (6 : Int32) = nI 6 from rfl, st_95 (by omega), sL_same]
  generalize hτ2 : sL (sL τ1 95 (va_up N 0 (Q.2.1 a))) 95 (va_up (va_up N 0 (Q.2.1 a)) 6 (Q.2.2.1 a)) = τ2 at m2 n2 p1
  have m12 : Mod [95, fa 81 22] τ τ2 := m1.tr (m2.mono (by decide))
  have t2 : RShp τ2 P := g1.mod2 m12 (by decide)
  have s2 : τ2.2.1 (fa 81 22) 0 = sd := by rw [m2.l (by decide)]; exact s1
  obtain ⟨τ3, e3, m3, n3, mk, sd3, td3⟩ := s_tries (u := u) t2 hP.1
  rw [n2, s2] at e3 n3
  rw [show pOut nR P u (stN N (Q.2.1 a) (Q.2.2.1 a)) sd = rO P N sd Q a u from rfl] at e3 n3
  have z3 : Z30 (τ3.2.1 95) := by rw [n3]; exact Z30.out hF (stN_z g4)
  have m03 : Mod rwL τ τ3 := (m12.mono (by decide)).tr m3
  have mk3 : Mod krL τ τ3 := m03.mono (by decide)
  have t3 : RShp τ3 P := t2.mod2 m3 (by decide)
  have f35 : τ3.1 (fa 81 35) 0 = τ.1 (fa 81 35) 0 := by rw [m03.i (by decide)]
  have f30 : τ3.1 (fa 81 30) 0 = nI Q.1 := by rw [m03.i (by decide)]; exact g6
  have rr3 : RR τ3 P N sd Q := by
    refine ⟨t3, ?_, ?_, g4, z3, f30, ?_, ?_, ?_⟩
    · rw [m03.l (by decide)]; exact g2
    · rw [m03.l (by decide)]; exact g3
    · rw [m03.l (by decide), m03.l (by decide)]; exact g7
    · rw [m03.i (by decide)]; exact g8
    · rw [m03.i (by decide), m03.l (by decide)]; exact g9
  have r7 : ∀ e, e < Q.1 → τ3.2.1 101 e = Q.2.1 e ∧ τ3.2.1 102 e = Q.2.2.1 e := rr3.2.2.2.2.2.2.1
  rw [bd_eq e3] at p1
  have p2 : (rO P N sd Q a u).1 = true → l_Md_reach_121 k109 (n + 1) 81 lo hi m (nI a) u (lay τ) = m_Md_reach_198 k109 (l_Md_reach_121 k109 n) 81 lo hi m (nI a) u (rX P N sd Q a u) (rY P N sd Q a u) (lay τ3) := fun ok => by
    rw [p1, ap_ite, if_neg (by rw [bi_0]; exact fun q => q ok), gr_81_21, show (0 : Int32) = nI 0 from rfl, la_95 (by omega), n3, bd_gI (ci := 9) (o := 81) (k := 6) rfl rfl (by decide), t3.2.2.2.1, ap_ite]
    unfold rY
    by_cases q : P.2.2.2.1 ≤ 1
    · rw [if_pos q, if_pos ((nl_1 (by omega)).mpr q)]
      rfl
    · rw [if_neg q, if_neg (fun w => q ((nl_1 (by omega)).mp w)), gr_81_21, show (6 : Int32) = nI 6 from rfl, la_95 (by omega), n3]
      rfl
  have p3 : (rO P N sd Q a u).1 = true → ¬ rBy P N sd m Q a u → l_Md_reach_121 k109 (n + 1) 81 lo hi m (nI a) u (lay τ) = l_Md_reach_245 k109 (l_Md_reach_121 k109 n) FU 81 lo hi m (nI a) u (rX P N sd Q a u) (rY P N sd Q a u) (nI 0) (lay τ3) := fun ok hby => by
    have hin := Classical.not_not.mp hby
    rw [p2 ok]
    unfold m_Md_reach_198
    rw [q_in, ap_ite, if_neg (by rw [bi_0]; exact fun q => q hin.1), q_in, ap_ite, if_neg (by rw [bi_0]; exact fun q => q hin.2)]
    rfl
  refine ⟨fun ho => ?_, fun ok hby d hC => ?_, fun ok hby hold => ?_, fun ok hby hold h500 => ?_, fun ok hby hold h500 => ?_⟩
  · refine ⟨τ3, mk3, z3, ?_, f35⟩
    rw [p1, ap_ite, if_pos (by rw [bi_0]; exact ho), ap_rt]
  · obtain ⟨τ4, e4, m4, t4, k4⟩ := r_tell (σ := τ3) (u := u) hC rr3.2.2.2.2.2.2.2.1 rr3.2.2.2.2.2.2.2.2 q5
    refine ⟨τ4, mk3.tr (m4.mono (by decide)), by rw [m4.l (by decide)]; exact z3, ?_, t4, k4⟩
    rw [p2 ok]
    unfold m_Md_reach_198
    rw [q_in, ap_ite]
    by_cases b1 : rIn m (rX P N sd Q a u)
    · have b2 : ¬ rIn m (rY P N sd Q a u) := fun w => hby ⟨b1, w⟩
      rw [if_neg (by rw [bi_0]; exact fun q => q b1), q_in, ap_ite, if_pos (by rw [bi_0]; exact b2), bd_eq e4]
      simp (disch := first | assumption | rfl | decide | omega) only [↓ckd_lay, ↓bd_gI, ↓bd_gL, ↓bd_pI, ↓bd_pL, ↓bd_pZ, ↓bd_now, ↓bd_next, ↓bd_ldR3, ↓bd_ldR4, ↓ap_ite, ↓ap_rt, ↓ap_lt, ↓rz_0, ↓rz_1, rz_bi, t4]
    · rw [if_pos (by rw [bi_0]; exact b1), bd_eq e4]
      simp (disch := first | assumption | rfl | decide | omega) only [↓ckd_lay, ↓bd_gI, ↓bd_gL, ↓bd_pI, ↓bd_pL, ↓bd_pZ, ↓bd_now, ↓bd_next, ↓bd_ldR3, ↓bd_ldR4, ↓ap_ite, ↓ap_rt, ↓ap_lt, ↓rz_0, ↓rz_1, rz_bi, t4]
  · obtain ⟨e, he, hx, hy⟩ := hold
    refine ⟨τ3, mk3, ?_, rr3, f35⟩
    rw [p3 ok hby]
    exact r_find1 q2 f30 r7 he ⟨hx, hy⟩ e 0 FU (by omega) (by unfold FU; omega)
  · refine ⟨τ3, mk3, z3, ?_, f35⟩
    rw [p3 ok hby, r_find0 q2 f30 r7 Q.1 0 FU (by omega) (by unfold FU; omega) (fun e' _ h2 w => hold ⟨e', h2, w.1, w.2⟩)]
    unfold m_Md_reach_286
    simp (disch := first | assumption | rfl | decide | omega) only [↓ckd_lay, ↓bd_gI, ↓bd_gL, ↓bd_pI, ↓bd_pL, ↓bd_pZ, ↓bd_now, ↓bd_next, ↓bd_ldR3, ↓bd_ldR4, ↓ap_ite, ↓ap_rt, ↓ap_lt, ↓rz_0, ↓rz_1, rz_bi, ↓gr_81_0, ↓gr_81_1, ↓gr_81_2, ↓gr_81_3, ↓gr_81_4, ↓gr_81_7, ↓gr_81_8, ↓gr_81_9, ↓gr_81_11, ↓gr_81_14, ↓gr_81_17, ↓gr_81_18, ↓gr_81_20, ↓gr_81_21, ↓gr_81_25, ↓gr_81_26, ↓gr_81_27, ↓gr_81_28, ↓gr_81_29, ↓gr_81_31, ↓gr_81_32, ↓gr_81_33, ↓gr_81_34, ↓gr_81_36, ↓gr_81_39, f30, if_true, h500, ne_500]
  · have m4 : Mod [101, 102, 103, 104, fa 81 30] τ3 (sI (sL (sI (sL (sL τ3 101 (va_up (τ3.2.1 101) Q.1 (rX P N sd Q a u))) 102 (va_up (τ3.2.1 102) Q.1 (rY P N sd Q a u))) 103 (va_up (τ3.1 103) Q.1 (nI a))) 104 (va_up (τ3.2.1 104) Q.1 u)) (fa 81 30) (fun _ => nI (Q.1 + 1))) := ((((Mod.L (by simp)).tr (Mod.L (by simp))).tr (Mod.I (by simp))).tr (Mod.L (by simp))).tr (Mod.I (by simp))
    have hne : ¬ Q.1 = 500 := by omega
    refine ⟨_, mk3.tr (m4.mono (by decide)), ?_, ⟨t3.mod2 m4 (by decide), ?_, ?_, g4, ?_, sI_row, fun e he => ?_, ?_, fun e h0 he => ?_⟩, ?_⟩
    · rw [p3 ok hby, r_find0 q2 f30 r7 Q.1 0 FU (by omega) (by unfold FU; omega) (fun e' _ h2 w => hold ⟨e', h2, w.1, w.2⟩)]
      unfold m_Md_reach_286
      simp (disch := first | assumption | rfl | decide | omega) only [↓ckd_lay, ↓bd_gI, ↓bd_gL, ↓bd_pI, ↓bd_pL, ↓bd_pZ, ↓bd_now, ↓bd_next, ↓bd_ldR3, ↓bd_ldR4, ↓ap_ite, ↓ap_rt, ↓ap_lt, ↓rz_0, ↓rz_1, rz_bi, ↓gr_81_0, ↓gr_81_1, ↓gr_81_2, ↓gr_81_3, ↓gr_81_4, ↓gr_81_7, ↓gr_81_8, ↓gr_81_9, ↓gr_81_11, ↓gr_81_14, ↓gr_81_17, ↓gr_81_18, ↓gr_81_20, ↓gr_81_21, ↓gr_81_25, ↓gr_81_26, ↓gr_81_27, ↓gr_81_28, ↓gr_81_29, ↓gr_81_31, ↓gr_81_32, ↓gr_81_33, ↓gr_81_34, ↓gr_81_36, ↓gr_81_39, f30, if_true, ne_500, hne, if_false, ↓la_101, ↓st_101, ↓la_102, ↓st_102, ↓la_103, ↓st_103, ↓la_104, ↓st_104, sL_1, sI_2, sL_ne, sI_ne, na_1]
    · rw [m4.l (by decide)]; exact rr3.2.1
    · rw [m4.l (by decide)]; exact rr3.2.2.1
    · rw [m4.l (by decide)]; exact z3
    · have he' : e < Q.1 + 1 := he
      show _ = va_up Q.2.1 Q.1 (rX P N sd Q a u) e ∧ _ = va_up Q.2.2.1 Q.1 (rY P N sd Q a u) e
      rw [sI_2, sL_ne (by decide), sI_2, sL_ne (by decide), sL_same, sL_ne (by decide), sI_2, sL_same]
      by_cases z : e = Q.1
      · rw [z, up_same, up_same, up_same, up_same]; exact ⟨rfl, rfl⟩
      · rw [up_ne z, up_ne z, up_ne z, up_ne z]; exact r7 e (by omega)
    · rw [sI_ne (by decide), sL_1, sI_same, up_ne (by omega)]; exact rr3.2.2.2.2.2.2.2.1
    · have he' : e < Q.1 + 1 := he
      show _ = nI (va_up Q.2.2.2.1 Q.1 a e) ∧ _ = va_up Q.2.2.2.2 Q.1 u e
      rw [sI_ne (by decide), sL_1, sI_same, sI_2, sL_same]
      by_cases z : e = Q.1
      · rw [z, up_same, up_same, up_same, up_same]; exact ⟨rfl, rfl⟩
      · rw [up_ne z, up_ne z, up_ne z, up_ne z]; exact rr3.2.2.2.2.2.2.2.2 e h0 (by omega)
    · rw [m4.i (by decide)]; exact f35
