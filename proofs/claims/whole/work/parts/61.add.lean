/-! Seen: a new one kept. -/
theorem cell_lt {e c w i : Nat} (he : e < c) (hi : i < w) : e * w + i < c * w := by
  have : (e + 1) * w ≤ c * w := Nat.mul_le_mul_right _ he
  rw [Nat.add_mul, Nat.one_mul] at this
  omega
theorem s_add {σ : SS} {w c : Nat} (ok : SeenOk σ w c) (fr : Fresh σ w c) (hw : w ≤ 11) (h4 : σ.1 (fa 23 4) 0 = nI w) (hc : c + 1 ≤ 500) (hcw : (c + 1) * w ≤ 4400) : ∃ τ, m_Sn_addAsked 23 (lay σ) = some ((), lay τ) ∧ Mod [24, 25, fa 23 5] σ τ ∧ SeenOk τ w (c + 1) ∧ (∀ e, e < c → ∀ i, i < w → τ.2.1 24 (e * w + i) = σ.2.1 24 (e * w + i)) ∧ ∀ i, i < w → τ.2.1 24 (c * w + i) = σ.2.1 26 i := by
  obtain ⟨o1, o2, o3, tb, t1, t2, t3, t4⟩ := ok
  obtain ⟨⟨d, d1, d2, d3, d4⟩, f2⟩ := fr
  have hs : (hsh w (σ.2.1 26) + d) % 1024 < 1024 := Nat.mod_lt _ (by decide)
  have hcw2 : c * w + w ≤ 4400 := by rw [Nat.add_mul, Nat.one_mul] at hcw; exact hcw
  have m32 : ∀ q : Nat, q % 1024 < 1024 := fun q => Nat.mod_lt _ (by decide)
  generalize hsl : (hsh w (σ.2.1 26) + d) % 1024 = sl at *
  have tsl : tb sl = 0 := by
    have a1 := (t1 sl hs).1
    have a2 := (t1 sl hs).2
    rw [d3] at a1
    have : nI (tb sl) = 0 := a1.symm
    rw [ne_0 (by omega)] at this
    exact this
  have mm : Mod [24, 25, fa 23 5] σ (sI (sI (sL σ 24 (va_cpy (σ.2.1 26) (σ.2.1 24) 0 (c * w) w)) (fa 23 5) (fun _ => nI (c + 1))) 25 (va_up (σ.1 25) sl (nI (c + 1)))) := ((Mod.L (by simp)).tr (Mod.I (by simp))).tr (Mod.I (by simp))
  have r24 : (sI (sI (sL σ 24 (va_cpy (σ.2.1 26) (σ.2.1 24) 0 (c * w) w)) (fa 23 5) (fun _ => nI (c + 1))) 25 (va_up (σ.1 25) sl (nI (c + 1)))).2.1 24 = va_cpy (σ.2.1 26) (σ.2.1 24) 0 (c * w) w := by rw [sI_2, sI_2, sL_same]
  have old : ∀ e, e < c → ∀ i, i < w → va_cpy (σ.2.1 26) (σ.2.1 24) 0 (c * w) w (e * w + i) = σ.2.1 24 (e * w + i) := fun e he i hi => by
    have := cell_lt he hi
    unfold va_cpy
    rw [if_neg (by omega)]
  have new : ∀ i, i < w → va_cpy (σ.2.1 26) (σ.2.1 24) 0 (c * w) w (c * w + i) = σ.2.1 26 i := fun i hi => by
    unfold va_cpy
    rw [if_pos (by omega), show 0 + (c * w + i - c * w) = i by omega]
  refine ⟨_, ?_, mm, ?_, fun e he i hi => by rw [r24]; exact old e he i hi, fun i hi => by rw [r24]; exact new i hi⟩
  · unfold m_Sn_addAsked
    have hnb : ¬ nI 4400 < nI ((c + 1) * w) := fun q => by
      rw [lt_nn (by omega) (by omega)] at q
      omega
    simp (disch := first | assumption | rfl | decide | omega) only [↓ckd_lay, ↓bd_gI, ↓bd_gL, ↓bd_pI, ↓bd_pL, ↓bd_pZ, ↓bd_now, ↓bd_next, ↓bd_ldR3, ↓bd_ldR4, ↓ap_ite, ↓ap_rt, ↓ap_lt, ↓rz_0, ↓rz_1, rz_bi, ↓gr_1_0, ↓gr_1_1, ↓gr_1_2, ↓gr_1_3, ↓gr_1_4, ↓gr_1_5, ↓gr_1_6, ↓gr_15_0, ↓gr_15_1, ↓gr_15_2, ↓gr_15_3, ↓gr_20_0, ↓gr_20_1, ↓gr_23_0, ↓gr_23_1, ↓gr_23_2, ↓gr_27_0, ↓gr_27_1, ↓gr_27_2, ↓gr_29_0, ↓gr_29_1, ↓gr_29_2, ↓gr_29_3, ↓gr_29_4, ↓gr_33_0, ↓gr_33_1, ↓gr_now, ↓gr_next, o1, h4]
    rw [bd_alen1 (o := 24) rfl, show ln 24 = 4400 from rfl, na_1, pk_mul, ap_ite, if_neg hnb]
    simp (disch := first | assumption | rfl | decide | omega) only [↓ckd_lay, ↓bd_gI, ↓bd_gL, ↓bd_pI, ↓bd_pL, ↓bd_pZ, ↓bd_now, ↓bd_next, ↓bd_ldR3, ↓bd_ldR4, ↓ap_ite, ↓ap_rt, ↓ap_lt, ↓rz_0, ↓rz_1, rz_bi, ↓gr_1_0, ↓gr_1_1, ↓gr_1_2, ↓gr_1_3, ↓gr_1_4, ↓gr_1_5, ↓gr_1_6, ↓gr_15_0, ↓gr_15_1, ↓gr_15_2, ↓gr_15_3, ↓gr_20_0, ↓gr_20_1, ↓gr_23_0, ↓gr_23_1, ↓gr_23_2, ↓gr_27_0, ↓gr_27_1, ↓gr_27_2, ↓gr_29_0, ↓gr_29_1, ↓gr_29_2, ↓gr_29_3, ↓gr_29_4, ↓gr_33_0, ↓gr_33_1, ↓gr_now, ↓gr_next, o1, h4, pk_mul]
    rw [show (0 : Int32) = nI 0 from rfl, bd_acp (o := 26) (q := 24) rfl rfl (show 0 + w ≤ 11 by omega) (show c * w + w ≤ 4400 from hcw2)]
    simp (disch := first | assumption | rfl | decide | omega) only [↓ckd_lay, ↓bd_gI, ↓bd_gL, ↓bd_pI, ↓bd_pL, ↓bd_pZ, ↓bd_now, ↓bd_next, ↓bd_ldR3, ↓bd_ldR4, ↓ap_ite, ↓ap_rt, ↓ap_lt, ↓rz_0, ↓rz_1, rz_bi, ↓gr_1_0, ↓gr_1_1, ↓gr_1_2, ↓gr_1_3, ↓gr_1_4, ↓gr_1_5, ↓gr_1_6, ↓gr_15_0, ↓gr_15_1, ↓gr_15_2, ↓gr_15_3, ↓gr_20_0, ↓gr_20_1, ↓gr_23_0, ↓gr_23_1, ↓gr_23_2, ↓gr_27_0, ↓gr_27_1, ↓gr_27_2, ↓gr_29_0, ↓gr_29_1, ↓gr_29_2, ↓gr_29_3, ↓gr_29_4, ↓gr_33_0, ↓gr_33_1, ↓gr_now, ↓gr_next, sL_1, o1, na_1, sI_row, sI_ne, d2, ↓la_25, ↓st_25]
  · unfold SeenOk
    rw [r24]
    refine ⟨by rw [sI_ne (by decide)]; exact sI_row, hc, hcw, va_up tb sl (c + 1), fun s hs2 => ?_, fun s s' q1 q2 e1 e2 => ?_, fun e he => ?_, fun e e' he he' hm => ?_⟩
    · rw [sI_same]
      by_cases q : s = sl
      · rw [q, up_same, up_same]; exact ⟨rfl, Nat.le_refl _⟩
      · rw [up_ne q, up_ne q]
        have := t1 s hs2
        exact ⟨this.1, by omega⟩
    · by_cases z1 : s = sl
      · by_cases z2 : s' = sl
        · rw [z1, z2]
        · rw [z1, up_same, up_ne z2] at e1
          have := (t1 s' q2).2
          omega
      · by_cases z2 : s' = sl
        · rw [z2, up_same, up_ne z1] at e1
          have := (t1 s q1).2
          omega
        · rw [up_ne z1] at e1 e2
          rw [up_ne z2] at e1
          exact t2 s s' q1 q2 e1 e2
    · by_cases z : e = c
      · subst z
        rw [hsh_congr (w := w) (g := σ.2.1 26) (fun i hi => new i hi)]
        refine ⟨d, d1, by rw [hsl, up_same], fun d' hd' => ?_⟩
        by_cases z2 : (hsh w (σ.2.1 26) + d') % 1024 = sl
        · rw [z2, up_same]; omega
        · rw [up_ne z2]
          intro q
          have a := d4 d' hd'
          rw [(t1 _ (m32 _)).1, q] at a
          exact a rfl
      · obtain ⟨de, v1, v2, v3⟩ := t3 e (by omega)
        rw [hsh_congr (w := w) (g := fun i => σ.2.1 24 (e * w + i)) (fun i hi => old e (by omega) i hi)]
        refine ⟨de, v1, ?_, fun d' hd' => ?_⟩
        · rw [up_ne (fun q => by rw [q, tsl] at v2; omega)]
          exact v2
        · by_cases z2 : (hsh w (fun i => σ.2.1 24 (e * w + i)) + d') % 1024 = sl
          · rw [z2, up_same]; omega
          · rw [up_ne z2]; exact v3 d' hd'
    · by_cases z : e = c
      · by_cases z' : e' = c
        · rw [z, z']
        · exfalso
          refine f2 e' (by omega) (fun i hi => ?_)
          have := hm i hi
          rw [z, new i hi, old e' (by omega) i hi] at this
          exact this.symm
      · by_cases z' : e' = c
        · exfalso
          refine f2 e (by omega) (fun i hi => ?_)
          have := hm i hi
          rw [z', new i hi, old e (by omega) i hi] at this
          exact this
        · exact t4 e e' (by omega) (by omega) (fun i hi => by
            have := hm i hi
            rw [old e (by omega) i hi, old e' (by omega) i hi] at this
            exact this)
