/-! Seen: a table of stands by their hash. -/
def hStep (x y : Int64) : Int64 := ((x ^^^ y) * (-7046029254386353131)) ^^^ ((((x ^^^ y) * (-7046029254386353131)).toUInt64 >>> ((32 : Int32).toInt64.toUInt64 &&& Int64.toUInt64 63)).toInt64)
def hGoS (st : Int64 → Int64 → Int64) (f : Nat → Int64) : Nat → Nat → Int64 → Int64
  | 0, _, x => x
  | r + 1, k, x => hGoS st f r (k + 1) (st x (f k))
theorem hGoS_0 {st : Int64 → Int64 → Int64} {f : Nat → Int64} {k : Nat} {x : Int64} : hGoS st f 0 k x = x := rfl
theorem hGoS_s {st : Int64 → Int64 → Int64} {f : Nat → Int64} {r k : Nat} {x : Int64} : hGoS st f (r + 1) k x = hGoS st f r (k + 1) (st x (f k)) := rfl
theorem hGoS_congr {st : Int64 → Int64 → Int64} {f g : Nat → Int64} (r : Nat) : ∀ (k : Nat) (x : Int64), (∀ i, i < k + r → f i = g i) → hGoS st f r k x = hGoS st g r k x := by
  induction r with
  | zero => intro k x h; rw [hGoS_0, hGoS_0]
  | succ r ih => intro k x h; rw [hGoS_s, hGoS_s, h k (by omega), ih (k + 1) _ (fun i hi => h i (by omega))]
def hsh (w : Nat) (f : Nat → Int64) : Nat := (hGoS hStep f w 0 0).toBitVec.toNat % 1024
theorem hsh_lt {w : Nat} {f : Nat → Int64} : hsh w f < 1024 := Nat.mod_lt _ (by decide)
theorem hsh_congr {w : Nat} {f g : Nat → Int64} (h : ∀ i, i < w → f i = g i) : hsh w f = hsh w g := by
  unfold hsh
  rw [hGoS_congr w 0 0 (fun i hi => h i (by omega))]
theorem h1023 (x : Int64) : (x &&& 1023).toInt32 = nI (x.toBitVec.toNat % 1024) := by
  obtain ⟨m, hm, rfl⟩ := wb_of x
  have e : lN m &&& 1023 = lN (m % 1024) := wb_mask (k := 10) hm (by decide)
  rw [e, lN_i32, wb_tn hm]
theorem b_hash0 {σ : SS} {w k : Nat} {x : Int64} {k4 : Nat → Int64 → Int32 → M Int32} (hw : w ≤ 11) (hk : k ≤ 11) (h4 : σ.1 (fa 23 4) 0 = nI w) (hq : w ≤ k) : b_Sn_hashOfAsked_4 k4 23 x (nI k) (lay σ) = some ((x &&& 1023).toInt32, lay σ) := by
  unfold b_Sn_hashOfAsked_4
  simp (disch := first | assumption | rfl | decide | omega) only [↓ckd_lay, ↓bd_gI, ↓bd_gL, ↓bd_pI, ↓bd_pL, ↓bd_pZ, ↓bd_now, ↓bd_next, ↓bd_ldR3, ↓bd_ldR4, ↓ap_ite, ↓ap_rt, ↓ap_lt, ↓rz_0, ↓rz_1, rz_bi, ↓gr_1_0, ↓gr_1_1, ↓gr_1_2, ↓gr_1_3, ↓gr_1_4, ↓gr_1_5, ↓gr_1_6, ↓gr_15_0, ↓gr_15_1, ↓gr_15_2, ↓gr_15_3, ↓gr_20_0, ↓gr_20_1, ↓gr_23_0, ↓gr_23_1, ↓gr_23_2, ↓gr_27_0, ↓gr_27_1, ↓gr_27_2, ↓gr_29_0, ↓gr_29_1, ↓gr_29_2, ↓gr_29_3, ↓gr_29_4, ↓gr_33_0, ↓gr_33_1, ↓gr_now, ↓gr_next, h4, le_nn, hq, if_true]
theorem b_hash1 {σ : SS} {w k : Nat} {x : Int64} {k4 : Nat → Int64 → Int32 → M Int32} (hw : w ≤ 11) (h4 : σ.1 (fa 23 4) 0 = nI w) (hq : ¬ w ≤ k) : b_Sn_hashOfAsked_4 k4 23 x (nI k) (lay σ) = k4 23 (hStep x (σ.2.1 26 k)) (nI (k + 1)) (lay σ) := by
  unfold b_Sn_hashOfAsked_4
  simp (disch := first | assumption | rfl | decide | omega) only [↓ckd_lay, ↓bd_gI, ↓bd_gL, ↓bd_pI, ↓bd_pL, ↓bd_pZ, ↓bd_now, ↓bd_next, ↓bd_ldR3, ↓bd_ldR4, ↓ap_ite, ↓ap_rt, ↓ap_lt, ↓rz_0, ↓rz_1, rz_bi, ↓gr_1_0, ↓gr_1_1, ↓gr_1_2, ↓gr_1_3, ↓gr_1_4, ↓gr_1_5, ↓gr_1_6, ↓gr_15_0, ↓gr_15_1, ↓gr_15_2, ↓gr_15_3, ↓gr_20_0, ↓gr_20_1, ↓gr_23_0, ↓gr_23_1, ↓gr_23_2, ↓gr_27_0, ↓gr_27_1, ↓gr_27_2, ↓gr_29_0, ↓gr_29_1, ↓gr_29_2, ↓gr_29_3, ↓gr_29_4, ↓gr_33_0, ↓gr_33_1, ↓gr_now, ↓gr_next, h4, le_nn, hq, if_false, ↓la_26, ↓st_26, na_1, hStep]
theorem s_hashGo {σ : SS} {w : Nat} (hw : w ≤ 11) (h4 : σ.1 (fa 23 4) 0 = nI w) (r : Nat) : ∀ (k n : Nat) (x : Int64), k + r = w → r < n → l_Sn_hashOfAsked_4 n 23 x (nI k) (lay σ) = some (nI ((hGoS hStep (σ.2.1 26) r k x).toBitVec.toNat % 1024), lay σ) := by
  induction r with
  | zero =>
    intro k n x h hn
    obtain ⟨n, rfl⟩ : ∃ m, n = m + 1 := ⟨n - 1, by omega⟩
    rw [show l_Sn_hashOfAsked_4 (n + 1) 23 x (nI k) (lay σ) = b_Sn_hashOfAsked_4 (l_Sn_hashOfAsked_4 n) 23 x (nI k) (lay σ) from rfl, b_hash0 hw (by omega) h4 (by omega), hGoS_0, h1023]
  | succ r ih =>
    intro k n x h hn
    obtain ⟨n, rfl⟩ : ∃ m, n = m + 1 := ⟨n - 1, by omega⟩
    rw [show l_Sn_hashOfAsked_4 (n + 1) 23 x (nI k) (lay σ) = b_Sn_hashOfAsked_4 (l_Sn_hashOfAsked_4 n) 23 x (nI k) (lay σ) from rfl, b_hash1 hw h4 (by omega), hGoS_s, ih (k + 1) n _ (by omega) (by omega)]
