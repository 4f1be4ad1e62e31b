/-! Floats and doubles cut to samples: by their parts, and by the conversion. -/
def pSize (w B e t : Nat) : Nat := if e < B then 0 else if e - B < 40 then min 1000000000000 ((2 ^ w + t) * 2 ^ (e - B) / 2 ^ w) else 1000000000000
theorem mag_ge {w B e t : Nat} (h : B ≤ e) : (2 ^ w + t) * 2 ^ ((e : Int) - B - w).toNat / 2 ^ (-((e : Int) - B - w)).toNat = (2 ^ w + t) * 2 ^ (e - B) / 2 ^ w := by
  by_cases q : w ≤ e - B
  · have e1 : ((e : Int) - B - w).toNat = e - B - w := by omega
    have e2 : (-((e : Int) - B - w)).toNat = 0 := by omega
    have e3 : 2 ^ (e - B) = 2 ^ w * 2 ^ (e - B - w) := by rw [← Nat.pow_add]; congr 1; omega
    rw [e1, e2, e3, Nat.pow_zero, Nat.div_one, Nat.mul_comm (2 ^ w) (2 ^ (e - B - w)), ← Nat.mul_assoc, Nat.mul_div_cancel _ (Nat.two_pow_pos w)]
  · have e1 : ((e : Int) - B - w).toNat = 0 := by omega
    have e2 : (-((e : Int) - B - w)).toNat = w - (e - B) := by omega
    have e3 : 2 ^ w = 2 ^ (w - (e - B)) * 2 ^ (e - B) := by rw [← Nat.pow_add]; congr 1; omega
    rw [e1, e2, Nat.pow_zero, Nat.mul_one]
    conv => rhs; rw [show ((2 ^ w + t) * 2 ^ (e - B) / 2 ^ w) = (2 ^ w + t) * 2 ^ (e - B) / (2 ^ (w - (e - B)) * 2 ^ (e - B)) by rw [← e3]]
    rw [Nat.mul_div_mul_right _ _ (Nat.two_pow_pos _)]
theorem mag_big {w d t : Nat} : 2 ^ d ≤ (2 ^ w + t) * 2 ^ d / 2 ^ w := by
  rw [Nat.le_div_iff_mul_le (Nat.two_pow_pos w), Nat.mul_comm]
  exact Nat.mul_le_mul_right _ (Nat.le_add_right _ _)
theorem mag_lt {w k c : Nat} (hc : c < 2 ^ (w + 1)) (hk : w + 1 ≤ k) : c / 2 ^ k = 0 := Nat.div_eq_of_lt (Nat.lt_of_lt_of_le hc (Nat.pow_le_pow_right (by decide) hk))
def clamp12 (z : Int) : Int := max (-1000000000000) (min 1000000000000 z)
theorem clamp_fin {s : Bool} {c : Nat} {q : Int} {m : Nat} (h : min 1000000000000 (c * 2 ^ q.toNat / 2 ^ (-q).toNat) = m) : clamp12 (FP.Core.toInt (-2 ^ 63) (2 ^ 63 - 1) (.fin s c q)) = if s = true then -(m : Int) else m := by
  show clamp12 (max (-2 ^ 63) (min (2 ^ 63 - 1) (FP.Core.signed s (c * 2 ^ q.toNat / 2 ^ (-q).toNat)))) = _
  unfold FP.Core.signed clamp12
  generalize c * 2 ^ q.toNat / 2 ^ (-q).toNat = g at h ⊢
  subst h
  cases s
  · simp
    omega
  · simp
    omega
theorem flt {f : FP.Core.Fmt} {w B n : Nat} (h1 : f.tails = 2 ^ w) (h2 : f.qmin = 1 - (B : Int) - w) (h3 : f.exps = 2 * B + 2) (hB : 40 ≤ B) (hn : n / 2 ^ w % (2 * B + 2) < 2 * B + 1 ∨ n % 2 ^ w = 0) : clamp12 (FP.Core.toInt (-2 ^ 63) (2 ^ 63 - 1) (FP.Core.decode f n)) = if FP.Core.fieldS f n = true then -(pSize w B (n / 2 ^ w % (2 * B + 2)) (n % 2 ^ w) : Int) else pSize w B (n / 2 ^ w % (2 * B + 2)) (n % 2 ^ w) := by
  have eE : FP.Core.fieldE f n = n / 2 ^ w % (2 * B + 2) := by unfold FP.Core.fieldE; rw [h1, h3]
  have eT : FP.Core.fieldT f n = n % 2 ^ w := by unfold FP.Core.fieldT; rw [h1]
  have ht : n % 2 ^ w < 2 ^ w := Nat.mod_lt _ (Nat.two_pow_pos w)
  unfold FP.Core.decode
  rw [eE, eT, h3, h1, h2]
  generalize n / 2 ^ w % (2 * B + 2) = e at *
  generalize n % 2 ^ w = t at *
  have hp : 2 ^ (w + 1) = 2 ^ w + 2 ^ w := by rw [Nat.pow_succ]; omega
  by_cases q1 : e = 2 * B + 2 - 1
  · rw [if_pos q1, if_pos (by omega)]
    have : pSize w B e t = 1000000000000 := by
      unfold pSize
      rw [if_neg (by omega), if_neg (by omega)]
    rw [this]
    unfold FP.Core.toInt clamp12
    cases FP.Core.fieldS f n <;> decide
  · rw [if_neg q1]
    by_cases q2 : e = 0
    · rw [if_pos q2]
      refine clamp_fin ?_
      have : pSize w B e t = 0 := by
        unfold pSize
        rw [if_pos (by omega)]
      rw [this, show ((1 - (B : Int) - w)).toNat = 0 by omega, show (-(1 - (B : Int) - w)).toNat = B + w - 1 by omega, Nat.pow_zero, Nat.mul_one, mag_lt (w := w) (by omega) (by omega)]
      rfl
    · rw [if_neg q2]
      refine clamp_fin ?_
      rw [show 1 - (B : Int) - w + ((e : Int) - 1) = (e : Int) - B - w by omega]
      unfold pSize
      by_cases q3 : e < B
      · rw [if_pos q3, show ((e : Int) - B - w).toNat = 0 by omega, show (-((e : Int) - B - w)).toNat = B + w - e by omega, Nat.pow_zero, Nat.mul_one, mag_lt (w := w) (by omega) (by omega)]
        rfl
      · rw [if_neg q3, mag_ge (by omega)]
        by_cases q4 : e - B < 40
        · rw [if_pos q4]
        · rw [if_neg q4]
          have := mag_big (w := w) (d := e - B) (t := t)
          have h40 : 2 ^ 40 ≤ 2 ^ (e - B) := Nat.pow_le_pow_right (by decide) (by omega)
          omega
theorem mmin_toInt {x y : Int64} : (mmin x y).toInt = min x.toInt y.toInt := by
  unfold mmin
  by_cases q : y < x
  · rw [if_pos q]; rw [Int64.lt_iff_toInt_lt] at q; omega
  · rw [if_neg q]; rw [Int64.lt_iff_toInt_lt] at q; omega
theorem mmax_toInt {x y : Int64} : (mmax x y).toInt = max x.toInt y.toInt := by
  unfold mmax
  by_cases q : y < x
  · rw [if_pos q]; rw [Int64.lt_iff_toInt_lt] at q; omega
  · rw [if_neg q]; rw [Int64.lt_iff_toInt_lt] at q; omega
theorem lN_T {n : Nat} (h : n < 2 ^ 63) : (lN n).toInt = n := pk_lT h
theorem mmin_12 {n : Nat} (h : n < 2 ^ 63) : mmin 1000000000000 (lN n) = lN (min 1000000000000 n) := by
  apply Int64.toInt_inj.mp
  rw [mmin_toInt, lN_T h, lN_T (by omega), show (1000000000000 : Int64).toInt = 1000000000000 from rfl]
  omega
theorem s_size {σ : SS} {w B e t : Nat} (hw : (w = 23 ∧ B = 127) ∨ (w = 52 ∧ B = 1023)) (he : e < 2048) (ht : t < 2 ^ w) : m_Ob_sizeOfParts (lN e) (lN t) (nI w) (nI B) (lay σ) = some (lN (pSize w B e t), lay σ) := by
  have hw2 : w ≤ 52 ∧ 23 ≤ w ∧ B ≤ 1023 := by omega
  have ht2 : t < 2 ^ 52 := Nat.lt_of_lt_of_le ht (Nat.pow_le_pow_right (by decide) hw2.1)
  have hp : 2 ^ w ≤ 2 ^ 52 := Nat.pow_le_pow_right (by decide) hw2.1
  unfold m_Ob_sizeOfParts pSize
  rw [ap_lt, lN_i32]
  by_cases q1 : e < B
  · have n1 : ¬ (0 : Int32) ≤ nI e - nI B := by
      rw [Int32.le_iff_toInt_le, show (0 : Int32).toInt = 0 from rfl, pk_sub_toInt (by omega) (by omega)]
      omega
    rw [ap_ite, if_neg n1, if_pos q1, ap_rt]
    rfl
  · have es : nI e - nI B = nI (e - B) := pk_sub (by omega)
    rw [es, ap_ite, if_pos (by rw [ln_0 (by omega)]; omega), if_neg q1, ap_ite]
    by_cases q2 : e - B < 40
    · have c40 : (nI (e - B) < 40) := by
        rw [show (40 : Int32) = nI 40 from rfl, lt_nn (by omega) (by omega)]; exact q2
      have ev : lN t ||| (1 <<< ((nI w).toInt64 &&& 63)) = lN (2 ^ w + t) := by
        have : (1 : Int64) <<< ((nI w).toInt64 &&& 63) = lN (2 ^ w) := by
          have := wb_shl 1 (k := w) (by omega)
          rw [Nat.one_mul] at this
          exact this
        rw [this, wb_or (by omega) (by omega)]
        have o := Nat.two_pow_add_eq_or_of_lt ht 1
        rw [Nat.mul_one] at o
        rw [o, Nat.or_comm]
      rw [if_pos c40, if_pos q2, ap_lt, ap_ite, ev]
      by_cases q3 : e - B < w
      · have ew : nI w - nI (e - B) = nI (w - (e - B)) := pk_sub (by omega)
        have e3 : 2 ^ w = 2 ^ (w - (e - B)) * 2 ^ (e - B) := by rw [← Nat.pow_add]; congr 1; omega
        have e4 : (2 ^ w + t) * 2 ^ (e - B) / 2 ^ w = (2 ^ w + t) / 2 ^ (w - (e - B)) := by
          rw [show (2 ^ w + t) * 2 ^ (e - B) / 2 ^ w = (2 ^ w + t) * 2 ^ (e - B) / (2 ^ (w - (e - B)) * 2 ^ (e - B)) by rw [← e3], Nat.mul_div_mul_right _ _ (Nat.two_pow_pos _)]
        have hle : (2 ^ w + t) / 2 ^ (w - (e - B)) ≤ 2 ^ w + t := Nat.div_le_self _ _
        rw [if_pos ((lt_nn (by omega) (by omega)).mpr q3), ap_lt, ew, wb_shr (by omega) (by omega), ap_rt, mmin_12 (by omega), e4]
      · have ew : nI (e - B) - nI w = nI (e - B - w) := pk_sub (by omega)
        have hw23 : w = 23 ∧ B = 127 := by omega
        obtain ⟨rfl, rfl⟩ := hw23
        have e4 : (2 ^ 23 + t) * 2 ^ (e - 127) / 2 ^ 23 = (2 ^ 23 + t) * 2 ^ (e - 127 - 23) := by
          have e3 : 2 ^ (e - 127) = 2 ^ (e - 127 - 23) * 2 ^ 23 := by rw [← Nat.pow_add, show e - 127 - 23 + 23 = e - 127 by omega]
          rw [e3, ← Nat.mul_assoc, Nat.mul_div_cancel _ (by decide)]
        have hpow : 2 ^ (e - 127 - 23) ≤ 2 ^ 16 := Nat.pow_le_pow_right (by decide) (by omega)
        have hle : (2 ^ 23 + t) * 2 ^ (e - 127 - 23) ≤ (2 ^ 24) * 2 ^ 16 := Nat.mul_le_mul (by omega) hpow
        rw [if_neg (fun z => q3 ((lt_nn (by omega) (by omega)).mp z)), ap_lt, ew, wb_shl _ (by omega), ap_rt, mmin_12 (by omega), e4]
    · have c40 : ¬ (nI (e - B) < 40) := by
        rw [show (40 : Int32) = nI 40 from rfl, lt_nn (by omega) (by omega)]; exact q2
      rw [if_neg c40, if_neg q2, ap_rt]
      rfl
theorem pSize_le {w B e t : Nat} : pSize w B e t ≤ 1000000000000 := by
  unfold pSize
  repeat' split
  all_goals omega
theorem s_cut70 {σ : SS} {l : Int64} {m : Nat} (hm : m ≤ 1000000000000) : ∃ v, m_Ob_cutToSample_70 l (lN m) (lay σ) = some (v, lay σ) ∧ v.toInt = if 0 ≤ l.toInt then (m : Int) else -m := by
  unfold m_Ob_cutToSample_70
  rw [ap_ite]
  have a : (0 ≤ l) ↔ 0 ≤ l.toInt := by rw [Int64.le_iff_toInt_le, show (0 : Int64).toInt = 0 from rfl]
  by_cases q : 0 ≤ l.toInt
  · exact ⟨lN m, by rw [if_pos (a.mpr q), ap_rt], by rw [if_pos q, lN_T (by omega)]⟩
  · exact ⟨-(lN m), by rw [if_neg (fun w => q (a.mp w)), ap_rt], by rw [if_neg q, toInt_neg64 (by rw [lN_T (by omega)]; omega), lN_T (by omega)]⟩
theorem s_sampleOf99 {σ : SS} {l : Int64} : ∃ v, m_Md_sampleOf_99 l (lay σ) = some (v, lay σ) ∧ v.toInt = clamp12 l.toInt := by
  unfold m_Md_sampleOf_99 clamp12
  rw [ap_ite, ap_ite]
  have a1 : (l ≤ 1000000000000) ↔ l.toInt ≤ 1000000000000 := by rw [Int64.le_iff_toInt_le, show (1000000000000 : Int64).toInt = 1000000000000 from rfl]
  have a2 : ((-1000000000000 : Int64) ≤ l) ↔ -1000000000000 ≤ l.toInt := by rw [Int64.le_iff_toInt_le, show (-1000000000000 : Int64).toInt = -1000000000000 from rfl]
  by_cases q1 : l.toInt ≤ 1000000000000
  · by_cases q2 : -1000000000000 ≤ l.toInt
    · exact ⟨l, by rw [if_pos (a1.mpr q1), if_pos (a2.mpr q2), ap_rt], by omega⟩
    · exact ⟨-1000000000000, by rw [if_pos (a1.mpr q1), if_neg (fun w => q2 (a2.mp w)), ap_rt], by rw [show (-1000000000000 : Int64).toInt = -1000000000000 from rfl]; omega⟩
  · exact ⟨1000000000000, by rw [if_neg (fun w => q1 (a1.mp w)), ap_rt], by rw [show (1000000000000 : Int64).toInt = 1000000000000 from rfl]; omega⟩
theorem toL_T (d : FP.Core.Datum) : (FP.Core.toL d).toInt = FP.Core.toInt (-2 ^ 63) (2 ^ 63 - 1) d := by
  have b : -2 ^ 63 ≤ FP.Core.toInt (-2 ^ 63) (2 ^ 63 - 1) d ∧ FP.Core.toInt (-2 ^ 63) (2 ^ 63 - 1) d ≤ 2 ^ 63 - 1 := by
    unfold FP.Core.toInt
    cases d with
    | nan => decide
    | inf s => cases s <;> decide
    | fin s c q => simp only; omega
  unfold FP.Core.toL
  rw [Int64.toInt_ofInt, show Int64.size = 18446744073709551616 from rfl, Int.bmod_eq_of_le] <;> omega
theorem lN_sgn {n : Nat} (h : n < 2 ^ 64) : (0 ≤ (lN n).toInt) ↔ n < 2 ^ 63 := by
  have e : (lN n).toInt = (lN n).toBitVec.toInt := rfl
  rw [e, BitVec.toInt_eq_toNat_cond, wb_tn h]
  split <;> omega
/-- double bits, no NaN: the class's way and the conversion tell the same -/
theorem cut5 {l : Int64} (h : (l &&& 9223372036854775807) ≤ 9218868437227405312) : ∃ v, smp v ∧ (∀ σ : SS, m_Ob_cutToSample 5 l (lay σ) = some (v, lay σ)) ∧ ∀ τ : SS, m_Md_sampleOf_99 (FP.d2l l.toUInt64) (lay τ) = some (v, lay τ) := by
  obtain ⟨n, hn, rfl⟩ := wb_of l
  have em : lN n &&& 9223372036854775807 = lN (n % 2 ^ 63) := wb_mask (k := 63) hn (by decide)
  have hm63 : n % 2 ^ 63 < 2 ^ 63 := Nat.mod_lt _ (by decide)
  rw [em, Int64.le_iff_toInt_le, lN_T hm63, show (9218868437227405312 : Int64).toInt = 9218868437227405312 from rfl] at h
  have e1 : ((lN n).toUInt64 >>> ((52 : Int32).toInt64.toUInt64 &&& Int64.toUInt64 63)).toInt64 &&& 2047 = lN (n / 2 ^ 52 % 2048) := by
    rw [show (52 : Int32) = nI 52 from rfl, wb_shr hn (by decide)]
    exact wb_mask (k := 11) (by omega) (by decide)
  have e2 : lN n &&& 4503599627370495 = lN (n % 2 ^ 52) := wb_mask (k := 52) hn (by decide)
  have hs := fun σ : SS => s_size (σ := σ) (w := 52) (B := 1023) (e := n / 2 ^ 52 % 2048) (t := n % 2 ^ 52) (Or.inr ⟨rfl, rfl⟩) (by omega) (Nat.mod_lt _ (by decide))
  obtain ⟨v, c1, c2⟩ := s_cut70 (σ := (fun _ _ => 0, fun _ _ => 0, 0, 0)) (l := lN n) (m := pSize 52 1023 (n / 2 ^ 52 % 2048) (n % 2 ^ 52)) pSize_le
  have hv : ∀ σ : SS, m_Ob_cutToSample_70 (lN n) (lN (pSize 52 1023 (n / 2 ^ 52 % 2048) (n % 2 ^ 52))) (lay σ) = some (v, lay σ) := fun σ => by
    obtain ⟨v', d1, d2⟩ := s_cut70 (σ := σ) (l := lN n) (m := pSize 52 1023 (n / 2 ^ 52 % 2048) (n % 2 ^ 52)) pSize_le
    have : v' = v := Int64.toInt_inj.mp (d2.trans c2.symm)
    rw [d1, this]
  have ple := pSize_le (w := 52) (B := 1023) (e := n / 2 ^ 52 % 2048) (t := n % 2 ^ 52)
  refine ⟨v, ?_, fun σ => ?_, fun τ => ?_⟩
  · unfold smp
    rw [c2]
    split <;> omega
  · unfold m_Ob_cutToSample
    rw [ap_ite, if_pos (by decide), ap_ite, if_neg (by decide), e1, e2]
    rw [show (52 : Int32) = nI 52 from rfl, show (1023 : Int32) = nI 1023 from rfl, bd_eq (hs σ)]
    exact hv σ
  · obtain ⟨v', d1, d2⟩ := s_sampleOf99 (σ := τ) (l := FP.d2l (lN n).toUInt64)
    have en : (lN n).toUInt64.toNat = n := by
      show (lN n).toBitVec.toNat = n
      exact wb_tn hn
    have ef := flt (f := FP.Core.b64) (w := 52) (B := 1023) (n := n) rfl (by decide) rfl (by decide) (by omega)
    have esg : FP.Core.fieldS FP.Core.b64 n = decide (2 ^ 63 ≤ n) := by
      show (n / 2 ^ 52 / 2 ^ 11 % 2 == 1) = _
      by_cases q : 2 ^ 63 ≤ n
      · have : n / 2 ^ 52 / 2 ^ 11 % 2 = 1 := by omega
        simp [this, q]
      · have : n / 2 ^ 52 / 2 ^ 11 % 2 = 0 := by omega
        simp [this, q]
    have : v' = v := by
      apply Int64.toInt_inj.mp
      rw [d2, c2]
      show clamp12 (FP.Core.toL (FP.Core.decode FP.Core.b64 (lN n).toUInt64.toNat)).toInt = _
      rw [toL_T, en, ef, esg]
      by_cases q : n < 2 ^ 63
      · rw [if_pos ((lN_sgn hn).mpr q), if_neg (by simp; omega)]
      · rw [if_neg (fun w => q ((lN_sgn hn).mp w)), if_pos (by simp; omega)]
    rw [d1, this]
