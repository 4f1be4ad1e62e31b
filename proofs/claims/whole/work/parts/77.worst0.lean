/-! worst: bits, rows as numbers. -/
theorem mabs_eq (x : Int64) : mabs x = if 0 ≤ x then x else -x := by
  unfold mabs
  by_cases h : 0 < x
  · rw [if_pos h, if_pos (Int64.le_of_lt h)]
  · rw [if_neg h]
    by_cases h0 : 0 ≤ x
    · rw [if_pos h0]
      have : x = 0 := Int64.le_antisymm (by rw [← Int64.not_lt]; exact h) h0
      rw [this]
      rfl
    · rw [if_neg h0]
theorem wa_31 : ∀ j, j < 16 → nI j &&& 31 = nI j := by decide +kernel
theorem wa_sm : ∀ j, j < 16 → (BitVec.ofNat 32 j).smod 32 = BitVec.ofNat 32 j := by decide +kernel
theorem wa_shr {k j : Nat} (hk : k < 65536) (hj : j < 16) : nI k >>> (nI j &&& 31) = nI (k >>> j) := by
  rw [wa_31 j hj]
  apply Int32.toBitVec_inj.1
  rw [Int32.toBitVec_shiftRight]
  show (BitVec.ofNat 32 k).sshiftRight' ((BitVec.ofNat 32 j).smod 32) = BitVec.ofNat 32 (k >>> j)
  rw [wa_sm j hj]
  unfold BitVec.sshiftRight'
  rw [BitVec.toNat_ofNat, Nat.mod_eq_of_lt (show j < 2 ^ 32 by omega)]
  have hm : (BitVec.ofNat 32 k).msb = false := by
    rw [BitVec.msb_eq_false_iff_two_mul_lt, BitVec.toNat_ofNat, Nat.mod_eq_of_lt (show k < 2 ^ 32 by omega)]
    omega
  rw [BitVec.sshiftRight_eq_of_msb_false hm]
  apply BitVec.eq_of_toNat_eq
  have hs : k >>> j ≤ k := by
    rw [Nat.shiftRight_eq_div_pow]
    exact Nat.div_le_self _ _
  rw [BitVec.toNat_ushiftRight, BitVec.toNat_ofNat, BitVec.toNat_ofNat, Nat.mod_eq_of_lt (show k < 2 ^ 32 by omega), Nat.mod_eq_of_lt (show k >>> j < 2 ^ 32 by omega)]
theorem wa_bit {k n d : Nat} (hk : k < 4096) (hd : d < n) (hn : n ≤ 12) : ((nI k >>> (((nI n - 1) - nI d) &&& 31)) &&& 1) = 0 ↔ ¬ wbit k n d = true := by
  rw [ns_1 _ (by omega), pk_sub (by omega), wa_shr (by omega) (by omega)]
  show nI (k >>> (n - 1 - d)) &&& nI 1 = 0 ↔ _
  unfold wbit
  have hz : k >>> (n - 1 - d) % 2 < 2 := Nat.mod_lt _ (by decide)
  rw [nx_and, Nat.and_one_is_mod, ← nI_0, nI_eq (by omega) (by omega), Nat.testBit_eq_decide_div_mod_eq, Nat.shiftRight_eq_div_pow, decide_eq_true_eq]
  rw [Nat.shiftRight_eq_div_pow] at hz
  generalize k / 2 ^ (n - 1 - d) = z at *
  omega
theorem wa_pow : ∀ n, n < 13 → (1 : Int32) <<< (nI n &&& 31) = nI (2 ^ n) := by decide +kernel
/-! how many noughts a number ends in -/
def tzF : Nat → Nat → Nat
  | 0, _ => 0
  | f + 1, k => if k % 2 = 1 then 0 else 1 + tzF f (k / 2)
def tz62 (i0 i1 : Int32) : Int32 := if i0 ≤ (4 : Int32) then (i1 + ((i0.toUInt32 >>> ((1 : Int32).toUInt32 &&& Int32.toUInt32 31)).toInt32)) else ((i1 + 2) + ((((i0.toUInt32 >>> ((2 : Int32).toUInt32 &&& Int32.toUInt32 31)).toInt32).toUInt32 >>> ((1 : Int32).toUInt32 &&& Int32.toUInt32 31)).toInt32))
def tz49 (i0 i1 : Int32) : Int32 := if i0 ≤ (16 : Int32) then tz62 i0 i1 else tz62 ((i0.toUInt32 >>> ((4 : Int32).toUInt32 &&& Int32.toUInt32 31)).toInt32) (i1 + 4)
def tz34 (i0 i1 : Int32) : Int32 := if i0 ≤ (256 : Int32) then tz49 i0 i1 else tz49 ((i0.toUInt32 >>> ((8 : Int32).toUInt32 &&& Int32.toUInt32 31)).toInt32) (i1 + 8)
def tzI (i0 : Int32) : Int32 := if 0 < ((i0 ^^^ (-1 : Int32)) &&& (i0 - (1 : Int32))) then (if ((i0 ^^^ (-1 : Int32)) &&& (i0 - (1 : Int32))) ≤ (65536 : Int32) then tz34 ((i0 ^^^ (-1 : Int32)) &&& (i0 - (1 : Int32))) 1 else tz34 ((((i0 ^^^ (-1 : Int32)) &&& (i0 - (1 : Int32))).toUInt32 >>> ((16 : Int32).toUInt32 &&& Int32.toUInt32 31)).toInt32) (1 + 16)) else ((i0 ^^^ (-1 : Int32)) &&& (i0 - (1 : Int32))) &&& 32
theorem s_tz {x : Int32} {h : AH} : m_J6_numberOfTrailingZeros_0f7a4 x h = some (tzI x, h) := by
  have a1 : ∀ (p q : Int32), m_J6_numberOfTrailingZeros_0f7a4_62 p q h = some (tz62 p q, h) := fun p q => by
    unfold m_J6_numberOfTrailingZeros_0f7a4_62 tz62
    rw [ap_ite, ap_rt, ap_lt, ap_rt]
    split <;> rfl
  have a2 : ∀ (p q : Int32), m_J6_numberOfTrailingZeros_0f7a4_49 p q h = some (tz49 p q, h) := fun p q => by
    unfold m_J6_numberOfTrailingZeros_0f7a4_49 tz49
    rw [ap_ite, ap_lt, a1, a1]
    split <;> rfl
  have a3 : ∀ (p q : Int32), m_J6_numberOfTrailingZeros_0f7a4_34 p q h = some (tz34 p q, h) := fun p q => by
    unfold m_J6_numberOfTrailingZeros_0f7a4_34 tz34
    rw [ap_ite, ap_lt, a2, a2]
    split <;> rfl
  unfold m_J6_numberOfTrailingZeros_0f7a4 tzI
  rw [ap_lt, ap_ite, ap_ite, ap_lt, a3, a3, ap_rt]
  split
  · split <;> rfl
  · rfl
theorem tz_tab : ∀ a, a < 64 → ∀ b, b < 64 → 0 < 64 * a + b → tzI (nI (64 * a + b)) = nI (tzF 12 (64 * a + b)) ∧ 2 ^ (tzF 12 (64 * a + b)) ≤ 64 * a + b ∧ (64 * a + b) / 2 ^ (tzF 12 (64 * a + b) + 1) = (64 * a + b - 1) / 2 ^ (tzF 12 (64 * a + b) + 1) := by decide +kernel
theorem tz_all {k : Nat} (h0 : 0 < k) (hk : k < 4096) : tzI (nI k) = nI (tzF 12 k) ∧ 2 ^ (tzF 12 k) ≤ k ∧ k / 2 ^ (tzF 12 k + 1) = (k - 1) / 2 ^ (tzF 12 k + 1) := by
  have := tz_tab (k / 64) (by omega) (k % 64) (by omega) (by omega)
  rw [show 64 * (k / 64) + k % 64 = k by omega] at this
  exact this
theorem tz_bit {k n d : Nat} (h0 : 0 < k) (hk : k < 4096) (hn : n ≤ 12) (hd : d < n - 1 - tzF 12 k) : wbit k n d = wbit (k - 1) n d := by
  obtain ⟨-, -, e⟩ := tz_all h0 hk
  unfold wbit
  rw [Nat.testBit_eq_decide_div_mod_eq, Nat.testBit_eq_decide_div_mod_eq]
  have : 2 ^ (n - 1 - d) = 2 ^ (tzF 12 k + 1) * 2 ^ (n - 1 - d - (tzF 12 k + 1)) := wb_pw (by omega)
  rw [this, ← Nat.div_div_eq_div_mul, ← Nat.div_div_eq_div_mul, e]
theorem tz_lt {k n : Nat} (h0 : 0 < k) (hk : k < 2 ^ n) (hn : n ≤ 12) : tzF 12 k < n := by
  have h12 : k < 4096 := Nat.lt_of_lt_of_le hk (Nat.pow_le_pow_right (by decide) hn)
  obtain ⟨-, e, -⟩ := tz_all h0 h12
  exact (Nat.pow_lt_pow_iff_right (by decide)).mp (Nat.lt_of_le_of_lt e hk)
/-! the rows -/
def wU (n : Nat) (lo hi : Int64) (k d : Nat) : Int64 := if wbit k n d = true then hi else lo
def wN (P : SH) (n : Nat) (lo hi fs : Int64) (k : Nat) : Nat → Nat → Int64
  | 0 => fun _ => 0
  | d + 1 => (pOut nR P (wU n lo hi k d) (wN P n lo hi fs k d) fs).2.1
def wO (P : SH) (n : Nat) (lo hi fs : Int64) (k d : Nat) : Bool := (pOut nR P (wU n lo hi k d) (wN P n lo hi fs k d) fs).1
def okF (P : SH) (n : Nat) (lo hi fs : Int64) (k : Nat) : Nat → Nat → Bool
  | 0, _ => true
  | r + 1, d => if wO P n lo hi fs k d = true then okF P n lo hi fs k r (d + 1) else false
section Rows
variable {P : SH} {n : Nat} {lo hi fs : Int64} {k k' : Nat}
theorem wN_s {d : Nat} : wN P n lo hi fs k (d + 1) = (pOut nR P (wU n lo hi k d) (wN P n lo hi fs k d) fs).2.1 := rfl
theorem wN_congr : ∀ d, (∀ i, i < d → wbit k n i = wbit k' n i) → wN P n lo hi fs k d = wN P n lo hi fs k' d
  | 0, _ => rfl
  | d + 1, h => by
    rw [wN_s, wN_s, wN_congr d (fun i hi => h i (by omega))]
    unfold wU
    rw [h d (by omega)]
theorem okF_iff : ∀ r d, okF P n lo hi fs k r d = true ↔ ∀ i, d ≤ i → i < d + r → wO P n lo hi fs k i = true
  | 0, d => ⟨fun _ i h1 h2 => by omega, fun _ => rfl⟩
  | r + 1, d => by
    unfold okF
    by_cases q : wO P n lo hi fs k d = true
    · rw [if_pos q, okF_iff r (d + 1)]
      refine ⟨fun h i h1 h2 => ?_, fun h i h1 h2 => h i (by omega) (by omega)⟩
      by_cases z : i = d
      · rw [z]; exact q
      · exact h i (by omega) (by omega)
    · rw [if_neg q]
      exact ⟨fun h => (by cases h), fun h => absurd (h d (by omega) (by omega)) q⟩
theorem wN_ng : ∀ d, (∀ i, i < d → wO P n lo hi fs k i = true) → NG P (wN P n lo hi fs k d)
  | 0, _ => NG.zero
  | d + 1, h => by
    rw [wN_s]
    exact NG.out (h d (by omega))
theorem wN_z (hF : FitP P) : ∀ d, Z30 (wN P n lo hi fs k d)
  | 0 => fun _ _ => rfl
  | d + 1 => by
    rw [wN_s]
    exact Z30.out hF (wN_z hF d)
/-- where a row goes on from the one ahead of it -/
def wS (n k : Nat) : Nat := if k = 0 then 0 else n - 1 - tzF 12 k
theorem wS_share (hn : n ≤ 12) (hk : k < 2 ^ n) (h0 : 0 < k) (hp : okF P n lo hi fs (k - 1) n 0 = true) : wS n k < n ∧ (∀ e, e ≤ wS n k → wN P n lo hi fs k e = wN P n lo hi fs (k - 1) e) ∧ ∀ i, i < wS n k → wO P n lo hi fs k i = true := by
  have h12 : k < 4096 := Nat.lt_of_lt_of_le hk (Nat.pow_le_pow_right (by decide) hn)
  have ht := tz_lt h0 hk hn
  have eS : wS n k = n - 1 - tzF 12 k := by unfold wS; rw [if_neg (by omega)]
  rw [eS]
  have hb : ∀ i, i < n - 1 - tzF 12 k → wbit k n i = wbit (k - 1) n i := fun i hi => tz_bit h0 h12 hn hi
  refine ⟨by omega, fun e he => wN_congr e (fun i hi => hb i (by omega)), fun i hi => ?_⟩
  have := (okF_iff n 0).mp hp i (by omega) (by omega)
  unfold wO at this ⊢
  rw [wN_congr (k := k) (k' := k - 1) i (fun j hj => hb j (by omega))]
  unfold wU at this ⊢
  rw [hb i hi]
  exact this
end Rows
