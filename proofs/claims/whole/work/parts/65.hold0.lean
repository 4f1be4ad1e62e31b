/-! hold: the stands one after another. -/
/-- numbers, seed, the level's sum and the level behind t steps with the same sample -/
def hq (P : SH) (u : Int64) (N : Nat → Int64) (sd : Int64) : Nat → (Nat → Int64) × Int64 × Int64 × Int64
  | 0 => (N, sd, 0, 0)
  | t + 1 => ((pOut nR P u (hq P u N sd t).1 (hq P u N sd t).2.1).2.1, (pLot P.2.2.2.2.2.2 (hq P u N sd t).2.1).2, (hq P u N sd t).2.2.1 + P.2.2.2.2.1 (pTold nR P u (hq P u N sd t).1 (hq P u N sd t).2.1), P.2.2.2.2.1 (pTold nR P u (hq P u N sd t).1 (hq P u N sd t).2.1))
theorem hq_s {P : SH} {u : Int64} {N : Nat → Int64} {sd : Int64} {t : Nat} : hq P u N sd (t + 1) = ((pOut nR P u (hq P u N sd t).1 (hq P u N sd t).2.1).2.1, (pLot P.2.2.2.2.2.2 (hq P u N sd t).2.1).2, (hq P u N sd t).2.2.1 + P.2.2.2.2.1 (pTold nR P u (hq P u N sd t).1 (hq P u N sd t).2.1), P.2.2.2.2.1 (pTold nR P u (hq P u N sd t).1 (hq P u N sd t).2.1)) := rfl
/-- the levels told from e + 1 on, r of them, added up -/
def hsum (f : Nat → Int64) : Nat → Nat → Int64 → Int64
  | 0, _, x => x
  | r + 1, k, x => hsum f r (k + 1) (x + f k)
theorem hsum_add {P : SH} {u : Int64} {N : Nat → Int64} {sd : Int64} : ∀ (r e : Nat) (x : Int64), hsum (fun k => (hq P u N sd k).2.2.2) r (e + 1) x = x + ((hq P u N sd (e + r)).2.2.1 - (hq P u N sd e).2.2.1)
  | 0, e, x => by
    show x = _
    rw [Nat.add_zero, Int64.sub_self, Int64.add_zero]
  | r + 1, e, x => by
    show hsum _ r (e + 1 + 1) (x + (hq P u N sd (e + 1)).2.2.2) = _
    rw [hsum_add r (e + 1), show e + 1 + r = e + (r + 1) by omega]
    have : (hq P u N sd (e + 1)).2.2.1 = (hq P u N sd e).2.2.1 + (hq P u N sd (e + 1)).2.2.2 := by rw [hq_s]
    rw [this, Int64.sub_eq_add_neg, Int64.sub_eq_add_neg, Int64.neg_add]
    generalize (hq P u N sd (e + (r + 1))).2.2.1 = A
    generalize (hq P u N sd e).2.2.1 = B
    generalize (hq P u N sd (e + 1)).2.2.2 = C
    apply Int64.toBitVec_inj.mp
    simp only [Int64.toBitVec_add, Int64.toBitVec_neg, Int64.toBitVec_sub]
    generalize A.toBitVec = a
    generalize B.toBitVec = b
    generalize C.toBitVec = c
    generalize x.toBitVec = d
    rw [BitVec.sub_eq_add_neg]
    have e2 : c + -c = 0#64 := by rw [← BitVec.sub_eq_add_neg, BitVec.sub_self]
    have e3 : d + c + (a + (-b + -c)) = d + (a + -b) + (c + -c) := by ac_rfl
    rw [e3, e2, BitVec.add_zero]
