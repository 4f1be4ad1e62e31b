/-! The two ways to the nearest level tell the same. -/
theorem toInt_sub64 {x y : Int64} (hx : -4611686018427387904 ≤ x.toInt ∧ x.toInt < 4611686018427387904) (hy : -4611686018427387904 ≤ y.toInt ∧ y.toInt < 4611686018427387904) : (x - y).toInt = x.toInt - y.toInt := by
  rw [Int64.toInt_sub, Int.bmod_eq_of_le] <;> omega
theorem toInt_add64 {x y : Int64} (hx : -4611686018427387904 ≤ x.toInt ∧ x.toInt < 4611686018427387904) (hy : -4611686018427387904 ≤ y.toInt ∧ y.toInt < 4611686018427387904) : (x + y).toInt = x.toInt + y.toInt := by
  rw [Int64.toInt_add, Int.bmod_eq_of_le] <;> omega
theorem toInt_neg64 {x : Int64} (hx : -9223372036854775808 < x.toInt) : (-x).toInt = -x.toInt := by
  have := x.toInt_lt
  rw [Int64.toInt_neg, Int.bmod_eq_of_le] <;> omega
def iab (x : Int) : Int := if 0 ≤ x then x else -x
theorem mabs_toInt {x : Int64} (hx : -9223372036854775808 < x.toInt) : (mabs x).toInt = iab x.toInt := by
  unfold mabs iab
  simp only [Int64.lt_iff_toInt_lt, show (0 : Int64).toInt = 0 from rfl]
  by_cases h : 0 < x.toInt
  · rw [if_pos h, if_pos (by omega)]
  · rw [if_neg h, toInt_neg64 hx]
    by_cases h0 : 0 ≤ x.toInt
    · rw [if_pos h0]; omega
    · rw [if_neg h0]
theorem dst_toInt {x y : Int64} (hx : -2305843009213693952 ≤ x.toInt ∧ x.toInt < 2305843009213693952) (hy : -2305843009213693952 ≤ y.toInt ∧ y.toInt < 2305843009213693952) : (dst x y).toInt = iab (x.toInt - y.toInt) := by
  have e := toInt_sub64 (x := x) (y := y) (by omega) (by omega)
  unfold dst iab
  simp only [Int64.le_iff_toInt_le, show (0 : Int64).toInt = 0 from rfl, e]
  by_cases h : 0 ≤ x.toInt - y.toInt
  · rw [if_pos h, if_pos h, e]
  · rw [if_neg h, if_neg h, toInt_neg64 (by rw [e]; omega), e]
/-- b is the best of the first k: of two as near the later one -/
def Best (f : Nat → Int) (b k : Nat) : Prop := b < k ∧ (∀ j, j < b → f b ≤ f j) ∧ ∀ j, b < j → j < k → f b < f j
theorem Best.one {f : Nat → Int} {b c k : Nat} (h : Best f b k) (g : Best f c k) : b = c := by
  rcases Nat.lt_trichotomy b c with q | q | q
  · have a1 := h.2.2 c q g.1
    have a2 := g.2.1 b q
    omega
  · exact q
  · have a1 := g.2.2 b q h.1
    have a2 := h.2.1 c q
    omega
theorem nearR_best {lv : Nat → Int64} {x : Int64} {f : Nat → Int} {n : Nat} (hf : ∀ j, j < n → (dst x (lv j)).toInt = f j) : ∀ r b k, k + r = n → Best f b k → Best f (nearR lv x r b k) n
  | 0, b, k, h, hb => by
    have : k = n := by omega
    subst this
    exact hb
  | r + 1, b, k, h, hb => by
    have e : nearR lv x (r + 1) b k = if dst x (lv b) < dst x (lv k) then nearR lv x r b (k + 1) else nearR lv x r k (k + 1) := rfl
    rw [e]
    simp only [Int64.lt_iff_toInt_lt]
    rw [hf b (by have := hb.1; omega), hf k (by omega)]
    by_cases c : f b < f k
    · rw [if_pos c]
      refine nearR_best hf r b (k + 1) (by omega) ⟨by have := hb.1; omega, hb.2.1, fun j h1 h2 => ?_⟩
      by_cases hj : j = k
      · subst hj; exact c
      · exact hb.2.2 j h1 (by omega)
    · rw [if_neg c]
      refine nearR_best hf r k (k + 1) (by omega) ⟨by omega, fun j h1 => ?_, fun j h1 h2 => by omega⟩
      rcases Nat.lt_trichotomy j b with q | q | q
      · have := hb.2.1 j q; omega
      · subst q; omega
      · have := hb.2.2 j q h1; omega
theorem nearC_best {lv : Nat → Int64} {x : Int64} {g : Nat → Int} {n : Nat} (hf : ∀ j, j < n → (mabs (lv j - x)).toInt = iab (g j)) (hg : ∀ j, j + 1 < n → g j < g (j + 1)) : ∀ r k, k + r + 1 = n → (∀ j, j < k → iab (g k) ≤ iab (g j)) → Best (fun j => iab (g j)) (nearC lv x r k) n
  | 0, k, h, hk => ⟨by show k < n; omega, hk, fun j h1 h2 => by have h1 : k < j := h1; omega⟩
  | r + 1, k, h, hk => by
    have e : nearC lv x (r + 1) k = if mabs (lv k - x) < mabs (lv (k + 1) - x) then k else nearC lv x r (k + 1) := rfl
    rw [e]
    simp only [Int64.lt_iff_toInt_lt]
    rw [hf k (by omega), hf (k + 1) (by omega)]
    have hup : ∀ j, k + 1 ≤ j → j < n → g (k + 1) ≤ g j := by
      intro j h1 h2
      induction j with
      | zero => omega
      | succ j ih =>
        by_cases q : k + 1 = j + 1
        · rw [q]; exact Int.le_refl _
        · have := ih (by omega) (by omega)
          have := hg j (by omega)
          omega
    have hkk := hg k (by omega)
    by_cases c : iab (g k) < iab (g (k + 1))
    · rw [if_pos c]
      refine ⟨by omega, hk, fun j h1 h2 => ?_⟩
      have := hup j (by omega) h2
      show iab (g k) < iab (g j)
      unfold iab at c ⊢
      repeat' split
      all_goals (repeat' split at c)
      all_goals omega
    · rw [if_neg c]
      refine nearC_best hf hg r (k + 1) (by omega) (fun j hj => ?_)
      by_cases q : j = k
      · subst q; omega
      · have := hk j (by omega); omega
/-- levels that rise, none far off -/
def RiseP (P : SH) : Prop := (∀ k, k + 1 < P.2.2.2.2.2.1 → (P.2.2.2.2.1 k).toInt < (P.2.2.2.2.1 (k + 1)).toInt) ∧ ∀ k, k < P.2.2.2.2.2.1 → -1000000000000 ≤ (P.2.2.2.2.1 k).toInt ∧ (P.2.2.2.2.1 k).toInt ≤ 1000000000000
theorem near_eq {lv : Nat → Int64} {n : Nat} {x : Int64} (hn : 2 ≤ n) (h1 : ∀ k, k + 1 < n → (lv k).toInt < (lv (k + 1)).toInt) (h2 : ∀ k, k < n → -1000000000000 ≤ (lv k).toInt ∧ (lv k).toInt ≤ 1000000000000) (hx : -2251799813685248 ≤ x.toInt ∧ x.toInt ≤ 2251799813685248) : nC lv n x = nR lv n x := by
  have e1 : ∀ j, j < n → (mabs (lv j - x)).toInt = iab ((lv j).toInt - x.toInt) := fun j hj => by
    have := h2 j hj
    have e := toInt_sub64 (x := lv j) (y := x) (by omega) (by omega)
    rw [mabs_toInt (by rw [e]; omega), e]
  have e2 : ∀ j, j < n → (dst x (lv j)).toInt = iab ((lv j).toInt - x.toInt) := fun j hj => by
    have := h2 j hj
    rw [dst_toInt (by omega) (by omega)]
    unfold iab
    repeat' split
    all_goals omega
  have b1 := nearC_best (g := fun j => (lv j).toInt - x.toInt) e1 (fun j hj => by have := h1 j hj; show (lv j).toInt - x.toInt < (lv (j + 1)).toInt - x.toInt; omega) (n - 1) 0 (by omega) (fun j hj => by omega)
  have b2 := nearR_best e2 (n - 1) 0 1 (by omega) ⟨by omega, fun j hj => by omega, fun j h1 h2 => by omega⟩
  exact b1.one b2
