/-! Behind the constructors the heap is a store: int rows, long rows, the twins now and next. -/
abbrev SS : Type := (Nat → Nat → Int32) × (Nat → Nat → Int64) × Nat × Nat
def kdL : List Nat := [99, 8, 13, 3, 11, 3, 11, 3, 11, 3, 11, 3, 11, 3, 11, 5, 10, 11, 10, 11, 1, 11, 11, 4, 11, 10, 11, 0, 11, 2, 10, 11, 11, 7, 14, 6, 11, 10, 6, 11, 10, 6, 11, 10, 6, 11, 10, 6, 11, 10, 6, 11, 10, 6, 11, 10, 6, 11, 10, 6, 11, 10, 6, 11, 10, 6, 11, 10, 6, 11, 10, 6, 11, 10, 10, 6, 11, 10, 6, 11, 10, 9, 12, 10, 10, 11, 11, 10, 11, 10, 11, 11, 11, 11, 10, 11, 10, 10, 11, 11, 11, 11, 11, 10, 11, 11, 11]
def lnL : List Nat := [0, 0, 6, 0, 60, 0, 60, 0, 60, 0, 60, 0, 60, 0, 60, 0, 5, 5, 5, 16, 0, 2100, 300, 0, 4400, 1024, 11, 0, 400, 0, 500, 500, 500, 0, 13, 0, 30, 15, 0, 30, 15, 0, 30, 15, 0, 30, 15, 0, 30, 15, 0, 30, 15, 0, 30, 15, 0, 30, 15, 0, 30, 15, 0, 30, 15, 0, 30, 15, 0, 30, 15, 0, 30, 15, 8, 0, 30, 15, 0, 30, 15, 0, 6, 6, 6, 360, 60, 5, 5, 5, 16, 30, 300, 2100, 40, 30, 40, 8, 5, 4812, 3, 500, 500, 500, 500, 501, 12]
def ftL : List (List Nat) := [[2, 2, 2, 0, 0, 1], [2, 2, 0], [2, 2, 2, 2, 2, 0], [2, 0, 0, 0], [2, 2, 2, 0, 0, 0], [2, 2, 2, 2, 0, 0, 0, 1], [2, 2, 2, 0, 1, 0], [2, 2, 0, 1, 0, 0, 1, 1], [2, 2, 2, 2, 2, 2, 2, 2, 2, 0], [2, 2, 2, 2, 2, 0, 0, 2, 2, 2, 0, 2, 0, 1, 2, 1, 0, 2, 2, 0, 2, 2, 1, 0, 0, 2, 2, 2, 2, 2, 0, 2, 2, 2, 2, 0, 2, 0, 0, 2]]
def rfL : List (List Nat) := [[], [2, 15, 20, 27, 29, 33, 74, 0, 0, 0], [], [4, 0, 0, 0], [], [6, 0, 0, 0], [], [8, 0, 0, 0], [], [10, 0, 0, 0], [], [12, 0, 0, 0], [], [14, 0, 0, 0], [], [16, 17, 18, 19, 0, 0, 0, 0], [], [], [], [], [21, 22, 0], [], [], [24, 25, 26, 0, 0, 0], [], [], [], [15, 23, 28, 0, 0, 0], [], [15, 23, 30, 31, 32, 0], [], [], [], [15, 34, 0, 0, 0, 0, 0, 0], [], [15, 36, 37, 0, 0, 0], [], [], [15, 39, 40, 0, 0, 0], [], [], [15, 42, 43, 0, 0, 0], [], [], [15, 45, 46, 0, 0, 0], [], [], [15, 48, 49, 0, 0, 0], [], [], [15, 51, 52, 0, 0, 0], [], [], [15, 54, 55, 0, 0, 0], [], [], [15, 57, 58, 0, 0, 0], [], [], [15, 60, 61, 0, 0, 0], [], [], [15, 63, 64, 0, 0, 0], [], [], [15, 66, 67, 0, 0, 0], [], [], [15, 69, 70, 0, 0, 0], [], [], [15, 72, 73, 0, 0, 0], [], [], [], [15, 76, 77, 0, 0, 0], [], [], [15, 79, 80, 0, 0, 0], [], [], [82, 83, 84, 85, 86, 0, 0, 87, 88, 89, 0, 90, 0, 0, 91, 0, 0, 92, 93, 0, 94, 95, 0, 0, 0, 96, 97, 98, 99, 100, 0, 101, 102, 103, 104, 0, 105, 0, 0, 106], [], [], [], [], [], [], [], [], [], [], [], [], [], [], [], [], [], [], [], [], [], [], [], [], []]
def kd (o : Nat) : Nat := kdL.getD o 99
def ln (o : Nat) : Nat := lnL.getD o 0
def ft (ci k : Nat) : Nat := (ftL.getD ci []).getD k 9
def rf (σ : SS) (o k : Nat) : Nat := if o = 1 ∧ k = 7 then σ.2.2.1 else if o = 1 ∧ k = 8 then σ.2.2.2 else (rfL.getD o []).getD k 0
/-- where the store has a field -/
def fa (o k : Nat) : Nat := 200 + 50 * o + k
def cell (σ : SS) (o : Nat) : AE := if kd o < 10 then .inr (kd o, fun k => if ft (kd o) k = 0 then .int (σ.1 (fa o k) 0) else if ft (kd o) k = 1 then .long (σ.2.1 (fa o k) 0) else .ref (rf σ o k))
  else if kd o = 10 then .inl (0, ln o, .inl (σ.1 o)) else if kd o = 11 then .inl (1, ln o, .inr (.inl (σ.2.1 o))) else if kd o = 12 then .inl (2, ln o, .inl (σ.1 o))
  else if kd o = 13 then .inl (3, ln o, .inr (.inr (.inr (.inr (fun j => some (3 + 2 * j)))))) else .inl (4, ln o, .inr (.inr (.inr (.inr (fun j => some (35 + 3 * j))))))
def lay (σ : SS) : AH := (106, cell σ)
def sI (σ : SS) (o : Nat) (f : Nat → Int32) : SS := (va_up σ.1 o f, σ.2)
def sL (σ : SS) (o : Nat) (f : Nat → Int64) : SS := (σ.1, va_up σ.2.1 o f, σ.2.2)
theorem rf_sI0 {σ : SS} {q o k : Nat} {f : Nat → Int32} : rf (sI σ q f) o k = rf σ o k := rfl
theorem kd_in {o : Nat} (h : kd o ≤ 14) : 0 < o ∧ o ≤ 106 := by
  unfold kd at h
  by_cases ho : o < kdL.length
  · refine ⟨?_, ?_⟩
    · rcases Nat.eq_zero_or_pos o with rfl | h0
      · exact absurd h (by decide)
      · exact h0
    · exact Nat.le_of_lt_succ ho
  · rw [List.getD_eq_getElem?_getD, List.getElem?_eq_none (by omega)] at h
    exact absurd h (by decide)
theorem ln_lt (o : Nat) : ln o < 5000 := by
  unfold ln
  by_cases ho : o < lnL.length
  · have h : ∀ o, o < lnL.length → lnL.getD o 0 < 5000 := by decide
    exact h o ho
  · rw [List.getD_eq_getElem?_getD, List.getElem?_eq_none (by omega)]; decide
theorem lk_lay {σ : SS} {o : Nat} (h : kd o ≤ 14) : lk (lay σ) o = some (cell σ o) := by
  have := kd_in h
  unfold lk lay
  rw [if_pos this]
theorem lay_up {σ σ' : SS} {o : Nat} {e : AE} (h1 : cell σ' o = e) (h2 : ∀ q, q ≠ o → cell σ' q = cell σ q) : ((lay σ).1, va_up (lay σ).2 o e) = lay σ' := by
  unfold lay
  congr 1
  funext q
  by_cases hq : q = o
  · subst hq; simp [va_up, h1]
  · simp [va_up, hq, h2 q hq]
theorem ft_in {ci k : Nat} (h : ft ci k ≤ 2) : k < 50 := by
  unfold ft at h
  by_cases hk : k < (ftL.getD ci []).length
  · have h2 : ∀ ci, (ftL.getD ci []).length < 50 := by
      intro ci
      by_cases hc : ci < ftL.length
      · have : ∀ c, c < ftL.length → (ftL.getD c []).length < 50 := by decide
        exact this ci hc
      · rw [List.getD_eq_getElem?_getD, List.getElem?_eq_none (by omega)]; decide
    exact Nat.lt_trans hk (h2 ci)
  · rw [List.getD_eq_getElem?_getD, List.getElem?_eq_none (by omega)] at h
    exact absurd h (by decide)
theorem fa_inj {o k o' k' : Nat} (h : k < 50) (h' : k' < 50) (e : fa o k = fa o' k') : o = o' ∧ k = k' := by
  unfold fa at e
  omega
/-- an array's row changes -/
theorem cell_aI {σ : SS} {o q : Nat} {f : Nat → Int32} (ho : o < 200) (h : q ≠ o) : cell (sI σ o f) q = cell σ q := by
  have h2 : ∀ k, fa q k ≠ o := fun k => by unfold fa; omega
  simp [cell, sI, va_up, h, h2, rf]
theorem cell_aL {σ : SS} {o q : Nat} {f : Nat → Int64} (ho : o < 200) (h : q ≠ o) : cell (sL σ o f) q = cell σ q := by
  have h2 : ∀ k, fa q k ≠ o := fun k => by unfold fa; omega
  simp [cell, sL, va_up, h, h2, rf]
theorem kd_lt {o : Nat} (h : kd o ≤ 14) : o < 200 := by
  have := (kd_in h).2
  omega
/-- a field's row changes -/
theorem cell_fI {σ : SS} {o q k : Nat} {f : Nat → Int32} (hk : k < 50) (hq : q ≠ o) : cell (sI σ (fa o k) f) q = cell σ q := by
  by_cases h14 : kd q ≤ 14
  · have hl := kd_lt h14
    have h3 : q ≠ fa o k := by unfold fa; omega
    by_cases h10 : kd q < 10
    · simp only [cell, h10, if_true]
      congr 2
      funext j
      by_cases hj : ft (kd q) j = 0
      · have : fa q j ≠ fa o k := fun e => hq (fa_inj (ft_in (ci := kd q) (by omega)) hk e).1
        simp [hj, sI, va_up, this]
      · simp only [hj, if_false, rf_sI0, sI]
        rfl
    · simp [cell, h10, sI, va_up, h3]
  · have a1 : ¬ kd q < 10 := by omega
    have a2 : ¬ kd q = 10 := by omega
    have a3 : ¬ kd q = 12 := by omega
    simp [cell, a1, a2, a3, sI]
theorem cell_fL {σ : SS} {o q k : Nat} {f : Nat → Int64} (hk : k < 50) (hq : q ≠ o) : cell (sL σ (fa o k) f) q = cell σ q := by
  by_cases h14 : kd q ≤ 14
  · have hl := kd_lt h14
    have h3 : q ≠ fa o k := by unfold fa; omega
    by_cases h10 : kd q < 10
    · simp only [cell, h10, if_true]
      congr 2
      funext j
      by_cases hj : ft (kd q) j = 1
      · have : fa q j ≠ fa o k := fun e => hq (fa_inj (ft_in (ci := kd q) (by omega)) hk e).1
        simp [hj, sL, va_up, this]
      · simp only [hj, if_false, sL]
        rfl
    · simp [cell, h10, sL, va_up, h3]
  · have a1 : ¬ kd q < 10 := by omega
    have a2 : ¬ kd q = 11 := by omega
    simp [cell, a1, a2, sL]
section StoreOps
variable {α : Type} {σ : SS} {ci o k : Nat}
theorem ckd_lay {f : M α} (h1 : kd o = ci) (h3 : ci < 10) : ckd ci o f (lay σ) = f (lay σ) := by
  subst h1
  unfold ckd
  rw [lk_lay (by omega)]
  simp [cell, h3]
theorem bd_gI {f : Int32 → M α} (h1 : kd o = ci) (h2 : ft ci k = 0) (h3 : ci < 10) : bd (gI ci o k) f (lay σ) = f (σ.1 (fa o k) 0) (lay σ) := by
  subst h1
  refine bd_eq ?_
  unfold gI
  rw [lk_lay (by omega)]
  simp [cell, h3, h2]
theorem bd_gL {f : Int64 → M α} (h1 : kd o = ci) (h2 : ft ci k = 1) (h3 : ci < 10) : bd (gL ci o k) f (lay σ) = f (σ.2.1 (fa o k) 0) (lay σ) := by
  subst h1
  refine bd_eq ?_
  unfold gL
  rw [lk_lay (by omega)]
  simp [cell, h3, h2]
theorem bd_gR {f : Nat → M α} (h1 : kd o = ci) (h2 : ft ci k = 2) (h3 : ci < 10) : bd (gR ci o k) f (lay σ) = f (rf σ o k) (lay σ) := by
  subst h1
  refine bd_eq ?_
  unfold gR
  rw [lk_lay (by omega)]
  simp [cell, h3, h2]
theorem bd_pI {f : Unit → M α} {v : Int32} (h1 : kd o = ci) (h2 : ft ci k = 0) (h3 : ci < 10) : bd (pI ci o k v) f (lay σ) = f () (lay (sI σ (fa o k) (fun _ => v))) := by
  subst h1
  refine bd_eq ?_
  have hk : k < 50 := ft_in (ci := kd o) (by omega)
  unfold pI pV
  rw [lk_lay (by omega)]
  have e : cell σ o = .inr (kd o, fun k => if ft (kd o) k = 0 then .int (σ.1 (fa o k) 0) else if ft (kd o) k = 1 then .long (σ.2.1 (fa o k) 0) else .ref (rf σ o k)) := by simp [cell, h3]
  rw [e]
  simp only [if_true, Option.some.injEq, Prod.mk.injEq, true_and]
  refine lay_up ?_ (fun q hq => cell_fI hk hq)
  simp only [cell, h3, if_true]
  congr 2
  funext j
  by_cases hj : j = k
  · subst hj; simp [va_up, sI, h2]
  · have hne : ft (kd o) j = 0 → fa o j ≠ fa o k := fun e0 e1 => hj (fa_inj (ft_in (ci := kd o) (by omega)) hk e1).2
    by_cases h0 : ft (kd o) j = 0
    · simp [va_up, sI, hj, h0, hne h0]
    · simp [va_up, sI, hj, h0, rf]
theorem bd_pL {f : Unit → M α} {v : Int64} (h1 : kd o = ci) (h2 : ft ci k = 1) (h3 : ci < 10) : bd (pL ci o k v) f (lay σ) = f () (lay (sL σ (fa o k) (fun _ => v))) := by
  subst h1
  refine bd_eq ?_
  have hk : k < 50 := ft_in (ci := kd o) (by omega)
  unfold pL pV
  rw [lk_lay (by omega)]
  have e : cell σ o = .inr (kd o, fun k => if ft (kd o) k = 0 then .int (σ.1 (fa o k) 0) else if ft (kd o) k = 1 then .long (σ.2.1 (fa o k) 0) else .ref (rf σ o k)) := by simp [cell, h3]
  rw [e]
  simp only [if_true, Option.some.injEq, Prod.mk.injEq, true_and]
  refine lay_up ?_ (fun q hq => cell_fL hk hq)
  simp only [cell, h3, if_true]
  congr 2
  funext j
  by_cases hj : j = k
  · subst hj; simp [va_up, sL, h2]
  · have hne : ft (kd o) j = 1 → fa o j ≠ fa o k := fun e0 e1 => hj (fa_inj (ft_in (ci := kd o) (by omega)) hk e1).2
    by_cases h0 : ft (kd o) j = 1
    · simp [va_up, sL, hj, h0, hne h0]
    · simp [va_up, sL, hj, h0, rf]
theorem bd_pZ {f : Unit → M α} {v : Int32} (hv : v = 0 ∨ v = 1) (h1 : kd o = ci) (h2 : ft ci k = 0) (h3 : ci < 10) : bd (pZ ci o k v) f (lay σ) = f () (lay (sI σ (fa o k) (fun _ => v))) := by
  have e : bd (pZ ci o k v) f (lay σ) = bd (pI ci o k v) f (lay σ) := by simp [bd, pZ, pI, hv]
  rw [e, bd_pI h1 h2 h3]
theorem bd_now {f : Unit → M α} {v : Nat} : bd (pR 8 1 7 v) f (lay σ) = f () (lay (σ.1, σ.2.1, v, σ.2.2.2)) := by
  refine bd_eq ?_
  unfold pR pV
  rw [lk_lay (by decide)]
  have e : ∀ τ : SS, cell τ 1 = .inr (8, fun k => if ft 8 k = 0 then .int (τ.1 (fa 1 k) 0) else if ft 8 k = 1 then .long (τ.2.1 (fa 1 k) 0) else .ref (rf τ 1 k)) := fun _ => rfl
  rw [e]
  simp only [if_true, Option.some.injEq, Prod.mk.injEq, true_and]
  refine lay_up ?_ (fun q hq => by simp [cell, rf, hq])
  rw [e]
  congr 2
  funext j
  by_cases hj : j = 7
  · subst hj; simp [va_up, rf, show ft 8 7 = 2 from rfl]
  · simp [va_up, hj, rf]
theorem bd_next {f : Unit → M α} {v : Nat} : bd (pR 8 1 8 v) f (lay σ) = f () (lay (σ.1, σ.2.1, σ.2.2.1, v)) := by
  refine bd_eq ?_
  unfold pR pV
  rw [lk_lay (by decide)]
  have e : ∀ τ : SS, cell τ 1 = .inr (8, fun k => if ft 8 k = 0 then .int (τ.1 (fa 1 k) 0) else if ft 8 k = 1 then .long (τ.2.1 (fa 1 k) 0) else .ref (rf τ 1 k)) := fun _ => rfl
  rw [e]
  simp only [if_true, Option.some.injEq, Prod.mk.injEq, true_and]
  refine lay_up ?_ (fun q hq => by simp [cell, rf, hq])
  rw [e]
  congr 2
  funext j
  by_cases hj : j = 8
  · subst hj; simp [va_up, rf, show ft 8 8 = 2 from rfl]
  · simp [va_up, hj, rf]
theorem in_nI {j n : Nat} (h : j < n) (hn : n < 5000) : ¬ (nI j < 0 ∨ n ≤ (nI j).toNatClampNeg) := nI_in h (by omega)
theorem cl_nI {j n : Nat} (h : j < n) (hn : n < 5000) : (nI j).toNatClampNeg = j := nI_clamp (by omega)
theorem no_nI {j n : Nat} (h : j < n) (hn : n < 5000) : ¬ (nI j < 0 ∨ n ≤ j) := fun q => q.elim (nI_pos (by omega)) (by omega)
theorem bd_ldI {f : Int32 → M α} {j : Nat} (h1 : kd o = 10) (h2 : j < ln o) : bd (ldI o (nI j)) f (lay σ) = f (σ.1 o j) (lay σ) := by
  refine bd_eq ?_
  unfold ldI ldT
  rw [lk_lay (by omega)]
  have e : cell σ o = .inl (0, ln o, .inl (σ.1 o)) := by simp [cell, h1]
  rw [e]
  simp only [true_and, no_nI h2 (ln_lt o), not_false_eq_true, if_true, cl_nI h2 (ln_lt o)]
theorem bd_ldZ {f : Int32 → M α} {j : Nat} (h1 : kd o = 12) (h2 : j < ln o) : bd (ldZ o (nI j)) f (lay σ) = f (σ.1 o j) (lay σ) := by
  refine bd_eq ?_
  unfold ldZ ldT
  rw [lk_lay (by omega)]
  have e : cell σ o = .inl (2, ln o, .inl (σ.1 o)) := by simp [cell, h1]
  rw [e]
  simp only [true_and, no_nI h2 (ln_lt o), not_false_eq_true, if_true, cl_nI h2 (ln_lt o)]
theorem bd_ldL {f : Int64 → M α} {j : Nat} (h1 : kd o = 11) (h2 : j < ln o) : bd (ldL o (nI j)) f (lay σ) = f (σ.2.1 o j) (lay σ) := by
  refine bd_eq ?_
  unfold ldL
  rw [lk_lay (by omega)]
  have e : cell σ o = .inl (1, ln o, .inr (.inl (σ.2.1 o))) := by simp [cell, h1]
  rw [e]
  simp only [true_and, no_nI h2 (ln_lt o), not_false_eq_true, if_true, cl_nI h2 (ln_lt o)]
theorem bd_ldR3 {f : Nat → M α} {j : Nat} (h2 : j < 6) : bd (ldR 3 2 (nI j)) f (lay σ) = f (3 + 2 * j) (lay σ) := by
  refine bd_eq ?_
  unfold ldR
  rw [lk_lay (by decide)]
  have e : cell σ 2 = .inl (3, 6, .inr (.inr (.inr (.inr (fun j => some (3 + 2 * j)))))) := rfl
  rw [e]
  simp only [true_and, no_nI h2 (by omega), not_false_eq_true, if_true, cl_nI h2 (by omega : 6 < 5000)]
theorem bd_ldR4 {f : Nat → M α} {j : Nat} (h2 : j < 13) : bd (ldR 4 34 (nI j)) f (lay σ) = f (35 + 3 * j) (lay σ) := by
  refine bd_eq ?_
  unfold ldR
  rw [lk_lay (by decide)]
  have e : cell σ 34 = .inl (4, 13, .inr (.inr (.inr (.inr (fun j => some (35 + 3 * j)))))) := rfl
  rw [e]
  simp only [true_and, no_nI h2 (by omega), not_false_eq_true, if_true, cl_nI h2 (by omega : 13 < 5000)]
theorem bd_stI {f : Unit → M α} {j : Nat} {v : Int32} (h1 : kd o = 10) (h2 : j < ln o) : bd (stI o (nI j) v) f (lay σ) = f () (lay (sI σ o (va_up (σ.1 o) j v))) := by
  refine bd_eq ?_
  unfold stI
  rw [lk_lay (by omega)]
  have e : ∀ τ : SS, cell τ o = .inl (0, ln o, .inl (τ.1 o)) := fun τ => by simp [cell, h1]
  rw [e]
  simp only [true_and, no_nI h2 (ln_lt o), not_false_eq_true, if_true, cl_nI h2 (ln_lt o), Option.some.injEq, Prod.mk.injEq]
  refine lay_up ?_ (fun q hq => cell_aI (kd_lt (by omega)) hq)
  rw [e]
  simp [sI, va_up]
theorem bd_stZ {f : Unit → M α} {j : Nat} {v : Int32} (hv : v = 0 ∨ v = 1) (h1 : kd o = 12) (h2 : j < ln o) : bd (stZ o (nI j) v) f (lay σ) = f () (lay (sI σ o (va_up (σ.1 o) j v))) := by
  refine bd_eq ?_
  unfold stZ
  rw [lk_lay (by omega)]
  have e : ∀ τ : SS, cell τ o = .inl (2, ln o, .inl (τ.1 o)) := fun τ => by simp [cell, h1]
  rw [e]
  simp only [true_and, no_nI h2 (ln_lt o), not_false_eq_true, if_true, cl_nI h2 (ln_lt o), hv, and_self, Option.some.injEq, Prod.mk.injEq]
  refine lay_up ?_ (fun q hq => cell_aI (kd_lt (by omega)) hq)
  rw [e]
  simp [sI, va_up]
theorem bd_stL {f : Unit → M α} {j : Nat} {v : Int64} (h1 : kd o = 11) (h2 : j < ln o) : bd (stL o (nI j) v) f (lay σ) = f () (lay (sL σ o (va_up (σ.2.1 o) j v))) := by
  refine bd_eq ?_
  unfold stL
  rw [lk_lay (by omega)]
  have e : ∀ τ : SS, cell τ o = .inl (1, ln o, .inr (.inl (τ.2.1 o))) := fun τ => by simp [cell, h1]
  rw [e]
  simp only [true_and, no_nI h2 (ln_lt o), not_false_eq_true, if_true, cl_nI h2 (ln_lt o), Option.some.injEq, Prod.mk.injEq]
  refine lay_up ?_ (fun q hq => cell_aL (kd_lt (by omega)) hq)
  rw [e]
  simp [sL, va_up]
theorem bd_alen0 {f : Int32 → M α} (h1 : kd o = 10) : bd (alen 0 o) f (lay σ) = f (nI (ln o)) (lay σ) := by
  refine bd_eq ?_
  unfold alen
  rw [lk_lay (by omega)]
  have e : cell σ o = .inl (0, ln o, .inl (σ.1 o)) := by simp [cell, h1]
  rw [e]
  rfl
theorem bd_alen1 {f : Int32 → M α} (h1 : kd o = 11) : bd (alen 1 o) f (lay σ) = f (nI (ln o)) (lay σ) := by
  refine bd_eq ?_
  unfold alen
  rw [lk_lay (by omega)]
  have e : cell σ o = .inl (1, ln o, .inr (.inl (σ.2.1 o))) := by simp [cell, h1]
  rw [e]
  rfl
theorem bd_acp {f : Unit → M α} {q i j n : Nat} (h1 : kd o = 11) (h2 : kd q = 11) (h3 : i + n ≤ ln o) (h4 : j + n ≤ ln q) : bd (acp o (nI i) q (nI j) (nI n)) f (lay σ) = f () (lay (sL σ q (va_cpy (σ.2.1 o) (σ.2.1 q) i j n))) := by
  have l1 := ln_lt o
  have l2 := ln_lt q
  refine bd_eq ?_
  unfold acp
  rw [lk_lay (by omega), lk_lay (by omega)]
  have e : ∀ (τ : SS) (o : Nat), kd o = 11 → cell τ o = .inl (1, ln o, .inr (.inl (τ.2.1 o))) := fun τ o h1 => by simp [cell, h1]
  rw [e σ o h1, e σ q h2]
  have c1 : (nI i).toNatClampNeg = i := nI_clamp (by omega)
  have c2 : (nI j).toNatClampNeg = j := nI_clamp (by omega)
  have c3 : (nI n).toNatClampNeg = n := nI_clamp (by omega)
  have p1 : ¬ nI i < 0 := nI_pos (by omega)
  have p2 : ¬ nI j < 0 := nI_pos (by omega)
  have p3 : ¬ nI n < 0 := nI_pos (by omega)
  simp only [true_and, p1, p2, p3, c1, c2, c3, h3, h4, not_false_eq_true, and_self, if_true, Option.some.injEq, Prod.mk.injEq]
  refine lay_up ?_ (fun q' hq => cell_aL (kd_lt (by omega)) hq)
  rw [e _ q h2]
  simp [sL, va_up]
end StoreOps
theorem ap_ite {α : Type} {c : Prop} [Decidable c] {a b : M α} {h : AH} : (if c then a else b) h = if c then a h else b h := by split <;> rfl
theorem ap_rt {α : Type} {a : α} {h : AH} : rt a h = some (a, h) := rfl
theorem ap_lt {α β : Type} {a : α} {k : α → M β} {h : AH} : lt_ a k h = k a h := rfl
theorem rz_0 {h : AH} : rz 0 h = some (0, h) := rfl
theorem rz_1 {h : AH} : rz 1 h = some (1, h) := rfl
theorem r_now {σ : SS} : rf σ 1 7 = σ.2.2.1 := rfl
theorem r_next {σ : SS} : rf σ 1 8 = σ.2.2.2 := rfl
theorem rf_sI {σ : SS} {q o k : Nat} {f : Nat → Int32} : rf (sI σ q f) o k = rf σ o k := rfl
theorem rf_sL {σ : SS} {q o k : Nat} {f : Nat → Int64} : rf (sL σ q f) o k = rf σ o k := rfl
theorem r_1_0 {σ : SS} : rf σ 1 0 = 2 := rfl
theorem r_1_1 {σ : SS} : rf σ 1 1 = 15 := rfl
theorem r_1_2 {σ : SS} : rf σ 1 2 = 20 := rfl
theorem r_1_3 {σ : SS} : rf σ 1 3 = 27 := rfl
theorem r_1_4 {σ : SS} : rf σ 1 4 = 29 := rfl
theorem r_1_5 {σ : SS} : rf σ 1 5 = 33 := rfl
theorem r_1_6 {σ : SS} : rf σ 1 6 = 74 := rfl
theorem r_3_0 {σ : SS} : rf σ 3 0 = 4 := rfl
theorem r_5_0 {σ : SS} : rf σ 5 0 = 6 := rfl
theorem r_7_0 {σ : SS} : rf σ 7 0 = 8 := rfl
theorem r_9_0 {σ : SS} : rf σ 9 0 = 10 := rfl
theorem r_11_0 {σ : SS} : rf σ 11 0 = 12 := rfl
theorem r_13_0 {σ : SS} : rf σ 13 0 = 14 := rfl
theorem r_15_0 {σ : SS} : rf σ 15 0 = 16 := rfl
theorem r_15_1 {σ : SS} : rf σ 15 1 = 17 := rfl
theorem r_15_2 {σ : SS} : rf σ 15 2 = 18 := rfl
theorem r_15_3 {σ : SS} : rf σ 15 3 = 19 := rfl
theorem r_20_0 {σ : SS} : rf σ 20 0 = 21 := rfl
theorem r_20_1 {σ : SS} : rf σ 20 1 = 22 := rfl
theorem r_23_0 {σ : SS} : rf σ 23 0 = 24 := rfl
theorem r_23_1 {σ : SS} : rf σ 23 1 = 25 := rfl
theorem r_23_2 {σ : SS} : rf σ 23 2 = 26 := rfl
theorem r_27_0 {σ : SS} : rf σ 27 0 = 15 := rfl
theorem r_27_1 {σ : SS} : rf σ 27 1 = 23 := rfl
theorem r_27_2 {σ : SS} : rf σ 27 2 = 28 := rfl
theorem r_29_0 {σ : SS} : rf σ 29 0 = 15 := rfl
theorem r_29_1 {σ : SS} : rf σ 29 1 = 23 := rfl
theorem r_29_2 {σ : SS} : rf σ 29 2 = 30 := rfl
theorem r_29_3 {σ : SS} : rf σ 29 3 = 31 := rfl
theorem r_29_4 {σ : SS} : rf σ 29 4 = 32 := rfl
theorem r_33_0 {σ : SS} : rf σ 33 0 = 15 := rfl
theorem r_33_1 {σ : SS} : rf σ 33 1 = 34 := rfl
theorem r_35_0 {σ : SS} : rf σ 35 0 = 15 := rfl
theorem r_35_1 {σ : SS} : rf σ 35 1 = 36 := rfl
theorem r_35_2 {σ : SS} : rf σ 35 2 = 37 := rfl
theorem r_38_0 {σ : SS} : rf σ 38 0 = 15 := rfl
theorem r_38_1 {σ : SS} : rf σ 38 1 = 39 := rfl
theorem r_38_2 {σ : SS} : rf σ 38 2 = 40 := rfl
theorem r_41_0 {σ : SS} : rf σ 41 0 = 15 := rfl
theorem r_41_1 {σ : SS} : rf σ 41 1 = 42 := rfl
theorem r_41_2 {σ : SS} : rf σ 41 2 = 43 := rfl
theorem r_44_0 {σ : SS} : rf σ 44 0 = 15 := rfl
theorem r_44_1 {σ : SS} : rf σ 44 1 = 45 := rfl
theorem r_44_2 {σ : SS} : rf σ 44 2 = 46 := rfl
theorem r_47_0 {σ : SS} : rf σ 47 0 = 15 := rfl
theorem r_47_1 {σ : SS} : rf σ 47 1 = 48 := rfl
theorem r_47_2 {σ : SS} : rf σ 47 2 = 49 := rfl
theorem r_50_0 {σ : SS} : rf σ 50 0 = 15 := rfl
theorem r_50_1 {σ : SS} : rf σ 50 1 = 51 := rfl
theorem r_50_2 {σ : SS} : rf σ 50 2 = 52 := rfl
theorem r_53_0 {σ : SS} : rf σ 53 0 = 15 := rfl
theorem r_53_1 {σ : SS} : rf σ 53 1 = 54 := rfl
theorem r_53_2 {σ : SS} : rf σ 53 2 = 55 := rfl
theorem r_56_0 {σ : SS} : rf σ 56 0 = 15 := rfl
theorem r_56_1 {σ : SS} : rf σ 56 1 = 57 := rfl
theorem r_56_2 {σ : SS} : rf σ 56 2 = 58 := rfl
theorem r_59_0 {σ : SS} : rf σ 59 0 = 15 := rfl
theorem r_59_1 {σ : SS} : rf σ 59 1 = 60 := rfl
theorem r_59_2 {σ : SS} : rf σ 59 2 = 61 := rfl
theorem r_62_0 {σ : SS} : rf σ 62 0 = 15 := rfl
theorem r_62_1 {σ : SS} : rf σ 62 1 = 63 := rfl
theorem r_62_2 {σ : SS} : rf σ 62 2 = 64 := rfl
theorem r_65_0 {σ : SS} : rf σ 65 0 = 15 := rfl
theorem r_65_1 {σ : SS} : rf σ 65 1 = 66 := rfl
theorem r_65_2 {σ : SS} : rf σ 65 2 = 67 := rfl
theorem r_68_0 {σ : SS} : rf σ 68 0 = 15 := rfl
theorem r_68_1 {σ : SS} : rf σ 68 1 = 69 := rfl
theorem r_68_2 {σ : SS} : rf σ 68 2 = 70 := rfl
theorem r_71_0 {σ : SS} : rf σ 71 0 = 15 := rfl
theorem r_71_1 {σ : SS} : rf σ 71 1 = 72 := rfl
theorem r_71_2 {σ : SS} : rf σ 71 2 = 73 := rfl
theorem r_75_0 {σ : SS} : rf σ 75 0 = 15 := rfl
theorem r_75_1 {σ : SS} : rf σ 75 1 = 76 := rfl
theorem r_75_2 {σ : SS} : rf σ 75 2 = 77 := rfl
theorem r_78_0 {σ : SS} : rf σ 78 0 = 15 := rfl
theorem r_78_1 {σ : SS} : rf σ 78 1 = 79 := rfl
theorem r_78_2 {σ : SS} : rf σ 78 2 = 80 := rfl
theorem r_81_0 {σ : SS} : rf σ 81 0 = 82 := rfl
theorem r_81_1 {σ : SS} : rf σ 81 1 = 83 := rfl
theorem r_81_2 {σ : SS} : rf σ 81 2 = 84 := rfl
theorem r_81_3 {σ : SS} : rf σ 81 3 = 85 := rfl
theorem r_81_4 {σ : SS} : rf σ 81 4 = 86 := rfl
theorem r_81_7 {σ : SS} : rf σ 81 7 = 87 := rfl
theorem r_81_8 {σ : SS} : rf σ 81 8 = 88 := rfl
theorem r_81_9 {σ : SS} : rf σ 81 9 = 89 := rfl
theorem r_81_11 {σ : SS} : rf σ 81 11 = 90 := rfl
theorem r_81_14 {σ : SS} : rf σ 81 14 = 91 := rfl
theorem r_81_17 {σ : SS} : rf σ 81 17 = 92 := rfl
theorem r_81_18 {σ : SS} : rf σ 81 18 = 93 := rfl
theorem r_81_20 {σ : SS} : rf σ 81 20 = 94 := rfl
theorem r_81_21 {σ : SS} : rf σ 81 21 = 95 := rfl
theorem r_81_25 {σ : SS} : rf σ 81 25 = 96 := rfl
theorem r_81_26 {σ : SS} : rf σ 81 26 = 97 := rfl
theorem r_81_27 {σ : SS} : rf σ 81 27 = 98 := rfl
theorem r_81_28 {σ : SS} : rf σ 81 28 = 99 := rfl
theorem r_81_29 {σ : SS} : rf σ 81 29 = 100 := rfl
theorem r_81_31 {σ : SS} : rf σ 81 31 = 101 := rfl
theorem r_81_32 {σ : SS} : rf σ 81 32 = 102 := rfl
theorem r_81_33 {σ : SS} : rf σ 81 33 = 103 := rfl
theorem r_81_34 {σ : SS} : rf σ 81 34 = 104 := rfl
theorem r_81_36 {σ : SS} : rf σ 81 36 = 105 := rfl
theorem r_81_39 {σ : SS} : rf σ 81 39 = 106 := rfl
