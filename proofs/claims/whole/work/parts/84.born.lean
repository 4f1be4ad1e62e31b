/-! The store behind the constructors. -/
def lv0 : Nat → Int64 := va_up (va_up (fun _ => 0) 0 (-1)) 1 1
def s00 : SS := (fun o => if o = 351 ∨ o = 451 ∨ o = 551 ∨ o = 651 ∨ o = 751 ∨ o = 851 then fun _ => 1 else if o = 955 ∨ o = 4260 then fun _ => 2 else fun _ => 0, fun o => if o = 19 ∨ o = 90 then lv0 else fun _ => 0, 75, 78)
theorem s00_i {o : Nat} (h : o < 300) : s00.1 o = fun _ => 0 := by
  show (if o = 351 ∨ o = 451 ∨ o = 551 ∨ o = 651 ∨ o = 751 ∨ o = 851 then (fun _ => 1 : Nat → Int32) else if o = 955 ∨ o = 4260 then fun _ => 2 else fun _ => 0) = _
  rw [if_neg (by omega), if_neg (by omega)]
theorem s00_l {o : Nat} (h : o ≠ 19 ∧ o ≠ 90) : s00.2.1 o = fun _ => 0 := by
  show (if o = 19 ∨ o = 90 then lv0 else (fun _ => 0 : Nat → Int64)) = _
  rw [if_neg (by omega)]
theorem EqE.obj {o ci : Nat} {f : Nat → Value} (h1 : kd o = ci) (h2 : ci < 10) (hf : ∀ j, j < nF ci → f j = if ft ci j = 0 then .int (s00.1 (fa o j) 0) else if ft ci j = 1 then .long (s00.2.1 (fa o j) 0) else .ref (rf s00 o j)) : EqE (.inr (ci, f)) (cell s00 o) := by
  subst h1
  refine Or.inr (Or.inl ⟨kd o, f, _, rfl, ?_, hf⟩)
  unfold cell
  rw [if_pos h2]
theorem EqE.arI {o n : Nat} (h1 : kd o = 10) (h2 : ln o = n) (h3 : o < 300) : EqE (.inl (0, n, .inl (fun _ => 0))) (cell s00 o) := by
  refine Or.inl ?_
  unfold cell
  rw [if_neg (by omega), if_pos h1, h2, s00_i h3]
theorem EqE.arL {o n : Nat} (h1 : kd o = 11) (h2 : ln o = n) (h3 : o ≠ 19 ∧ o ≠ 90) : EqE (.inl (1, n, .inr (.inl (fun _ => 0)))) (cell s00 o) := by
  refine Or.inl ?_
  unfold cell
  rw [if_neg (by omega), if_neg (by omega), if_pos h1, h2, s00_l h3]
theorem EqE.arZ {o n : Nat} (h1 : kd o = 12) (h2 : ln o = n) (h3 : o < 300) : EqE (.inl (2, n, .inl (fun _ => 0))) (cell s00 o) := by
  refine Or.inl ?_
  unfold cell
  rw [if_neg (by omega), if_neg (by omega), if_neg (by omega), if_pos h1, h2, s00_i h3]
section Steps
variable {α : Type} {n o ci k : Nat} {F : Nat → AE}
theorem e_nw {e : AE} {f : Nat → M α} : bd (nw e) f (n, F) = f (n + 1) (n + 1, va_up F (n + 1) e) := rfl
def sV (ci o k : Nat) (v : Value) (f : Unit → M α) (n : Nat) (F : Nat → AE) (e : AE) : Option (α × AH) := match e with
  | .inr (c, g) => if c = ci then f () (n, va_up F o (.inr (ci, va_up g k v))) else none
  | .inl _ => none
theorem e_pV {v : Value} {f : Unit → M α} (h0 : 0 < o) (h1 : o ≤ n) : bd (pV ci o k v) f (n, F) = sV ci o k v f n F (F o) := by
  unfold bd pV lk
  rw [if_pos ⟨h0, h1⟩]
  cases hF : F o with
  | inl a => simp [sV, hF]
  | inr q =>
    obtain ⟨c, g⟩ := q
    by_cases hc : c = ci
    · simp [sV, hc, hF]
    · simp [sV, hc, hF]
theorem e_pI {v : Int32} {f : Unit → M α} (h0 : 0 < o) (h1 : o ≤ n) : bd (pI ci o k v) f (n, F) = sV ci o k (.int v) f n F (F o) := e_pV h0 h1
theorem e_pL {v : Int64} {f : Unit → M α} (h0 : 0 < o) (h1 : o ≤ n) : bd (pL ci o k v) f (n, F) = sV ci o k (.long v) f n F (F o) := e_pV h0 h1
theorem e_pR {v : Nat} {f : Unit → M α} (h0 : 0 < o) (h1 : o ≤ n) : bd (pR ci o k v) f (n, F) = sV ci o k (.ref v) f n F (F o) := e_pV h0 h1
theorem e_pZ {f : Unit → M α} (h0 : 0 < o) (h1 : o ≤ n) : bd (pZ ci o k 1) f (n, F) = sV ci o k (.int 1) f n F (F o) := by
  have : bd (pZ ci o k 1) f (n, F) = bd (pV ci o k (.int 1)) f (n, F) := by
    unfold bd pZ
    rw [if_pos (Or.inr rfl)]
  rw [this]
  exact e_pV h0 h1
theorem sV_r {v : Value} {f : Unit → M α} {g : Nat → Value} : sV ci o k v f n F (.inr (ci, g)) = f () (n, va_up F o (.inr (ci, va_up g k v))) := by simp [sV]
def sG (ci k : Nat) (f : Nat → M α) (n : Nat) (F : Nat → AE) (e : AE) : Option (α × AH) := match e with
  | .inr (c, g) => if c = ci then (match g k with
    | .ref v => f v (n, F)
    | _ => none) else none
  | .inl _ => none
theorem e_gR {f : Nat → M α} (h0 : 0 < o) (h1 : o ≤ n) : bd (gR ci o k) f (n, F) = sG ci k f n F (F o) := by
  unfold bd gR lk
  rw [if_pos ⟨h0, h1⟩]
  cases hF : F o with
  | inl a => simp [sG, hF]
  | inr q =>
    obtain ⟨c, g⟩ := q
    by_cases hc : c = ci
    · cases hg : g k <;> simp [sG, hc, hg, hF]
    · simp [sG, hc, hF]
def sR (f : Nat → M α) (n : Nat) (F : Nat → AE) (v : Value) : Option (α × AH) := match v with
  | .ref v => f v (n, F)
  | _ => none
theorem sG_r {f : Nat → M α} {g : Nat → Value} : sG ci k f n F (.inr (ci, g)) = sR f n F (g k) := by
  cases hg : g k <;> simp [sG, sR, hg]
theorem sR_r {f : Nat → M α} {v : Nat} : sR f n F (.ref v) = f v (n, F) := rfl
theorem e_stL {f : Unit → M α} {N : Nat} {g : Nat → Int64} {i : Int32} {v : Int64} (h0 : 0 < o) (h1 : o ≤ n) (hF : F o = .inl (1, N, .inr (.inl g))) (hi : ¬ (i < 0 ∨ N ≤ i.toNatClampNeg)) : bd (stL o i v) f (n, F) = f () (n, va_up F o (.inl (1, N, .inr (.inl (va_up g i.toNatClampNeg v))))) := by
  unfold bd stL lk
  rw [if_pos ⟨h0, h1⟩]
  simp [hF, hi]
theorem e_stR {f : Unit → M α} {t N v j : Nat} {g : Nat → Option Nat} {G : Nat → Value} (h0 : 0 < o) (h1 : o ≤ n) (h2 : 0 < v) (h3 : v ≤ n) (hF : F o = .inl (t, N, .inr (.inr (.inr (.inr g))))) (hv : F v = .inr (ci, G)) (hj : j < N) (hN : N < 2 ^ 31) : bd (stR t ci o (nI j) v) f (n, F) = f () (n, va_up F o (.inl (t, N, .inr (.inr (.inr (.inr (va_up g j (some v)))))))) := by
  have hi : ¬ (nI j < 0) := nI_pos (by omega)
  have hc : (nI j).toNatClampNeg = j := nI_clamp (by omega)
  unfold bd stR lk
  rw [if_pos ⟨h0, h1⟩, if_pos ⟨h2, h3⟩]
  simp [hF, hv, hi, hc, hj]
end Steps
