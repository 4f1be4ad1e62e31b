/-! The step, as a function; a twin of the class makes it. -/
abbrev TT : Type := (Nat → Int64) × List Int32
def pAdd (s : Nat) (x v : Int64) (N : Nat → Int64) : Nat → Int64 :=
  va_up (va_up (va_up N (6 * s + 2) (N (6 * s + 2) + x)) (6 * s + 3) (N (6 * s + 3) + v)) (6 * s) (N (6 * s) + (x - v))
def pLeak (s : Nat) (f : Int64) (N : Nat → Int64) : Nat → Int64 :=
  va_up (va_up N (6 * s + 4) (N (6 * s + 4) + N (6 * s) * f / 256)) (6 * s) (N (6 * s) - N (6 * s) * f / 256)
def pCut (s : Nat) (b : Int64) (N : Nat → Int64) : Nat → Int64 :=
  va_up (va_up N (6 * s) (mmax (-b) (mmin b (N (6 * s))))) (6 * s + 5) (N (6 * s + 5) + (N (6 * s) - mmax (-b) (mmin b (N (6 * s)))))
/-- the numbers of a stage behind its taking -/
def pNum (k : Int32) (f : Int64) (c : Int32) (s : Nat) (x v u : Int64) (N : Nat → Int64) : Nat → Int64 :=
  if k = 1 then pAdd s x v (pLeak s f N)
  else if k = 2 then pCut s f (pAdd s x v N)
  else if k = 3 then
    va_up (pCut s f (pAdd s (x - N (6 * s + 1) * c.toInt64 / 256) v N)) (6 * s + 1) (pCut s f (pAdd s (x - N (6 * s + 1) * c.toInt64 / 256) v N) (6 * s + 1) + pCut s f (pAdd s (x - N (6 * s + 1) * c.toInt64 / 256) v N) (6 * s) * c.toInt64 / 256)
  else if k = 4 then pAdd s (x + c.toInt64 * u) v (pLeak s f N)
  else pAdd s x v N
def pMrk (k : Int32) : List Int32 := if k = 1 then [11, 10] else if k = 2 then [12, 10] else if k = 3 then [13, 12, 10] else if k = 4 then [14, 11, 10] else [10]
theorem pMrk_len (k : Int32) : (pMrk k).length ≤ 3 := by unfold pMrk; repeat (first | split | decide)
/-- what a row of marks holds -/
def HasM (f : Nat → Int32) (n : Int32) (l : List Int32) : Prop := n = nI l.length ∧ ∀ i c, l[i]? = some c → f i = c
theorem HasM.nil {f : Nat → Int32} : HasM f 0 [] := ⟨rfl, fun i c h => by simp at h⟩
theorem HasM.add {f : Nat → Int32} {n : Int32} {l : List Int32} (c : Int32) (h : HasM f n l) : HasM (va_up f l.length c) (n + 1) (l ++ [c]) := by
  refine ⟨?_, fun i c' hi => ?_⟩
  · rw [h.1, List.length_append, na_1]; rfl
  · by_cases hl : i < l.length
    · rw [List.getElem?_append_left hl] at hi
      rw [up_ne (by omega)]
      exact h.2 i c' hi
    · rw [List.getElem?_append_right (by omega)] at hi
      have h0 : i - l.length < 1 := (List.getElem?_eq_some_iff.mp hi).1
      rw [show i - l.length = 0 by omega] at hi
      have hc : c = c' := by simpa using hi
      rw [show i = l.length by omega, up_same, hc]
def IsTw (a : Nat) : Prop := kd a = 6 ∧ kd (a + 1) = 11 ∧ ln (a + 1) = 30 ∧ kd (a + 2) = 10 ∧ ln (a + 2) = 15 ∧ (∀ σ, rf σ a 0 = 15 ∧ rf σ a 1 = a + 1 ∧ rf σ a 2 = a + 2) ∧ 34 < a ∧ a < 79
theorem tw_now : IsTw 75 := ⟨rfl, rfl, rfl, rfl, rfl, fun _ => ⟨rfl, rfl, rfl⟩, by decide, by decide⟩
theorem tw_next : IsTw 78 := ⟨rfl, rfl, rfl, rfl, rfl, fun _ => ⟨rfl, rfl, rfl⟩, by decide, by decide⟩
theorem tw_w : ∀ d, d < 13 → IsTw (35 + 3 * d)
  | 0, _ => ⟨rfl, rfl, rfl, rfl, rfl, fun _ => ⟨rfl, rfl, rfl⟩, by decide, by decide⟩
  | 1, _ => ⟨rfl, rfl, rfl, rfl, rfl, fun _ => ⟨rfl, rfl, rfl⟩, by decide, by decide⟩
  | 2, _ => ⟨rfl, rfl, rfl, rfl, rfl, fun _ => ⟨rfl, rfl, rfl⟩, by decide, by decide⟩
  | 3, _ => ⟨rfl, rfl, rfl, rfl, rfl, fun _ => ⟨rfl, rfl, rfl⟩, by decide, by decide⟩
  | 4, _ => ⟨rfl, rfl, rfl, rfl, rfl, fun _ => ⟨rfl, rfl, rfl⟩, by decide, by decide⟩
  | 5, _ => ⟨rfl, rfl, rfl, rfl, rfl, fun _ => ⟨rfl, rfl, rfl⟩, by decide, by decide⟩
  | 6, _ => ⟨rfl, rfl, rfl, rfl, rfl, fun _ => ⟨rfl, rfl, rfl⟩, by decide, by decide⟩
  | 7, _ => ⟨rfl, rfl, rfl, rfl, rfl, fun _ => ⟨rfl, rfl, rfl⟩, by decide, by decide⟩
  | 8, _ => ⟨rfl, rfl, rfl, rfl, rfl, fun _ => ⟨rfl, rfl, rfl⟩, by decide, by decide⟩
  | 9, _ => ⟨rfl, rfl, rfl, rfl, rfl, fun _ => ⟨rfl, rfl, rfl⟩, by decide, by decide⟩
  | 10, _ => ⟨rfl, rfl, rfl, rfl, rfl, fun _ => ⟨rfl, rfl, rfl⟩, by decide, by decide⟩
  | 11, _ => ⟨rfl, rfl, rfl, rfl, rfl, fun _ => ⟨rfl, rfl, rfl⟩, by decide, by decide⟩
  | 12, _ => ⟨rfl, rfl, rfl, rfl, rfl, fun _ => ⟨rfl, rfl, rfl⟩, by decide, by decide⟩
  | n + 13, h => by omega
section TwinOps
variable {α : Type} {σ : SS} {a : Nat}
theorem tg0 (h : IsTw a) {f : Nat → M α} : bd (gR 6 a 0) f (lay σ) = f 15 (lay σ) := by rw [bd_gR h.1 rfl (by decide), (h.2.2.2.2.2.1 σ).1]
theorem tg1 (h : IsTw a) {f : Nat → M α} : bd (gR 6 a 1) f (lay σ) = f (a + 1) (lay σ) := by rw [bd_gR h.1 rfl (by decide), (h.2.2.2.2.2.1 σ).2.1]
theorem tg2 (h : IsTw a) {f : Nat → M α} : bd (gR 6 a 2) f (lay σ) = f (a + 2) (lay σ) := by rw [bd_gR h.1 rfl (by decide), (h.2.2.2.2.2.1 σ).2.2]
theorem tld (h : IsTw a) {f : Int64 → M α} {j : Nat} (hj : j < 30) : bd (ldL (a + 1) (nI j)) f (lay σ) = f (σ.2.1 (a + 1) j) (lay σ) := bd_ldL h.2.1 (by rw [h.2.2.1]; exact hj)
theorem tst (h : IsTw a) {f : Unit → M α} {j : Nat} {v : Int64} (hj : j < 30) : bd (stL (a + 1) (nI j) v) f (lay σ) = f () (lay (sL σ (a + 1) (va_up (σ.2.1 (a + 1)) j v))) := bd_stL h.2.1 (by rw [h.2.2.1]; exact hj)
theorem tsm (h : IsTw a) {f : Unit → M α} {j : Nat} {v : Int32} (hj : j < 15) : bd (stI (a + 2) (nI j) v) f (lay σ) = f () (lay (sI σ (a + 2) (va_up (σ.1 (a + 2)) j v))) := bd_stI h.2.2.2.1 (by rw [h.2.2.2.2.1]; exact hj)
theorem bd_ldv {x y : Int64} {f : Int64 → M α} (h : y ≠ 0) : bd (ldv x y) f (lay σ) = f (x / y) (lay σ) := bd_eq (by unfold ldv; rw [if_neg h])
theorem bd_lrm {x y : Int64} {f : Int64 → M α} (h : y ≠ 0) : bd (lrm x y) f (lay σ) = f (x - x / y * y) (lay σ) := bd_eq (by unfold lrm; rw [if_neg h])
end TwinOps
theorem s_mark {σ : SS} {a : Nat} (hT : IsTw a) {k : Int32} {l : List Int32} (hm : HasM (σ.1 (a + 2)) (σ.1 (fa a 3) 0) l) (hl : l.length < 15) :
    ∃ τ, m_Tw_mark a k (lay σ) = some ((), lay τ) ∧ Mod [a + 2, fa a 3] σ τ ∧ HasM (τ.1 (a + 2)) (τ.1 (fa a 3) 0) (l ++ [10 + k]) := by
  have h6 := hT.1
  have hlt := hT.2.2.2.2.2.2
  unfold m_Tw_mark
  have hn : fa a 3 ≠ a + 2 := by unfold fa; omega
  refine ⟨sI (sI σ (a + 2) (va_up (σ.1 (a + 2)) l.length (10 + k))) (fa a 3) (fun _ => nI (l.length + 1)), ?_, ?_, ?_⟩
  · simp (disch := first | assumption | rfl | decide | omega) only [↓ckd_lay, ↓bd_gI, ↓bd_gL, ↓bd_pI, ↓bd_pL, ↓bd_pZ, ↓bd_now, ↓bd_next, ↓bd_ldR3, ↓bd_ldR4, ↓ap_ite, ↓ap_rt, ↓ap_lt, ↓rz_0, ↓rz_1, rz_bi, ↓tg0 hT, ↓tg1 hT, ↓tg2 hT, ↓tld hT, ↓tst hT, ↓tsm hT, ↓bd_ldv, hm.1, sI_ne hn, ln_15, na_1]
    rw [if_neg (by omega)]
  · exact (Mod.I (by simp)).tr (Mod.I (by simp))
  · rw [sI_ne (Ne.symm hn), sI_same, sI_same, ← na_1, ← hm.1]
    exact hm.add _
theorem s_turnedBy {σ : SS} {a s w : Nat} (hT : IsTw a) (hs : s < 5) (hw : w < 6) : m_Tw_turnedBy a (nI s) (nI w) (lay σ) = some (σ.2.1 (a + 1) (6 * s + w) * (σ.1 18 s).toInt64 / 256, lay σ) := by
  have h6 := hT.1
  unfold m_Tw_turnedBy
  simp (disch := first | assumption | rfl | decide | omega) only [↓ckd_lay, ↓bd_gI, ↓bd_gL, ↓bd_pI, ↓bd_pL, ↓bd_pZ, ↓bd_now, ↓bd_next, ↓bd_ldR3, ↓bd_ldR4, ↓ap_ite, ↓ap_rt, ↓ap_lt, ↓rz_0, ↓rz_1, rz_bi, ↓tg0 hT, ↓tg1 hT, ↓tg2 hT, ↓tld hT, ↓tst hT, ↓tsm hT, ↓bd_ldv, ↓gr_15_2, ↓la_18, ↓st_18, na_0, na_1, na_2, na_3, na_4, na_5, na_6, na_7, na_8, na_10, na_11, na_12, na_13, na_15, na_16, na_30, na_60, na_300, an_0, an_1, an_2, an_3, an_4, an_5, an_6, an_7, an_8, an_10, an_11, an_12, an_13, an_15, an_16, an_30, an_60, an_300, nm_0, nm_1, nm_2, nm_3, nm_4, nm_5, nm_6, nm_7, nm_8, nm_10, nm_11, nm_12, nm_13, nm_15, nm_16, nm_30, nm_60, nm_300, mn_0, mn_1, mn_2, mn_3, mn_4, mn_5, mn_6, mn_7, mn_8, mn_10, mn_11, mn_12, mn_13, mn_15, mn_16, mn_30, mn_60, mn_300, nI_add, pk_mul, Nat.mul_comm s 6]
theorem s_leak {σ : SS} {a s : Nat} (hT : IsTw a) (hs : s < 5) : m_Tw_leak a (nI s) (lay σ) = some ((), lay (sL σ (a + 1) (pLeak s (σ.2.1 17 s) (σ.2.1 (a + 1))))) := by
  have h6 := hT.1
  have h17 : (17 : Nat) ≠ a + 1 := by have := hT.2.2.2.2.2.2; omega
  unfold m_Tw_leak
  simp (disch := first | assumption | rfl | decide | omega) only [↓ckd_lay, ↓bd_gI, ↓bd_gL, ↓bd_pI, ↓bd_pL, ↓bd_pZ, ↓bd_now, ↓bd_next, ↓bd_ldR3, ↓bd_ldR4, ↓ap_ite, ↓ap_rt, ↓ap_lt, ↓rz_0, ↓rz_1, rz_bi, ↓tg0 hT, ↓tg1 hT, ↓tg2 hT, ↓tld hT, ↓tst hT, ↓tsm hT, ↓bd_ldv, ↓gr_15_1, ↓la_17, ↓st_17, na_0, na_1, na_2, na_3, na_4, na_5, na_6, na_7, na_8, na_10, na_11, na_12, na_13, na_15, na_16, na_30, na_60, na_300, an_0, an_1, an_2, an_3, an_4, an_5, an_6, an_7, an_8, an_10, an_11, an_12, an_13, an_15, an_16, an_30, an_60, an_300, nm_0, nm_1, nm_2, nm_3, nm_4, nm_5, nm_6, nm_7, nm_8, nm_10, nm_11, nm_12, nm_13, nm_15, nm_16, nm_30, nm_60, nm_300, mn_0, mn_1, mn_2, mn_3, mn_4, mn_5, mn_6, mn_7, mn_8, mn_10, mn_11, mn_12, mn_13, mn_15, mn_16, mn_30, mn_60, mn_300, nI_add, pk_mul, Nat.mul_comm s 6, sL_same, sL_ne, sL_sL, up_same, up_ne, Nat.add_zero, pLeak, pAdd]
theorem s_addUp {σ : SS} {a s : Nat} {x v : Int64} (hT : IsTw a) (hs : s < 5) : m_Tw_addUp a (nI s) x v (lay σ) = some ((), lay (sL σ (a + 1) (pAdd s x v (σ.2.1 (a + 1))))) := by
  have h6 := hT.1
  unfold m_Tw_addUp
  simp (disch := first | assumption | rfl | decide | omega) only [↓ckd_lay, ↓bd_gI, ↓bd_gL, ↓bd_pI, ↓bd_pL, ↓bd_pZ, ↓bd_now, ↓bd_next, ↓bd_ldR3, ↓bd_ldR4, ↓ap_ite, ↓ap_rt, ↓ap_lt, ↓rz_0, ↓rz_1, rz_bi, ↓tg0 hT, ↓tg1 hT, ↓tg2 hT, ↓tld hT, ↓tst hT, ↓tsm hT, ↓bd_ldv, na_0, na_1, na_2, na_3, na_4, na_5, na_6, na_7, na_8, na_10, na_11, na_12, na_13, na_15, na_16, na_30, na_60, na_300, an_0, an_1, an_2, an_3, an_4, an_5, an_6, an_7, an_8, an_10, an_11, an_12, an_13, an_15, an_16, an_30, an_60, an_300, nm_0, nm_1, nm_2, nm_3, nm_4, nm_5, nm_6, nm_7, nm_8, nm_10, nm_11, nm_12, nm_13, nm_15, nm_16, nm_30, nm_60, nm_300, mn_0, mn_1, mn_2, mn_3, mn_4, mn_5, mn_6, mn_7, mn_8, mn_10, mn_11, mn_12, mn_13, mn_15, mn_16, mn_30, mn_60, mn_300, nI_add, pk_mul, Nat.mul_comm s 6, sL_same, sL_ne, sL_sL, up_same, up_ne, Nat.add_zero, pLeak, pAdd]
theorem s_cutToBound {σ : SS} {a s : Nat} (hT : IsTw a) (hs : s < 5) : m_Tw_cutToBound a (nI s) (lay σ) = some ((), lay (sL σ (a + 1) (pCut s (σ.2.1 17 s) (σ.2.1 (a + 1))))) := by
  have h6 := hT.1
  have h17 : (17 : Nat) ≠ a + 1 := by have := hT.2.2.2.2.2.2; omega
  unfold m_Tw_cutToBound
  simp (disch := first | assumption | rfl | decide | omega) only [↓ckd_lay, ↓bd_gI, ↓bd_gL, ↓bd_pI, ↓bd_pL, ↓bd_pZ, ↓bd_now, ↓bd_next, ↓bd_ldR3, ↓bd_ldR4, ↓ap_ite, ↓ap_rt, ↓ap_lt, ↓rz_0, ↓rz_1, rz_bi, ↓tg0 hT, ↓tg1 hT, ↓tg2 hT, ↓tld hT, ↓tst hT, ↓tsm hT, ↓bd_ldv, ↓gr_15_1, ↓la_17, ↓st_17, na_0, na_1, na_2, na_3, na_4, na_5, na_6, na_7, na_8, na_10, na_11, na_12, na_13, na_15, na_16, na_30, na_60, na_300, an_0, an_1, an_2, an_3, an_4, an_5, an_6, an_7, an_8, an_10, an_11, an_12, an_13, an_15, an_16, an_30, an_60, an_300, nm_0, nm_1, nm_2, nm_3, nm_4, nm_5, nm_6, nm_7, nm_8, nm_10, nm_11, nm_12, nm_13, nm_15, nm_16, nm_30, nm_60, nm_300, mn_0, mn_1, mn_2, mn_3, mn_4, mn_5, mn_6, mn_7, mn_8, mn_10, mn_11, mn_12, mn_13, mn_15, mn_16, mn_30, mn_60, mn_300, nI_add, pk_mul, Nat.mul_comm s 6, sL_same, sL_ne, sL_sL, up_same, up_ne, Nat.add_zero, pCut]
theorem mk_ne {a : Nat} (hT : IsTw a) : a + 1 ∉ [a + 2, fa a 3] ∧ 15 ∉ [a + 2, fa a 3] ∧ 16 ∉ [a + 2, fa a 3] ∧ 17 ∉ [a + 2, fa a 3] ∧ 18 ∉ [a + 2, fa a 3] := by
  have := hT.2.2.2.2.2.2
  unfold fa
  simp
  omega
theorem q_turnedBy {α : Type} {σ : SS} {a s w : Nat} {f : Int64 → M α} (hT : IsTw a) (hs : s < 5) (hw : w < 6) : bd (m_Tw_turnedBy a (nI s) (nI w)) f (lay σ) = f (σ.2.1 (a + 1) (6 * s + w) * (σ.1 18 s).toInt64 / 256) (lay σ) := bd_eq (s_turnedBy hT hs hw)
theorem s_take150 {σ : SS} {a s : Nat} {k : Int32} (hT : IsTw a) (hs : s < 5) : m_Tw_takeStage_150 a (nI s) k (lay σ) = some ((), lay (if k = 3 then sL σ (a + 1) (va_up (σ.2.1 (a + 1)) (6 * s + 1) (σ.2.1 (a + 1) (6 * s + 1) + σ.2.1 (a + 1) (6 * s) * (σ.1 18 s).toInt64 / 256)) else σ)) := by
  have h6 := hT.1
  unfold m_Tw_takeStage_150
  by_cases hk : k = 3
  · simp (disch := first | assumption | rfl | decide | omega) only [↓ckd_lay, ↓bd_gI, ↓bd_gL, ↓bd_pI, ↓bd_pL, ↓bd_pZ, ↓bd_now, ↓bd_next, ↓bd_ldR3, ↓bd_ldR4, ↓ap_ite, ↓ap_rt, ↓ap_lt, ↓rz_0, ↓rz_1, rz_bi, hk, if_true, ↓tg0 hT, ↓tg1 hT, ↓tg2 hT, ↓tld hT, ↓tst hT, ↓tsm hT, ↓bd_ldv, na_0, na_1, na_2, na_3, na_4, na_5, na_6, na_7, na_8, na_10, na_11, na_12, na_13, na_15, na_16, na_30, na_60, na_300, an_0, an_1, an_2, an_3, an_4, an_5, an_6, an_7, an_8, an_10, an_11, an_12, an_13, an_15, an_16, an_30, an_60, an_300, nm_0, nm_1, nm_2, nm_3, nm_4, nm_5, nm_6, nm_7, nm_8, nm_10, nm_11, nm_12, nm_13, nm_15, nm_16, nm_30, nm_60, nm_300, mn_0, mn_1, mn_2, mn_3, mn_4, mn_5, mn_6, mn_7, mn_8, mn_10, mn_11, mn_12, mn_13, mn_15, mn_16, mn_30, mn_60, mn_300, nI_add, pk_mul, Nat.mul_comm s 6, ↓q_turnedBy hT hs, lit_0, Nat.add_zero]
  · simp only [↓ap_ite, ↓ap_rt, hk, if_false]
/-- a twin on its way through a stage -/
def TS (σ0 : SS) (a : Nat) (σ : SS) (N : Nat → Int64) (l : List Int32) : Prop := Mod [a + 1, a + 2, fa a 3] σ0 σ ∧ σ.2.1 (a + 1) = N ∧ HasM (σ.1 (a + 2)) (σ.1 (fa a 3) 0) l
section TSs
variable {σ0 σ : SS} {a s : Nat} {N : Nat → Int64} {l : List Int32}
theorem TS.far (h : TS σ0 a σ N l) (hT : IsTw a) {o : Nat} (ho : o < 35) : σ.1 o = σ0.1 o ∧ σ.2.1 o = σ0.2.1 o := by
  refine h.1.1 o ?_
  have := hT.2.2.2.2.2.2
  unfold fa
  simp
  omega
theorem TS.setN (h : TS σ0 a σ N l) (hT : IsTw a) (N' : Nat → Int64) : TS σ0 a (sL σ (a + 1) N') N' l := ⟨h.1.tr (Mod.L (by simp)), sL_same, h.2.2⟩
theorem TS.mark (h : TS σ0 a σ N l) (hT : IsTw a) (hl : l.length < 15) (k : Int32) : ∃ τ, m_Tw_mark a k (lay σ) = some ((), lay τ) ∧ TS σ0 a τ N (l ++ [10 + k]) := by
  obtain ⟨τ, e, d, m⟩ := s_mark (k := k) hT h.2.2 hl
  exact ⟨τ, e, h.1.tr (d.mono (by simp)), (d.l (mk_ne hT).1).trans h.2.1, m⟩
theorem TS.leak (h : TS σ0 a σ N l) (hT : IsTw a) (hs : s < 5) : ∃ τ, m_Tw_leak a (nI s) (lay σ) = some ((), lay τ) ∧ TS σ0 a τ (pLeak s (σ0.2.1 17 s) N) l := by
  refine ⟨_, s_leak hT hs, ?_⟩
  rw [(h.far hT (by decide : 17 < 35)).2, h.2.1]
  exact h.setN hT _
theorem TS.add (h : TS σ0 a σ N l) (hT : IsTw a) (hs : s < 5) (x v : Int64) : ∃ τ, m_Tw_addUp a (nI s) x v (lay σ) = some ((), lay τ) ∧ TS σ0 a τ (pAdd s x v N) l := by
  refine ⟨_, s_addUp hT hs, ?_⟩
  rw [h.2.1]
  exact h.setN hT _
theorem TS.cut (h : TS σ0 a σ N l) (hT : IsTw a) (hs : s < 5) : ∃ τ, m_Tw_cutToBound a (nI s) (lay σ) = some ((), lay τ) ∧ TS σ0 a τ (pCut s (σ0.2.1 17 s) N) l := by
  refine ⟨_, s_cutToBound hT hs, ?_⟩
  rw [(h.far hT (by decide : 17 < 35)).2, h.2.1]
  exact h.setN hT _
theorem TS.no (h : TS σ0 a σ N l) (hT : IsTw a) (hs : s < 5) {k : Int32} (hk : ¬ k = 3) : m_Tw_takeStage_150 a (nI s) k (lay σ) = some ((), lay σ) := by
  rw [s_take150 hT hs, if_neg hk]
theorem TS.turn (h : TS σ0 a σ N l) (hT : IsTw a) (hs : s < 5) : ∃ τ, m_Tw_takeStage_150 a (nI s) 3 (lay σ) = some ((), lay τ) ∧ TS σ0 a τ (va_up N (6 * s + 1) (N (6 * s + 1) + N (6 * s) * (σ0.1 18 s).toInt64 / 256)) l := by
  refine ⟨_, s_take150 hT hs, ?_⟩
  rw [if_pos rfl, (h.far hT (by decide : 18 < 35)).1, h.2.1]
  exact h.setN hT _
end TSs
/-- the taking of a stage -/
theorem s_takeStage {σ : SS} {a s : Nat} {x v u : Int64} {l : List Int32} {N : Nat → Int64} {k : Int32} (hT : IsTw a) (hs : s < 5) (h0 : TS σ a σ N l) (hl : l.length + 3 ≤ 15) (hk : σ.1 16 s = k) :
    ∃ τ, m_Tw_takeStage a (nI s) x v u (lay σ) = some ((), lay τ) ∧ TS σ a τ (pNum k (σ.2.1 17 s) (σ.1 18 s) s x v u N) (l ++ pMrk k) := by
  have h6 := hT.1
  unfold m_Tw_takeStage
  simp (disch := first | assumption | rfl | decide | omega) only [↓ckd_lay, ↓bd_gI, ↓bd_gL, ↓bd_pI, ↓bd_pL, ↓bd_pZ, ↓bd_now, ↓bd_next, ↓bd_ldR3, ↓bd_ldR4, ↓ap_ite, ↓ap_rt, ↓ap_lt, ↓rz_0, ↓rz_1, rz_bi, ↓tg0 hT, ↓tg1 hT, ↓tg2 hT, ↓tld hT, ↓tst hT, ↓tsm hT, ↓bd_ldv, ↓gr_15_0, ↓la_16, ↓st_16, hk]
  unfold m_Tw_takeStage_28 m_Tw_takeStage_47 m_Tw_takeStage_73 m_Tw_takeStage_101 m_Tw_takeStage_126
  by_cases k1 : k = 1
  · subst k1
    simp only [↓ap_ite, if_true, (by decide : ¬ (1 : Int32) = 2), (by decide : ¬ (1 : Int32) = 3), (by decide : ¬ (1 : Int32) = 4), (by decide : ¬ (1 : Int32) = 0), if_false]
    obtain ⟨τ1, e1, t1⟩ := h0.mark hT (by omega) 1
    rw [bd_eq e1]
    obtain ⟨τ2, e2, t2⟩ := t1.leak hT hs
    rw [bd_eq e2]
    obtain ⟨τ3, e3, t3⟩ := t2.mark hT (by simp; omega) 0
    rw [bd_eq e3]
    obtain ⟨τ4, e4, t4⟩ := t3.add hT hs x v
    rw [bd_eq e4]
    refine ⟨τ4, t4.no hT hs (by decide), ?_⟩
    have : pNum 1 (σ.2.1 17 s) (σ.1 18 s) s x v u N = pAdd s x v (pLeak s (σ.2.1 17 s) N) := by unfold pNum; rw [if_pos rfl]
    rw [this]
    simpa [pMrk] using t4
  · by_cases k4 : k = 4
    · subst k4
      simp only [↓ap_ite, if_true, (by decide : ¬ (4 : Int32) = 2), (by decide : ¬ (4 : Int32) = 3), (by decide : ¬ (4 : Int32) = 1), (by decide : ¬ (4 : Int32) = 0), (by decide : ¬ (1 : Int32) = 0), if_false]
      obtain ⟨τ1, e1, t1⟩ := h0.mark hT (by omega) 4
      rw [bd_eq e1]
      simp (disch := first | assumption | rfl | decide | omega) only [↓ckd_lay, ↓bd_gI, ↓bd_gL, ↓bd_pI, ↓bd_pL, ↓bd_pZ, ↓bd_now, ↓bd_next, ↓bd_ldR3, ↓bd_ldR4, ↓ap_ite, ↓ap_rt, ↓ap_lt, ↓rz_0, ↓rz_1, rz_bi, ↓tg0 hT, ↓tg1 hT, ↓tg2 hT, ↓tld hT, ↓tst hT, ↓tsm hT, ↓bd_ldv, ↓gr_15_2, ↓la_18, ↓st_18, (t1.far hT (by decide : 18 < 35)).1, (by decide : ¬ (1 : Int32) = 0), if_false]
      obtain ⟨τ2, e2, t2⟩ := t1.mark hT (by simp; omega) 1
      rw [bd_eq e2]
      obtain ⟨τ3, e3, t3⟩ := t2.leak hT hs
      rw [bd_eq e3]
      obtain ⟨τ4, e4, t4⟩ := t3.mark hT (by simp; omega) 0
      rw [bd_eq e4]
      obtain ⟨τ5, e5, t5⟩ := t4.add hT hs (x + (σ.1 18 s).toInt64 * u) v
      rw [bd_eq e5]
      refine ⟨τ5, t5.no hT hs (by decide), ?_⟩
      have : pNum 4 (σ.2.1 17 s) (σ.1 18 s) s x v u N = pAdd s (x + (σ.1 18 s).toInt64 * u) v (pLeak s (σ.2.1 17 s) N) := by unfold pNum; rfl
      rw [this]
      simpa [pMrk] using t5
    · by_cases k2 : k = 2
      · subst k2
        simp only [↓ap_ite, if_true, (by decide : ¬ (2 : Int32) = 1), (by decide : ¬ (2 : Int32) = 3), (by decide : ¬ (2 : Int32) = 4), (by decide : ¬ (2 : Int32) = 0), (by decide : ¬ (1 : Int32) = 0), if_false]
        obtain ⟨τ1, e1, t1⟩ := h0.mark hT (by omega) 2
        rw [bd_eq e1]
        obtain ⟨τ2, e2, t2⟩ := t1.mark hT (by simp; omega) 0
        rw [bd_eq e2]
        obtain ⟨τ3, e3, t3⟩ := t2.add hT hs x v
        rw [bd_eq e3]
        obtain ⟨τ4, e4, t4⟩ := t3.cut hT hs
        rw [bd_eq e4]
        refine ⟨τ4, t4.no hT hs (by decide), ?_⟩
        have : pNum 2 (σ.2.1 17 s) (σ.1 18 s) s x v u N = pCut s (σ.2.1 17 s) (pAdd s x v N) := by unfold pNum; rfl
        rw [this]
        simpa [pMrk] using t4
      · by_cases k3 : k = 3
        · subst k3
          simp only [↓ap_ite, if_true, (by decide : ¬ (3 : Int32) = 1), (by decide : ¬ (3 : Int32) = 2), (by decide : ¬ (3 : Int32) = 4), (by decide : ¬ (3 : Int32) = 0), (by decide : ¬ (1 : Int32) = 0), if_false]
          obtain ⟨τ1, e1, t1⟩ := h0.mark hT (by omega) 3
          rw [bd_eq e1, lit_1, q_turnedBy hT hs (by decide), ap_lt, (t1.far hT (by decide : 18 < 35)).1, t1.2.1]
          try simp only [↓ap_ite, ← lit_1, if_true, (by decide : ¬ (3 : Int32) = 4), (by decide : ¬ (1 : Int32) = 0), if_false]
          obtain ⟨τ2, e2, t2⟩ := t1.mark hT (by simp; omega) 2
          rw [bd_eq e2]
          obtain ⟨τ3, e3, t3⟩ := t2.mark hT (by simp; omega) 0
          rw [bd_eq e3]
          obtain ⟨τ4, e4, t4⟩ := t3.add hT hs (x - N (6 * s + 1) * (σ.1 18 s).toInt64 / 256) v
          rw [bd_eq e4]
          obtain ⟨τ5, e5, t5⟩ := t4.cut hT hs
          rw [bd_eq e5]
          obtain ⟨τ6, e6, t6⟩ := t5.turn hT hs
          refine ⟨τ6, e6, ?_⟩
          have : pMrk 3 = [13, 12, 10] := rfl
          unfold pNum
          simpa [this] using t6
        · simp only [↓ap_ite, k1, k2, k3, k4, if_false, if_true]
          obtain ⟨τ3, e3, t3⟩ := h0.mark hT (by omega) 0
          rw [bd_eq e3]
          obtain ⟨τ4, e4, t4⟩ := t3.add hT hs x v
          rw [bd_eq e4]
          refine ⟨τ4, t4.no hT hs k3, ?_⟩
          unfold pNum
          rw [if_neg k1, if_neg k2, if_neg k3, if_neg k4]
          simpa [pMrk, k1, k2, k3, k4] using t4
