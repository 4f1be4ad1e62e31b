/-! The constructors at their places. -/
section Place
variable {α : Type} {n o : Nat} {F : Nat → AE}
def sT (o : Nat) (i : Int32) (v : Int64) (f : Unit → M α) (n : Nat) (F : Nat → AE) (e : AE) : Option (α × AH) := match e with
  | .inl (t, N, .inr (.inl g)) => if t = 1 ∧ ¬ (i < 0 ∨ N ≤ i.toNatClampNeg) then f () (n, va_up F o (.inl (1, N, .inr (.inl (va_up g i.toNatClampNeg v))))) else none
  | _ => none
theorem e_sT {i : Int32} {v : Int64} {f : Unit → M α} (h0 : 0 < o) (h1 : o ≤ n) : bd (stL o i v) f (n, F) = sT o i v f n F (F o) := by
  unfold bd stL lk
  rw [if_pos ⟨h0, h1⟩]
  cases hF : F o with
  | inr q => simp [sT, hF]
  | inl q =>
    obtain ⟨t, N, a⟩ := q
    rcases a with a | a | a | a | a
    · simp [sT, hF]
    · by_cases hc : t = 1 ∧ ¬ (i < 0 ∨ N ≤ i.toNatClampNeg)
      · simp only [sT, hF, if_pos hc]
      · simp only [sT, hF, if_neg hc]
    · simp [sT, hF]
    · simp [sT, hF]
    · simp [sT, hF]
theorem sT_0 {v : Int64} {f : Unit → M α} {g : Nat → Int64} : sT o 0 v f n F (.inl (1, 16, .inr (.inl g))) = f () (n, va_up F o (.inl (1, 16, .inr (.inl (va_up g 0 v))))) := by
  show (if (1 : Nat) = 1 ∧ ¬ ((0 : Int32) < 0 ∨ 16 ≤ (0 : Int32).toNatClampNeg) then f () (n, va_up F o (.inl (1, 16, .inr (.inl (va_up g (0 : Int32).toNatClampNeg v))))) else none) = _
  rw [if_pos (by decide)]
  rfl
theorem sT_1 {v : Int64} {f : Unit → M α} {g : Nat → Int64} : sT o 1 v f n F (.inl (1, 16, .inr (.inl g))) = f () (n, va_up F o (.inl (1, 16, .inr (.inl (va_up g 1 v))))) := by
  show (if (1 : Nat) = 1 ∧ ¬ ((1 : Int32) < 0 ∨ 16 ≤ (1 : Int32).toNatClampNeg) then f () (n, va_up F o (.inl (1, 16, .inr (.inl (va_up g (1 : Int32).toNatClampNeg v))))) else none) = _
  rw [if_pos (by decide)]
  rfl
theorem born_Sp {S : List Nat} (h : OkS 14 F S) : ∃ G, (∀ k : Nat → M α, bd (nw (.inr (5, fun j => defaultValue (tyX5 j)))) (fun v => bd (m_Sp_init v) (fun _ => k v)) (14, F) = k 15 (19, G)) ∧ OkS 19 G S ∧ (∀ q, q ≤ 14 → G q = F q) := by
  refine ⟨_, fun k => by (unfold m_Sp_init; simp (disch := first | decide | omega) only [bd_bd, bd_rt, e_nw, e_pR, e_pI, e_pL, e_pZ, e_gR, up_same, up_ne, sV_r, sG_r, sR_r, e_sT, sT_0, sT_1]; rfl), fun q q0 q1 qS => ?_, fun q hq => ?_⟩
  · by_cases a0 : q ≤ 14
    · simp (disch := first | decide | omega) only [up_ne]
      exact h q q0 a0 qS
    · have hq : q = 15 ∨ q = 16 ∨ q = 17 ∨ q = 18 ∨ q = 19 := by omega
      rcases hq with rfl | rfl | rfl | rfl | rfl
      · simp (disch := first | decide | omega) only [up_same, up_ne]
        refine EqE.obj rfl (by decide) (fun j hj => ?_)
        have hj8 : j < 8 := hj
        match j, hj8 with
        | 0, _ => rfl
        | 1, _ => rfl
        | 2, _ => rfl
        | 3, _ => rfl
        | 4, _ => rfl
        | 5, _ => rfl
        | 6, _ => rfl
        | 7, _ => rfl
      · simp (disch := first | decide | omega) only [up_same, up_ne]
        exact EqE.arI rfl rfl (by decide)
      · simp (disch := first | decide | omega) only [up_same, up_ne]
        exact EqE.arL rfl rfl (by decide)
      · simp (disch := first | decide | omega) only [up_same, up_ne]
        exact EqE.arI rfl rfl (by decide)
      · simp (disch := first | decide | omega) only [up_same, up_ne]
        exact Or.inl rfl
  · simp (disch := first | decide | omega) only [up_ne]
theorem born_Lg {S : List Nat} (h : OkS 19 F S) : ∃ G, (∀ k : Nat → M α, bd (nw (.inr (1, fun j => defaultValue (tyX1 j)))) (fun v => bd (m_Lg_init v) (fun _ => k v)) (19, F) = k 20 (22, G)) ∧ OkS 22 G S ∧ (∀ q, q ≤ 19 → G q = F q) := by
  refine ⟨_, fun k => by (unfold m_Lg_init; simp (disch := first | decide | omega) only [bd_bd, bd_rt, e_nw, e_pR, e_pI, e_pL, e_pZ, e_gR, up_same, up_ne, sV_r, sG_r, sR_r, e_sT, sT_0, sT_1]; rfl), fun q q0 q1 qS => ?_, fun q hq => ?_⟩
  · by_cases a0 : q ≤ 19
    · simp (disch := first | decide | omega) only [up_ne]
      exact h q q0 a0 qS
    · have hq : q = 20 ∨ q = 21 ∨ q = 22 := by omega
      rcases hq with rfl | rfl | rfl
      · simp (disch := first | decide | omega) only [up_same, up_ne]
        refine EqE.obj rfl (by decide) (fun j hj => ?_)
        have hj3 : j < 3 := hj
        match j, hj3 with
        | 0, _ => rfl
        | 1, _ => rfl
        | 2, _ => rfl
      · simp (disch := first | decide | omega) only [up_same, up_ne]
        exact EqE.arL rfl rfl (by decide)
      · simp (disch := first | decide | omega) only [up_same, up_ne]
        exact EqE.arL rfl rfl (by decide)
  · simp (disch := first | decide | omega) only [up_ne]
theorem born_Sn {S : List Nat} (h : OkS 22 F S) : ∃ G, (∀ k : Nat → M α, bd (nw (.inr (4, fun j => defaultValue (tyX4 j)))) (fun v => bd (m_Sn_init v) (fun _ => k v)) (22, F) = k 23 (26, G)) ∧ OkS 26 G S ∧ (∀ q, q ≤ 22 → G q = F q) := by
  refine ⟨_, fun k => by (unfold m_Sn_init; simp (disch := first | decide | omega) only [bd_bd, bd_rt, e_nw, e_pR, e_pI, e_pL, e_pZ, e_gR, up_same, up_ne, sV_r, sG_r, sR_r, e_sT, sT_0, sT_1]; rfl), fun q q0 q1 qS => ?_, fun q hq => ?_⟩
  · by_cases a0 : q ≤ 22
    · simp (disch := first | decide | omega) only [up_ne]
      exact h q q0 a0 qS
    · have hq : q = 23 ∨ q = 24 ∨ q = 25 ∨ q = 26 := by omega
      rcases hq with rfl | rfl | rfl | rfl
      · simp (disch := first | decide | omega) only [up_same, up_ne]
        refine EqE.obj rfl (by decide) (fun j hj => ?_)
        have hj6 : j < 6 := hj
        match j, hj6 with
        | 0, _ => rfl
        | 1, _ => rfl
        | 2, _ => rfl
        | 3, _ => rfl
        | 4, _ => rfl
        | 5, _ => rfl
      · simp (disch := first | decide | omega) only [up_same, up_ne]
        exact EqE.arL rfl rfl (by decide)
      · simp (disch := first | decide | omega) only [up_same, up_ne]
        exact EqE.arI rfl rfl (by decide)
      · simp (disch := first | decide | omega) only [up_same, up_ne]
        exact EqE.arL rfl rfl (by decide)
  · simp (disch := first | decide | omega) only [up_ne]
theorem born_Hd {S : List Nat} (h : OkS 26 F S) : ∃ G, (∀ k : Nat → M α, bd (nw (.inr (0, fun j => defaultValue (tyX0 j)))) (fun v => bd (m_Hd_init v 15 23) (fun _ => k v)) (26, F) = k 27 (28, G)) ∧ OkS 28 G S ∧ (∀ q, q ≤ 26 → G q = F q) := by
  refine ⟨_, fun k => by (unfold m_Hd_init; simp (disch := first | decide | omega) only [bd_bd, bd_rt, e_nw, e_pR, e_pI, e_pL, e_pZ, e_gR, up_same, up_ne, sV_r, sG_r, sR_r, e_sT, sT_0, sT_1]; rfl), fun q q0 q1 qS => ?_, fun q hq => ?_⟩
  · by_cases a0 : q ≤ 26
    · simp (disch := first | decide | omega) only [up_ne]
      exact h q q0 a0 qS
    · have hq : q = 27 ∨ q = 28 := by omega
      rcases hq with rfl | rfl
      · simp (disch := first | decide | omega) only [up_same, up_ne]
        refine EqE.obj rfl (by decide) (fun j hj => ?_)
        have hj6 : j < 6 := hj
        match j, hj6 with
        | 0, _ => rfl
        | 1, _ => rfl
        | 2, _ => rfl
        | 3, _ => rfl
        | 4, _ => rfl
        | 5, _ => rfl
      · simp (disch := first | decide | omega) only [up_same, up_ne]
        exact EqE.arL rfl rfl (by decide)
  · simp (disch := first | decide | omega) only [up_ne]
theorem born_Rc {S : List Nat} (h : OkS 28 F S) : ∃ G, (∀ k : Nat → M α, bd (nw (.inr (2, fun j => defaultValue (tyX2 j)))) (fun v => bd (m_Rc_init v 15 23) (fun _ => k v)) (28, F) = k 29 (32, G)) ∧ OkS 32 G S ∧ (∀ q, q ≤ 28 → G q = F q) := by
  refine ⟨_, fun k => by (unfold m_Rc_init; simp (disch := first | decide | omega) only [bd_bd, bd_rt, e_nw, e_pR, e_pI, e_pL, e_pZ, e_gR, up_same, up_ne, sV_r, sG_r, sR_r, e_sT, sT_0, sT_1]; rfl), fun q q0 q1 qS => ?_, fun q hq => ?_⟩
  · by_cases a0 : q ≤ 28
    · simp (disch := first | decide | omega) only [up_ne]
      exact h q q0 a0 qS
    · have hq : q = 29 ∨ q = 30 ∨ q = 31 ∨ q = 32 := by omega
      rcases hq with rfl | rfl | rfl | rfl
      · simp (disch := first | decide | omega) only [up_same, up_ne]
        refine EqE.obj rfl (by decide) (fun j hj => ?_)
        have hj6 : j < 6 := hj
        match j, hj6 with
        | 0, _ => rfl
        | 1, _ => rfl
        | 2, _ => rfl
        | 3, _ => rfl
        | 4, _ => rfl
        | 5, _ => rfl
      · simp (disch := first | decide | omega) only [up_same, up_ne]
        exact EqE.arI rfl rfl (by decide)
      · simp (disch := first | decide | omega) only [up_same, up_ne]
        exact EqE.arL rfl rfl (by decide)
      · simp (disch := first | decide | omega) only [up_same, up_ne]
        exact EqE.arL rfl rfl (by decide)
  · simp (disch := first | decide | omega) only [up_ne]
theorem born_Md {S : List Nat} (h : OkS 80 F S) : ∃ G, (∀ k : Nat → M α, bd (nw (.inr (9, fun j => defaultValue (tyX9 j)))) (fun v => bd (m_Md_init v) (fun _ => k v)) (80, F) = k 81 (106, G)) ∧ OkS 106 G S ∧ (∀ q, q ≤ 80 → G q = F q) := by
  refine ⟨_, fun k => by (unfold m_Md_init; simp (disch := first | decide | omega) only [bd_bd, bd_rt, e_nw, e_pR, e_pI, e_pL, e_pZ, e_gR, up_same, up_ne, sV_r, sG_r, sR_r, e_sT, sT_0, sT_1]; rfl), fun q q0 q1 qS => ?_, fun q hq => ?_⟩
  · by_cases a0 : q ≤ 80
    · simp (disch := first | decide | omega) only [up_ne]
      exact h q q0 a0 qS
    · have hq : q = 81 ∨ q = 82 ∨ q = 83 ∨ q = 84 ∨ q = 85 ∨ q = 86 ∨ q = 87 ∨ q = 88 ∨ q = 89 ∨ q = 90 ∨ q = 91 ∨ q = 92 ∨ q = 93 ∨ q = 94 ∨ q = 95 ∨ q = 96 ∨ q = 97 ∨ q = 98 ∨ q = 99 ∨ q = 100 ∨ q = 101 ∨ q = 102 ∨ q = 103 ∨ q = 104 ∨ q = 105 ∨ q = 106 := by omega
      rcases hq with rfl | rfl | rfl | rfl | rfl | rfl | rfl | rfl | rfl | rfl | rfl | rfl | rfl | rfl | rfl | rfl | rfl | rfl | rfl | rfl | rfl | rfl | rfl | rfl | rfl | rfl
      · simp (disch := first | decide | omega) only [up_same, up_ne]
        refine EqE.obj rfl (by decide) (fun j hj => ?_)
        have hj40 : j < 40 := hj
        match j, hj40 with
        | 0, _ => rfl
        | 1, _ => rfl
        | 2, _ => rfl
        | 3, _ => rfl
        | 4, _ => rfl
        | 5, _ => rfl
        | 6, _ => rfl
        | 7, _ => rfl
        | 8, _ => rfl
        | 9, _ => rfl
        | 10, _ => rfl
        | 11, _ => rfl
        | 12, _ => rfl
        | 13, _ => rfl
        | 14, _ => rfl
        | 15, _ => rfl
        | 16, _ => rfl
        | 17, _ => rfl
        | 18, _ => rfl
        | 19, _ => rfl
        | 20, _ => rfl
        | 21, _ => rfl
        | 22, _ => rfl
        | 23, _ => rfl
        | 24, _ => rfl
        | 25, _ => rfl
        | 26, _ => rfl
        | 27, _ => rfl
        | 28, _ => rfl
        | 29, _ => rfl
        | 30, _ => rfl
        | 31, _ => rfl
        | 32, _ => rfl
        | 33, _ => rfl
        | 34, _ => rfl
        | 35, _ => rfl
        | 36, _ => rfl
        | 37, _ => rfl
        | 38, _ => rfl
        | 39, _ => rfl
        | j + 40, hh => exact absurd hh (by omega)
      · simp (disch := first | decide | omega) only [up_same, up_ne]
        exact EqE.arZ rfl rfl (by decide)
      · simp (disch := first | decide | omega) only [up_same, up_ne]
        exact EqE.arI rfl rfl (by decide)
      · simp (disch := first | decide | omega) only [up_same, up_ne]
        exact EqE.arI rfl rfl (by decide)
      · simp (disch := first | decide | omega) only [up_same, up_ne]
        exact EqE.arL rfl rfl (by decide)
      · simp (disch := first | decide | omega) only [up_same, up_ne]
        exact EqE.arL rfl rfl (by decide)
      · simp (disch := first | decide | omega) only [up_same, up_ne]
        exact EqE.arI rfl rfl (by decide)
      · simp (disch := first | decide | omega) only [up_same, up_ne]
        exact EqE.arL rfl rfl (by decide)
      · simp (disch := first | decide | omega) only [up_same, up_ne]
        exact EqE.arI rfl rfl (by decide)
      · simp (disch := first | decide | omega) only [up_same, up_ne]
        exact Or.inl rfl
      · simp (disch := first | decide | omega) only [up_same, up_ne]
        exact EqE.arL rfl rfl (by decide)
      · simp (disch := first | decide | omega) only [up_same, up_ne]
        exact EqE.arL rfl rfl (by decide)
      · simp (disch := first | decide | omega) only [up_same, up_ne]
        exact EqE.arL rfl rfl (by decide)
      · simp (disch := first | decide | omega) only [up_same, up_ne]
        exact EqE.arI rfl rfl (by decide)
      · simp (disch := first | decide | omega) only [up_same, up_ne]
        exact EqE.arL rfl rfl (by decide)
      · simp (disch := first | decide | omega) only [up_same, up_ne]
        exact EqE.arI rfl rfl (by decide)
      · simp (disch := first | decide | omega) only [up_same, up_ne]
        exact EqE.arI rfl rfl (by decide)
      · simp (disch := first | decide | omega) only [up_same, up_ne]
        exact EqE.arL rfl rfl (by decide)
      · simp (disch := first | decide | omega) only [up_same, up_ne]
        exact EqE.arL rfl rfl (by decide)
      · simp (disch := first | decide | omega) only [up_same, up_ne]
        exact EqE.arL rfl rfl (by decide)
      · simp (disch := first | decide | omega) only [up_same, up_ne]
        exact EqE.arL rfl rfl (by decide)
      · simp (disch := first | decide | omega) only [up_same, up_ne]
        exact EqE.arL rfl rfl (by decide)
      · simp (disch := first | decide | omega) only [up_same, up_ne]
        exact EqE.arI rfl rfl (by decide)
      · simp (disch := first | decide | omega) only [up_same, up_ne]
        exact EqE.arL rfl rfl (by decide)
      · simp (disch := first | decide | omega) only [up_same, up_ne]
        exact EqE.arL rfl rfl (by decide)
      · simp (disch := first | decide | omega) only [up_same, up_ne]
        exact EqE.arL rfl rfl (by decide)
  · simp (disch := first | decide | omega) only [up_ne]
end Place
