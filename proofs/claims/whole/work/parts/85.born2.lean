/-! Each constructor makes its cells as the store has them. -/
def OkS (n : Nat) (F : Nat → AE) (S : List Nat) : Prop := ∀ q, 0 < q → q ≤ n → q ∉ S → EqE (F q) (cell s00 q)
theorem bd_bd {α β γ : Type} {a : M α} {f : α → M β} {g : β → M γ} : bd (bd a f) g = bd a (fun x => bd (f x) g) := by
  funext h
  unfold bd
  cases a h <;> rfl
theorem bd_rt {α β : Type} {a : α} {g : α → M β} : bd (rt a) g = g a := rfl
theorem s00_f {o : Nat} (h : o ≠ 351 ∧ o ≠ 451 ∧ o ≠ 551 ∧ o ≠ 651 ∧ o ≠ 751 ∧ o ≠ 851 ∧ o ≠ 955 ∧ o ≠ 4260) : s00.1 o = fun _ => 0 := by
  show (if o = 351 ∨ o = 451 ∨ o = 551 ∨ o = 651 ∨ o = 751 ∨ o = 851 then (fun _ => 1 : Nat → Int32) else if o = 955 ∨ o = 4260 then fun _ => 2 else fun _ => 0) = _
  rw [if_neg (by omega), if_neg (by omega)]
theorem born_tw {α : Type} {n : Nat} {F : Nat → AE} {S : List Nat} (hT : IsTw (n + 1)) (h : OkS n F S) : ∃ G, (∀ k : Nat → M α, bd (nw (.inr (6, fun j => defaultValue (tyX6 j)))) (fun v => bd (m_Tw_init v 15) (fun _ => k v)) (n, F) = k (n + 1) (n + 3, G)) ∧ OkS (n + 3) G S ∧ (∀ q, q ≤ n → G q = F q) ∧ ∃ g, G (n + 1) = .inr (6, g) := by
  refine ⟨_, fun k => by (unfold m_Tw_init; simp (disch := first | decide | omega) only [bd_bd, bd_rt, e_nw, e_pR, e_pI, e_pL, e_pZ, e_gR, up_same, up_ne, sV_r, sG_r, sR_r]; rfl), fun q q0 q1 qS => ?_, fun q hq => ?_, ?_⟩
  · have hr := hT.2.2.2.2.2.1 s00
    have hlt := hT.2.2.2.2.2.2
    by_cases a1 : q = n + 1
    · subst a1
      simp (disch := first | decide | omega) only [up_same, up_ne]
      refine EqE.obj hT.1 (by decide) (fun j hj => ?_)
      have hj6 : j < 6 := hj
      match j, hj6 with
      | 0, _ => show _ = Value.ref (rf s00 (n + 1) 0); rw [hr.1]; rfl
      | 1, _ => show _ = Value.ref (rf s00 (n + 1) 1); rw [hr.2.1]; rfl
      | 2, _ => show _ = Value.ref (rf s00 (n + 1) 2); rw [hr.2.2]; rfl
      | 3, _ => show _ = Value.int (s00.1 (fa (n + 1) 3) 0); rw [s00_f (by unfold fa; omega)]; rfl
      | 4, _ => show _ = Value.long (s00.2.1 (fa (n + 1) 4) 0); rw [s00_l (by unfold fa; omega)]; rfl
      | 5, _ => show _ = Value.int (s00.1 (fa (n + 1) 5) 0); rw [s00_f (by unfold fa; omega)]; rfl
    · by_cases a2 : q = n + 2
      · subst a2
        simp (disch := first | decide | omega) only [up_same, up_ne]
        exact EqE.arL hT.2.1 hT.2.2.1 (by omega)
      · by_cases a3 : q = n + 3
        · subst a3
          simp (disch := first | decide | omega) only [up_same, up_ne]
          exact EqE.arI hT.2.2.2.1 hT.2.2.2.2.1 (by omega)
        · simp (disch := first | decide | omega) only [up_ne]
          exact h q q0 (by omega) qS
  · simp (disch := first | decide | omega) only [up_ne]
  · simp (disch := first | decide | omega) only [up_same, up_ne]
    exact ⟨_, rfl⟩
