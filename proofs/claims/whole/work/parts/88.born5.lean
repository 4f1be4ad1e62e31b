/-! Both objects are made. -/
section AllBorn
variable {α : Type}
theorem nw_gR {e : AE} {f : Nat → Nat → M α} {n : Nat} {F : Nat → AE} {g : Nat → Value} (h1 : 1 ≤ n) (hF : F 1 = .inr (8, g)) (hg : g 1 = .ref 15) : bd (nw e) (fun v => bd (gR 8 1 1) (fun w => f v w)) (n, F) = bd (nw e) (fun v => f v 15) (n, F) := by
  rw [e_nw, e_nw, e_gR (by omega) (by omega), up_ne (by omega), hF, sG_r, hg, sR_r]
theorem e_p1 {n k : Nat} {v : Value} {f : Unit → M α} {F : Nat → AE} {g : Nat → Value} (h1 : 1 ≤ n) (hF : F 1 = .inr (8, g)) : bd (pV 8 1 k v) f (n, F) = f () (n, va_up F 1 (.inr (8, va_up g k v))) := by
  rw [e_pV (by omega) h1, hF, sV_r]
theorem OkS.fit {n : Nat} {F : Nat → AE} {S T : List Nat} (h : OkS n F S) (hs : ∀ q ∈ S, q ∈ T) : OkS n F T := fun q q0 q1 qS => h q q0 q1 (fun w => qS (hs q w))
theorem born_ob (F : Nat → AE) : ∃ G gf g3, (∀ k : Nat → M α, bd (nw (.inr (8, fun j => defaultValue (tyX8 j)))) (fun v => bd (m_Ob_init v) (fun _ => k v)) (0, F) = k 1 (80, G)) ∧ OkS 80 G [1, 2] ∧ G 1 = .inr (8, gf) ∧ (∀ j, j < 10 → gf j = if ft 8 j = 0 then .int (s00.1 (fa 1 j) 0) else if ft 8 j = 1 then .long (s00.2.1 (fa 1 j) 0) else .ref (rf s00 1 j)) ∧ G 2 = .inl (3, 6, .inr (.inr (.inr (.inr g3)))) ∧ ∀ i, i < 6 → g3 i = some (3 + 2 * i) := by
  have key : ∃ F0, (∀ k : Nat → M α, bd (nw (.inr (8, fun j => defaultValue (tyX8 j)))) (fun v => bd (m_Ob_init v) (fun _ => k v)) (0, F) = bd (l_Ob_init_15 FU 1 (nI 0)) (fun _ => k 1) (2, F0)) ∧ F0 1 = .inr (8, va_up (fun j => defaultValue (tyX8 j)) 0 (.ref 2)) ∧ F0 2 = .inl (3, 6, .inr (.inr (.inr (.inr (fun _ => none))))) := by
    refine ⟨_, fun k => by (unfold m_Ob_init; simp (disch := first | decide | omega) only [bd_bd, bd_rt, e_nw, e_pR, e_pI, e_pL, e_pZ, e_gR, up_same, up_ne, sV_r, sG_r, sR_r]; rfl), ?_, ?_⟩
    · simp (disch := first | decide | omega) only [up_same, up_ne]
    · simp (disch := first | decide | omega) only [up_same, up_ne]
  obtain ⟨F0, e0, a1, a2⟩ := key
  obtain ⟨γ0, hγ0⟩ : ∃ γ0 : Nat → Value, γ0 = va_up (fun j => defaultValue (tyX8 j)) 0 (.ref 2) := ⟨_, rfl⟩
  rw [← hγ0] at a1
  obtain ⟨G0, g3, n', eR, ok0, b1, b2, b3⟩ := born_reels (α := α) (g1 := γ0) (by rw [hγ0]; rfl) 6 0 FU F0 (fun _ => none) (by omega) (by unfold FU; omega) (fun q q0 q1 qS => by
    have h1 : q ≠ 1 := fun w => qS (by rw [w]; decide)
    have h2 : q ≠ 2 := fun w => qS (by rw [w]; decide)
    omega) a1 a2 (fun i hi => by omega)
  obtain ⟨G1, e1, okG1, sameG1⟩ := born_Sp (α := α) ok0
  have oneG1 : G1 1 = .inr (8, γ0) := by rw [sameG1 1 (by omega)]; exact b1
  have twoG1 : G1 2 = .inl (3, 6, .inr (.inr (.inr (.inr g3)))) := by rw [sameG1 2 (by omega)]; exact b2
  obtain ⟨γ1, hγ1⟩ : ∃ w : Nat → Value, w = va_up γ0 1 (.ref 15) := ⟨_, rfl⟩
  have p1 : ∀ f : Unit → M α, bd (pV 8 1 1 (.ref 15)) f (19, G1) = f () (19, va_up G1 1 (.inr (8, γ1))) := fun f => by rw [hγ1]; exact e_p1 (by omega) oneG1
  have okH1 : OkS 19 (va_up G1 1 (.inr (8, γ1))) pnd := OkS.up okG1 (by decide)
  have oneH1 : va_up G1 1 (.inr (8, γ1)) 1 = .inr (8, γ1) := up_same
  have twoH1 : va_up G1 1 (.inr (8, γ1)) 2 = .inl (3, 6, .inr (.inr (.inr (.inr g3)))) := by rw [up_ne (by decide)]; exact twoG1
  generalize va_up G1 1 (.inr (8, γ1)) = H1 at p1 okH1 oneH1 twoH1
  have hgγ1 : γ1 1 = .ref 15 := by rw [hγ1, hγ0]; rfl
  obtain ⟨G2, e2, okG2, sameG2⟩ := born_Lg (α := α) okH1
  have oneG2 : G2 1 = .inr (8, γ1) := by rw [sameG2 1 (by omega)]; exact oneH1
  have twoG2 : G2 2 = .inl (3, 6, .inr (.inr (.inr (.inr g3)))) := by rw [sameG2 2 (by omega)]; exact twoH1
  obtain ⟨γ2, hγ2⟩ : ∃ w : Nat → Value, w = va_up γ1 2 (.ref 20) := ⟨_, rfl⟩
  have p2 : ∀ f : Unit → M α, bd (pV 8 1 2 (.ref 20)) f (22, G2) = f () (22, va_up G2 1 (.inr (8, γ2))) := fun f => by rw [hγ2]; exact e_p1 (by omega) oneG2
  have okH2 : OkS 22 (va_up G2 1 (.inr (8, γ2))) pnd := OkS.up okG2 (by decide)
  have oneH2 : va_up G2 1 (.inr (8, γ2)) 1 = .inr (8, γ2) := up_same
  have twoH2 : va_up G2 1 (.inr (8, γ2)) 2 = .inl (3, 6, .inr (.inr (.inr (.inr g3)))) := by rw [up_ne (by decide)]; exact twoG2
  generalize va_up G2 1 (.inr (8, γ2)) = H2 at p2 okH2 oneH2 twoH2
  have hgγ2 : γ2 1 = .ref 15 := by rw [hγ2, hγ1, hγ0]; rfl
  obtain ⟨G3, e3, okG3, sameG3⟩ := born_Sn (α := α) okH2
  have oneG3 : G3 1 = .inr (8, γ2) := by rw [sameG3 1 (by omega)]; exact oneH2
  have twoG3 : G3 2 = .inl (3, 6, .inr (.inr (.inr (.inr g3)))) := by rw [sameG3 2 (by omega)]; exact twoH2
  obtain ⟨G4, e4, okG4, sameG4⟩ := born_Hd (α := α) okG3
  have oneG4 : G4 1 = .inr (8, γ2) := by rw [sameG4 1 (by omega)]; exact oneG3
  have twoG4 : G4 2 = .inl (3, 6, .inr (.inr (.inr (.inr g3)))) := by rw [sameG4 2 (by omega)]; exact twoG3
  obtain ⟨γ4, hγ4⟩ : ∃ w : Nat → Value, w = va_up γ2 3 (.ref 27) := ⟨_, rfl⟩
  have p4 : ∀ f : Unit → M α, bd (pV 8 1 3 (.ref 27)) f (28, G4) = f () (28, va_up G4 1 (.inr (8, γ4))) := fun f => by rw [hγ4]; exact e_p1 (by omega) oneG4
  have okH4 : OkS 28 (va_up G4 1 (.inr (8, γ4))) pnd := OkS.up okG4 (by decide)
  have oneH4 : va_up G4 1 (.inr (8, γ4)) 1 = .inr (8, γ4) := up_same
  have twoH4 : va_up G4 1 (.inr (8, γ4)) 2 = .inl (3, 6, .inr (.inr (.inr (.inr g3)))) := by rw [up_ne (by decide)]; exact twoG4
  generalize va_up G4 1 (.inr (8, γ4)) = H4 at p4 okH4 oneH4 twoH4
  have hgγ4 : γ4 1 = .ref 15 := by rw [hγ4, hγ2, hγ1, hγ0]; rfl
  obtain ⟨G5, e5, okG5, sameG5⟩ := born_Rc (α := α) okH4
  have oneG5 : G5 1 = .inr (8, γ4) := by rw [sameG5 1 (by omega)]; exact oneH4
  have twoG5 : G5 2 = .inl (3, 6, .inr (.inr (.inr (.inr g3)))) := by rw [sameG5 2 (by omega)]; exact twoH4
  obtain ⟨γ5, hγ5⟩ : ∃ w : Nat → Value, w = va_up γ4 4 (.ref 29) := ⟨_, rfl⟩
  have p5 : ∀ f : Unit → M α, bd (pV 8 1 4 (.ref 29)) f (32, G5) = f () (32, va_up G5 1 (.inr (8, γ5))) := fun f => by rw [hγ5]; exact e_p1 (by omega) oneG5
  have okH5 : OkS 32 (va_up G5 1 (.inr (8, γ5))) pnd := OkS.up okG5 (by decide)
  have oneH5 : va_up G5 1 (.inr (8, γ5)) 1 = .inr (8, γ5) := up_same
  have twoH5 : va_up G5 1 (.inr (8, γ5)) 2 = .inl (3, 6, .inr (.inr (.inr (.inr g3)))) := by rw [up_ne (by decide)]; exact twoG5
  generalize va_up G5 1 (.inr (8, γ5)) = H5 at p5 okH5 oneH5 twoH5
  have hgγ5 : γ5 1 = .ref 15 := by rw [hγ5, hγ4, hγ2, hγ1, hγ0]; rfl
  obtain ⟨G6, e6, okG6, sameG6⟩ := born_ws (α := α) okH5
  have oneG6 : G6 1 = .inr (8, γ5) := by rw [sameG6 1 (by omega)]; exact oneH5
  have twoG6 : G6 2 = .inl (3, 6, .inr (.inr (.inr (.inr g3)))) := by rw [sameG6 2 (by omega)]; exact twoH5
  obtain ⟨γ6, hγ6⟩ : ∃ w : Nat → Value, w = va_up γ5 5 (.ref 33) := ⟨_, rfl⟩
  have p6 : ∀ f : Unit → M α, bd (pV 8 1 5 (.ref 33)) f (73, G6) = f () (73, va_up G6 1 (.inr (8, γ6))) := fun f => by rw [hγ6]; exact e_p1 (by omega) oneG6
  have okH6 : OkS 73 (va_up G6 1 (.inr (8, γ6))) [1, 2] := OkS.up okG6 (by decide)
  have oneH6 : va_up G6 1 (.inr (8, γ6)) 1 = .inr (8, γ6) := up_same
  have twoH6 : va_up G6 1 (.inr (8, γ6)) 2 = .inl (3, 6, .inr (.inr (.inr (.inr g3)))) := by rw [up_ne (by decide)]; exact twoG6
  generalize va_up G6 1 (.inr (8, γ6)) = H6 at p6 okH6 oneH6 twoH6
  have hgγ6 : γ6 1 = .ref 15 := by rw [hγ6, hγ5, hγ4, hγ2, hγ1, hγ0]; rfl
  obtain ⟨G7, e7, okG7, sameG7⟩ : ∃ G7, (∀ k : Nat → M α, bd (nw (.inl (0, 8, .inl (fun _ => 0)))) k (73, H6) = k 74 (74, G7)) ∧ OkS 74 G7 [1, 2] ∧ ∀ q, q ≤ 73 → G7 q = H6 q := by
    refine ⟨_, fun k => e_nw, fun q q0 q1 qS => ?_, fun q hq => up_ne (by omega)⟩
    by_cases z : q = 74
    · subst z
      rw [up_same]
      exact EqE.arI rfl rfl (by decide)
    · rw [up_ne z]
      exact okH6 q q0 (by omega) qS
  have oneG7 : G7 1 = .inr (8, γ6) := by rw [sameG7 1 (by omega)]; exact oneH6
  have twoG7 : G7 2 = .inl (3, 6, .inr (.inr (.inr (.inr g3)))) := by rw [sameG7 2 (by omega)]; exact twoH6
  obtain ⟨γ7, hγ7⟩ : ∃ w : Nat → Value, w = va_up γ6 6 (.ref 74) := ⟨_, rfl⟩
  have p7 : ∀ f : Unit → M α, bd (pV 8 1 6 (.ref 74)) f (74, G7) = f () (74, va_up G7 1 (.inr (8, γ7))) := fun f => by rw [hγ7]; exact e_p1 (by omega) oneG7
  have okH7 : OkS 74 (va_up G7 1 (.inr (8, γ7))) [1, 2] := OkS.up okG7 (by decide)
  have oneH7 : va_up G7 1 (.inr (8, γ7)) 1 = .inr (8, γ7) := up_same
  have twoH7 : va_up G7 1 (.inr (8, γ7)) 2 = .inl (3, 6, .inr (.inr (.inr (.inr g3)))) := by rw [up_ne (by decide)]; exact twoG7
  generalize va_up G7 1 (.inr (8, γ7)) = H7 at p7 okH7 oneH7 twoH7
  have hgγ7 : γ7 1 = .ref 15 := by rw [hγ7, hγ6, hγ5, hγ4, hγ2, hγ1, hγ0]; rfl
  obtain ⟨G8, e8, okG8, sameG8, ⟨_, -⟩⟩ := born_tw (n := 74) tw_now (α := α) okH7
  have oneG8 : G8 1 = .inr (8, γ7) := by rw [sameG8 1 (by omega)]; exact oneH7
  have twoG8 : G8 2 = .inl (3, 6, .inr (.inr (.inr (.inr g3)))) := by rw [sameG8 2 (by omega)]; exact twoH7
  obtain ⟨γ8, hγ8⟩ : ∃ w : Nat → Value, w = va_up γ7 7 (.ref 75) := ⟨_, rfl⟩
  have p8 : ∀ f : Unit → M α, bd (pV 8 1 7 (.ref 75)) f (77, G8) = f () (77, va_up G8 1 (.inr (8, γ8))) := fun f => by rw [hγ8]; exact e_p1 (by omega) oneG8
  have okH8 : OkS 77 (va_up G8 1 (.inr (8, γ8))) [1, 2] := OkS.up okG8 (by decide)
  have oneH8 : va_up G8 1 (.inr (8, γ8)) 1 = .inr (8, γ8) := up_same
  have twoH8 : va_up G8 1 (.inr (8, γ8)) 2 = .inl (3, 6, .inr (.inr (.inr (.inr g3)))) := by rw [up_ne (by decide)]; exact twoG8
  generalize va_up G8 1 (.inr (8, γ8)) = H8 at p8 okH8 oneH8 twoH8
  have hgγ8 : γ8 1 = .ref 15 := by rw [hγ8, hγ7, hγ6, hγ5, hγ4, hγ2, hγ1, hγ0]; rfl
  obtain ⟨G9, e9, okG9, sameG9, ⟨_, -⟩⟩ := born_tw (n := 77) tw_next (α := α) okH8
  have oneG9 : G9 1 = .inr (8, γ8) := by rw [sameG9 1 (by omega)]; exact oneH8
  have twoG9 : G9 2 = .inl (3, 6, .inr (.inr (.inr (.inr g3)))) := by rw [sameG9 2 (by omega)]; exact twoH8
  obtain ⟨γ9, hγ9⟩ : ∃ w : Nat → Value, w = va_up γ8 8 (.ref 78) := ⟨_, rfl⟩
  have p9 : ∀ f : Unit → M α, bd (pV 8 1 8 (.ref 78)) f (80, G9) = f () (80, va_up G9 1 (.inr (8, γ9))) := fun f => by rw [hγ9]; exact e_p1 (by omega) oneG9
  have okH9 : OkS 80 (va_up G9 1 (.inr (8, γ9))) [1, 2] := OkS.up okG9 (by decide)
  have oneH9 : va_up G9 1 (.inr (8, γ9)) 1 = .inr (8, γ9) := up_same
  have twoH9 : va_up G9 1 (.inr (8, γ9)) 2 = .inl (3, 6, .inr (.inr (.inr (.inr g3)))) := by rw [up_ne (by decide)]; exact twoG9
  generalize va_up G9 1 (.inr (8, γ9)) = H9 at p9 okH9 oneH9 twoH9
  have hgγ9 : γ9 1 = .ref 15 := by rw [hγ9, hγ8, hγ7, hγ6, hγ5, hγ4, hγ2, hγ1, hγ0]; rfl
  obtain ⟨γ10, hγ10⟩ : ∃ w : Nat → Value, w = va_up γ9 9 (.int 0) := ⟨_, rfl⟩
  have p10 : ∀ f : Unit → M α, bd (pV 8 1 9 (.int 0)) f (80, H9) = f () (80, va_up H9 1 (.inr (8, γ10))) := fun f => by rw [hγ10]; exact e_p1 (by omega) oneH9
  have okH10 : OkS 80 (va_up H9 1 (.inr (8, γ10))) [1, 2] := OkS.up okH9 (by decide)
  have oneH10 : va_up H9 1 (.inr (8, γ10)) 1 = .inr (8, γ10) := up_same
  have twoH10 : va_up H9 1 (.inr (8, γ10)) 2 = .inl (3, 6, .inr (.inr (.inr (.inr g3)))) := by rw [up_ne (by decide)]; exact twoH9
  generalize va_up H9 1 (.inr (8, γ10)) = H10 at p10 okH10 oneH10 twoH10
  refine ⟨H10, γ10, g3, fun k => ?_, okH10, oneH10, fun j hj => ?_, twoH10, b3⟩
  · rw [e0, show (2, F0) = (2 + 2 * 0, F0) from rfl, eR]
    unfold b_Ob_init_15
    rw [if_pos (by decide)]
    simp only [bd_bd, bd_rt, pR, pI]
    rw [e1, p1, e2, p2, e3, nw_gR (by omega) oneG3 hgγ2, e4, p4, nw_gR (by omega) oneH4 hgγ4, e5, p5, nw_gR (by omega) oneH5 hgγ5, e6, p6, e7, p7, nw_gR (by omega) oneH7 hgγ7, e8, p8, nw_gR (by omega) oneH8 hgγ8, e9, p9, p10]
  · rw [hγ10, hγ9, hγ8, hγ7, hγ6, hγ5, hγ4, hγ2, hγ1, hγ0]
    match j, hj with
    | 0, _ => rfl
    | 1, _ => rfl
    | 2, _ => rfl
    | 3, _ => rfl
    | 4, _ => rfl
    | 5, _ => rfl
    | 6, _ => rfl
    | 7, _ => rfl
    | 8, _ => rfl
    | 9, _ => rfl
theorem born_all (F : Nat → AE) : ∃ G, (∀ k : Nat → Nat → M α, bd (nw (.inr (8, fun j => defaultValue (tyX8 j)))) (fun v1 => bd (m_Ob_init v1) (fun _ => bd (nw (.inr (9, fun j => defaultValue (tyX9 j)))) (fun v2 => bd (m_Md_init v2) (fun _ => k v1 v2)))) (0, F) = k 1 81 G) ∧ EqH G (lay s00) := by
  obtain ⟨G, gf, g3, e1, ok, h1, hf, h2, hg⟩ := born_ob (α := α) F
  obtain ⟨H, e2, ok2, same⟩ := born_Md (α := α) ok
  refine ⟨(106, H), fun k => ?_, rfl, fun j hj => ?_⟩
  · rw [e1 (fun v1 => bd (nw (.inr (9, fun j => defaultValue (tyX9 j)))) (fun v2 => bd (m_Md_init v2) (fun _ => k v1 v2))), e2]
  · show EqE (H (j + 1)) (cell s00 (j + 1))
    have hj' : j < 106 := hj
    by_cases z1 : j + 1 = 1
    · rw [z1, same 1 (by omega), h1]
      exact EqE.obj rfl (by decide) hf
    · by_cases z2 : j + 1 = 2
      · rw [z2, same 2 (by omega), h2]
        exact Or.inr (Or.inr ⟨3, 6, g3, fun j => some (3 + 2 * j), rfl, rfl, hg⟩)
      · exact ok2 (j + 1) (by omega) (by omega) (by simp; omega)
end AllBorn
