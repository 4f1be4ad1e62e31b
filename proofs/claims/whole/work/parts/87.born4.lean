/-! The constructors with loops. -/
def IsRl (n : Nat) : Prop := kd (n + 1) = 3 ∧ kd (n + 2) = 11 ∧ ln (n + 2) = 60 ∧ rf s00 (n + 1) 0 = n + 2 ∧ s00.1 (fa (n + 1) 1) 0 = 1 ∧ s00.1 (fa (n + 1) 2) 0 = 0 ∧ s00.1 (fa (n + 1) 3) 0 = 0 ∧ n + 2 ≤ 14
theorem is_rl : ∀ r, r < 6 → IsRl (2 + 2 * r)
  | 0, _ => ⟨rfl, rfl, rfl, rfl, rfl, rfl, rfl, by decide⟩
  | 1, _ => ⟨rfl, rfl, rfl, rfl, rfl, rfl, rfl, by decide⟩
  | 2, _ => ⟨rfl, rfl, rfl, rfl, rfl, rfl, rfl, by decide⟩
  | 3, _ => ⟨rfl, rfl, rfl, rfl, rfl, rfl, rfl, by decide⟩
  | 4, _ => ⟨rfl, rfl, rfl, rfl, rfl, rfl, rfl, by decide⟩
  | 5, _ => ⟨rfl, rfl, rfl, rfl, rfl, rfl, rfl, by decide⟩
  | n + 6, h => by omega
theorem born_rl {α : Type} {n : Nat} {F : Nat → AE} {S : List Nat} (hT : IsRl n) (h : OkS n F S) : ∃ G, (∀ k : Nat → M α, bd (nw (.inr (3, fun j => defaultValue (tyX3 j)))) (fun v => bd (m_Rl_init v) (fun _ => k v)) (n, F) = k (n + 1) (n + 2, G)) ∧ OkS (n + 2) G S ∧ (∀ q, q ≤ n → G q = F q) ∧ ∃ g, G (n + 1) = .inr (3, g) := by
  obtain ⟨t1, t2, t3, t4, t5, t6, t7, t8⟩ := hT
  refine ⟨_, fun k => by (unfold m_Rl_init; simp (disch := first | decide | omega) only [bd_bd, bd_rt, e_nw, e_pR, e_pI, e_pL, e_pZ, e_gR, up_same, up_ne, sV_r, sG_r, sR_r]; rfl), fun q q0 q1 qS => ?_, fun q hq => ?_, ?_⟩
  · by_cases a1 : q = n + 1
    · subst a1
      simp (disch := first | decide | omega) only [up_same, up_ne]
      refine EqE.obj t1 (by decide) (fun j hj => ?_)
      have hj4 : j < 4 := hj
      match j, hj4 with
      | 0, _ => show _ = Value.ref (rf s00 (n + 1) 0); rw [t4]; rfl
      | 1, _ => show _ = Value.int (s00.1 (fa (n + 1) 1) 0); rw [t5]; rfl
      | 2, _ => show _ = Value.int (s00.1 (fa (n + 1) 2) 0); rw [t6]; rfl
      | 3, _ => show _ = Value.int (s00.1 (fa (n + 1) 3) 0); rw [t7]; rfl
    · by_cases a2 : q = n + 2
      · subst a2
        simp (disch := first | decide | omega) only [up_same, up_ne]
        exact EqE.arL t2 t3 (by omega)
      · simp (disch := first | decide | omega) only [up_ne]
        exact h q q0 (by omega) qS
  · simp (disch := first | decide | omega) only [up_ne]
  · simp (disch := first | decide | omega) only [up_same, up_ne]
    exact ⟨_, rfl⟩
theorem OkS.up {n o : Nat} {F : Nat → AE} {S : List Nat} {e : AE} (h : OkS n F S) (ho : o ∈ S) : OkS n (va_up F o e) S := fun q q0 q1 qS => by
  rw [up_ne (show q ≠ o from fun w => qS (by rw [w]; exact ho))]
  exact h q q0 q1 qS
abbrev pnd : List Nat := [1, 2, 33, 34]
/-- the reels -/
theorem born_reels {α : Type} {g1 : Nat → Value} (h0 : g1 0 = .ref 2) :
    ∀ (r j n : Nat) (F : Nat → AE) (g2 : Nat → Option Nat), j + r = 6 → r < n → OkS (2 + 2 * j) F pnd → F 1 = .inr (8, g1) → F 2 = .inl (3, 6, .inr (.inr (.inr (.inr g2)))) → (∀ i, i < j → g2 i = some (3 + 2 * i)) → ∃ G g3 n', (∀ k : Unit → M α, bd (l_Ob_init_15 n 1 (nI j)) k (2 + 2 * j, F) = bd (b_Ob_init_15 (l_Ob_init_15 n') 1 (nI 6)) k (14, G)) ∧ OkS 14 G pnd ∧ G 1 = .inr (8, g1) ∧ G 2 = .inl (3, 6, .inr (.inr (.inr (.inr g3)))) ∧ ∀ i, i < 6 → g3 i = some (3 + 2 * i)
  | r, j, 0, F, g2, h, hn, ok, f1, f2, hg => by omega
  | 0, j, n + 1, F, g2, h, hn, ok, f1, f2, hg => by
    have hj : j = 6 := by omega
    subst hj
    exact ⟨F, g2, n, fun k => rfl, ok, f1, f2, hg⟩
  | r + 1, j, n + 1, F, g2, h, hn, ok, f1, f2, hg => by
    have hc : ¬ (6 : Int32) ≤ nI j := fun w => absurd ((ln_6 (by omega)).mp w) (by omega)
    obtain ⟨G, e1, ok1, same, ⟨g3, hg3⟩⟩ := born_rl (α := α) (is_rl j (by omega)) ok
    have G1 : G 1 = .inr (8, g1) := by rw [same 1 (by omega)]; exact f1
    have G2 : G 2 = .inl (3, 6, .inr (.inr (.inr (.inr g2)))) := by rw [same 2 (by omega)]; exact f2
    have est : ∀ f : Unit → M α, _ := fun f => e_stR (f := f) (n := 2 + 2 * j + 2) (t := 3) (ci := 3) (o := 2) (v := 2 + 2 * j + 1) (j := j) (F := G) (by omega) (by omega) (by omega) (by omega) G2 hg3 (by omega) (by omega)
    obtain ⟨G', g', n', e2, e3⟩ := born_reels (α := α) h0 r (j + 1) n (va_up G 2 (.inl (3, 6, .inr (.inr (.inr (.inr (va_up g2 j (some (2 + 2 * j + 1))))))))) (va_up g2 j (some (2 + 2 * j + 1))) (by omega) (by omega) (OkS.up ok1 (by decide)) (by rw [up_ne (by decide)]; exact G1) (by rw [up_same]) (fun i hi => by
      by_cases z : i = j
      · rw [z, up_same]
        congr 1
        omega
      · rw [up_ne z]; exact hg i (by omega))
    refine ⟨G', g', n', fun k => ?_, e3⟩
    show bd (b_Ob_init_15 (l_Ob_init_15 n) 1 (nI j)) k (2 + 2 * j, F) = _
    have e4 : ∀ v, (bd (bd (nw (.inr (3, fun j => defaultValue (tyX3 j)))) (fun v16 => bd (m_Rl_init v16) (fun _ => bd (stR 3 3 v (nI j) v16) (fun _ => l_Ob_init_15 n 1 (nI j + 1))))) k) = bd (nw (.inr (3, fun j => defaultValue (tyX3 j)))) (fun w => bd (m_Rl_init w) (fun _ => bd (stR 3 3 v (nI j) w) (fun _ => bd (l_Ob_init_15 n 1 (nI j + 1)) k))) := fun v => by
      simp only [bd_bd]
    unfold b_Ob_init_15
    rw [if_neg hc, bd_bd, e_gR (by omega) (by omega), f1, sG_r, h0, sR_r, e4, e1 (fun w => bd (stR 3 3 2 (nI j) w) (fun _ => bd (l_Ob_init_15 n 1 (nI j + 1)) k)), est, na_1]
    exact e2 k
/-- the worst's twins -/
theorem born_twins {α : Type} {g7 : Nat → Value} (h1 : g7 1 = .ref 34) : ∀ (r j n : Nat) (F : Nat → AE) (gt : Nat → Option Nat), j + r = 13 → r < n → OkS (34 + 3 * j) F pnd → F 33 = .inr (7, g7) → F 34 = .inl (4, 13, .inr (.inr (.inr (.inr gt)))) → (∀ i, i < j → gt i = some (35 + 3 * i)) → ∃ G gt', (∀ k : Unit → M α, bd (l_Ws_init_50 n 33 15 (nI j)) k (34 + 3 * j, F) = k () (73, G)) ∧ OkS 73 G pnd ∧ G 33 = .inr (7, g7) ∧ G 34 = .inl (4, 13, .inr (.inr (.inr (.inr gt')))) ∧ (∀ i, i < 13 → gt' i = some (35 + 3 * i)) ∧ ∀ q, q ≤ 32 → G q = F q
  | r, j, 0, F, gt, h, hn, ok, f1, f2, hg => by omega
  | 0, j, n + 1, F, gt, h, hn, ok, f1, f2, hg => by
    have hj : j = 13 := by omega
    subst hj
    refine ⟨F, gt, fun k => ?_, ok, f1, f2, hg, fun _ _ => rfl⟩
    show bd (b_Ws_init_50 (l_Ws_init_50 n) 33 15 (nI 13)) k (73, F) = _
    unfold b_Ws_init_50
    rw [if_pos (by decide)]
    rfl
  | r + 1, j, n + 1, F, gt, h, hn, ok, f1, f2, hg => by
    have hc : ¬ (12 : Int32) < nI j := fun w => absurd ((tn_12 (by omega)).mp w) (by omega)
    have hT : IsTw (34 + 3 * j + 1) := by
      have := tw_w j (by omega)
      rw [show 35 + 3 * j = 34 + 3 * j + 1 by omega] at this
      exact this
    obtain ⟨G, e1, ok1, same, ⟨g3, hg3⟩⟩ := born_tw (α := α) hT ok
    have G1 : G 33 = .inr (7, g7) := by rw [same 33 (by omega)]; exact f1
    have G2 : G 34 = .inl (4, 13, .inr (.inr (.inr (.inr gt)))) := by rw [same 34 (by omega)]; exact f2
    have est : ∀ f : Unit → M α, _ := fun f => e_stR (f := f) (n := 34 + 3 * j + 3) (t := 4) (ci := 6) (o := 34) (v := 34 + 3 * j + 1) (j := j) (F := G) (by omega) (by omega) (by omega) (by omega) G2 hg3 (by omega) (by omega)
    obtain ⟨G', gt', e2, y1, y2, y3, y4, y5⟩ := born_twins (α := α) h1 r (j + 1) n (va_up G 34 (.inl (4, 13, .inr (.inr (.inr (.inr (va_up gt j (some (34 + 3 * j + 1))))))))) (va_up gt j (some (34 + 3 * j + 1))) (by omega) (by omega) (OkS.up ok1 (by decide)) (by rw [up_ne (by decide)]; exact G1) (by rw [up_same]) (fun i hi => by
      by_cases z : i = j
      · rw [z, up_same]
        congr 1
        omega
      · rw [up_ne z]; exact hg i (by omega))
    refine ⟨G', gt', fun k => ?_, y1, y2, y3, y4, fun q hq => by rw [y5 q hq, up_ne (by omega), same q (by omega)]⟩
    show bd (b_Ws_init_50 (l_Ws_init_50 n) 33 15 (nI j)) k (34 + 3 * j, F) = _
    have e4 : ∀ v, (bd (bd (nw (.inr (6, fun j => defaultValue (tyX6 j)))) (fun v2 => bd (m_Tw_init v2 15) (fun _ => bd (stR 4 6 v (nI j) v2) (fun _ => l_Ws_init_50 n 33 15 (nI j + 1))))) k) = bd (nw (.inr (6, fun j => defaultValue (tyX6 j)))) (fun w => bd (m_Tw_init w 15) (fun _ => bd (stR 4 6 v (nI j) w) (fun _ => bd (l_Ws_init_50 n 33 15 (nI j + 1)) k))) := fun v => by
      simp only [bd_bd]
    unfold b_Ws_init_50
    rw [if_neg hc, bd_bd, e_gR (by omega) (by omega), f1, sG_r, h1, sR_r, e4, e1 (fun w => bd (stR 4 6 34 (nI j) w) (fun _ => bd (l_Ws_init_50 n 33 15 (nI j + 1)) k)), est, na_1]
    exact e2 k
/-- the worst -/
theorem born_ws {α : Type} {F : Nat → AE} (h : OkS 32 F pnd) : ∃ G, (∀ k : Nat → M α, bd (nw (.inr (7, fun j => defaultValue (tyX7 j)))) (fun v => bd (m_Ws_init v 15) (fun _ => k v)) (32, F) = k 33 (73, G)) ∧ OkS 73 G [1, 2] ∧ ∀ q, q ≤ 32 → G q = F q := by
  obtain ⟨g7, hg7⟩ : ∃ g7 : Nat → Value, g7 = va_up (va_up (va_up (va_up (va_up (va_up (va_up (va_up (fun j => defaultValue (tyX7 j)) 1 (.ref 34)) 2 (.int 0)) 3 (.long 0)) 4 (.int 0)) 5 (.int 0)) 6 (.long 0)) 7 (.long 0)) 0 (.ref 15) := ⟨_, rfl⟩
  have key : ∃ F0, (∀ k : Nat → M α, bd (nw (.inr (7, fun j => defaultValue (tyX7 j)))) (fun v => bd (m_Ws_init v 15) (fun _ => k v)) (32, F) = bd (l_Ws_init_50 FU 33 15 (nI 0)) (fun _ => k 33) (34, F0)) ∧ F0 33 = .inr (7, g7) ∧ F0 34 = .inl (4, 13, .inr (.inr (.inr (.inr (fun _ => none))))) ∧ ∀ q, q ≤ 32 → F0 q = F q := by
    refine ⟨_, fun k => by (unfold m_Ws_init; simp (disch := first | decide | omega) only [bd_bd, bd_rt, e_nw, e_pR, e_pI, e_pL, e_pZ, e_gR, up_same, up_ne, sV_r, sG_r, sR_r]; rfl), ?_, ?_, fun q hq => ?_⟩
    · simp (disch := first | decide | omega) only [up_same, up_ne]
      rw [hg7]
    · simp (disch := first | decide | omega) only [up_same, up_ne]
    · simp (disch := first | decide | omega) only [up_ne]
  obtain ⟨F0, e0, a1, a2, a3⟩ := key
  obtain ⟨G, gt, e1, o1, o2, o3, o4, o5⟩ := born_twins (α := α) (g7 := g7) (by rw [hg7]; rfl) 13 0 FU F0 (fun _ => none) (by omega) (by unfold FU; omega) (fun q q0 q1 qS => by
    have q33 : q ≤ 32 := by
      have h33 : q ≠ 33 := fun w => qS (by rw [w]; decide)
      have h34 : q ≠ 34 := fun w => qS (by rw [w]; decide)
      omega
    rw [a3 q q33]
    exact h q q0 q33 qS) a1 a2 (fun i hi => by omega)
  refine ⟨G, fun k => (e0 k).trans (e1 _), fun q q0 q1 qS => ?_, fun q hq => by rw [o5 q hq, a3 q hq]⟩
  by_cases h33 : q = 33
  · subst h33
    rw [o2, hg7]
    refine EqE.obj rfl (by decide) (fun j hj => ?_)
    have hj8 : j < 8 := hj
    match j, hj8 with
    | 0, _ => rfl
    | 1, _ => rfl
    | 2, _ => rfl
    | 3, _ => rfl
    | 4, _ => rfl
    | 5, _ => rfl
    | 6, _ => rfl
    | 7, _ => rfl
  · by_cases h34 : q = 34
    · subst h34
      rw [o3]
      exact Or.inr (Or.inr ⟨4, 13, gt, fun j => some (35 + 3 * j), rfl, rfl, o4⟩)
    · refine o1 q q0 q1 (fun w => ?_)
      simp at w qS
      omega
