/-! reach: a step depends on what the stages keep, and on nothing else, where no stage turns and there is no lot. -/
def Ag (a b : Nat) (N M : Nat → Int64) : Prop := ∀ s, a ≤ s → s < b → N (6 * s) = M (6 * s) ∧ N (6 * s + 1) = M (6 * s + 1)
section Num
variable {s : Nat} {N M : Nat → Int64}
theorem pAdd_0 {x v : Int64} : pAdd s x v N (6 * s) = N (6 * s) + (x - v) := by unfold pAdd; rw [up_same]
theorem pAdd_1 {x v : Int64} : pAdd s x v N (6 * s + 1) = N (6 * s + 1) := by unfold pAdd; rw [up_ne (by omega), up_ne (by omega), up_ne (by omega)]
theorem pLeak_0 {f : Int64} : pLeak s f N (6 * s) = N (6 * s) - N (6 * s) * f / 256 := by unfold pLeak; rw [up_same]
theorem pLeak_1 {f : Int64} : pLeak s f N (6 * s + 1) = N (6 * s + 1) := by unfold pLeak; rw [up_ne (by omega), up_ne (by omega)]
theorem pCut_0 {b : Int64} : pCut s b N (6 * s) = mmax (-b) (mmin b (N (6 * s))) := by unfold pCut; rw [up_ne (by omega), up_same]
theorem pCut_1 {b : Int64} : pCut s b N (6 * s + 1) = N (6 * s + 1) := by unfold pCut; rw [up_ne (by omega), up_ne (by omega)]
theorem pNum_ag {q : Int32} {f : Int64} {c : Int32} {x v u : Int64} (hq : ¬ q = 3) (h : N (6 * s) = M (6 * s)) : pNum q f c s x v u N (6 * s) = pNum q f c s x v u M (6 * s) := by
  unfold pNum
  rw [if_neg hq, if_neg hq]
  by_cases q1 : q = 1
  · rw [if_pos q1, if_pos q1, pAdd_0, pAdd_0, pLeak_0, pLeak_0, h]
  · rw [if_neg q1, if_neg q1]
    by_cases q2 : q = 2
    · rw [if_pos q2, if_pos q2, pCut_0, pCut_0, pAdd_0, pAdd_0, h]
    · rw [if_neg q2, if_neg q2]
      by_cases q4 : q = 4
      · rw [if_pos q4, if_pos q4, pAdd_0, pAdd_0, pLeak_0, pLeak_0, h]
      · rw [if_neg q4, if_neg q4, pAdd_0, pAdd_0, h]
theorem pNum_bes {q : Int32} {f : Int64} {c : Int32} {x v u : Int64} (hq : ¬ q = 3) : pNum q f c s x v u N (6 * s + 1) = N (6 * s + 1) := by
  unfold pNum
  rw [if_neg hq]
  by_cases q1 : q = 1
  · rw [if_pos q1, pAdd_1, pLeak_1]
  · rw [if_neg q1]
    by_cases q2 : q = 2
    · rw [if_pos q2, pCut_1, pAdd_1]
    · rw [if_neg q2]
      by_cases q4 : q = 4
      · rw [if_pos q4, pAdd_1, pLeak_1]
      · rw [if_neg q4, pAdd_1]
end Num
theorem pGo_ag {ks : Nat → Int32} {fs : Nat → Int64} {ss : Nat → Int32} {v u : Int64} : ∀ (r s : Nat) (x : Int64) (t t' : TT), (∀ i, s ≤ i → i < s + r → ¬ ks i = 3) → Ag s (s + r) t.1 t'.1 →
    (pGo ks fs ss v u r s x t).1 = (pGo ks fs ss v u r s x t').1 ∧ ((pGo ks fs ss v u r s x t).1 = true → Ag s (s + r) (pGo ks fs ss v u r s x t).2.1 (pGo ks fs ss v u r s x t').2.1 ∧ ∀ i, s ≤ i → i < s + r → (pGo ks fs ss v u r s x t).2.1 (6 * i + 1) = t.1 (6 * i + 1))
  | 0, s, x, t, t', hk, h => ⟨rfl, fun _ => ⟨h, fun i _ _ => rfl⟩⟩
  | r + 1, s, x, t, t', hk, h => by
    have k3 := hk s (by omega) (by omega)
    obtain ⟨h0, h1⟩ := h s (by omega) (by omega)
    have e0 : pNum (ks s) (fs s) (ss s) s x v u t.1 (6 * s) = pNum (ks s) (fs s) (ss s) s x v u t'.1 (6 * s) := pNum_ag k3 h0
    have e1 : pNum (ks s) (fs s) (ss s) s x v u t.1 (6 * s + 1) = pNum (ks s) (fs s) (ss s) s x v u t'.1 (6 * s + 1) := by rw [pNum_bes k3, pNum_bes k3]; exact h1
    unfold pGo
    rw [← e0, ← e1]
    by_cases g : isGr (pNum (ks s) (fs s) (ss s) s x v u t.1 (6 * s)) = true ∨ isGr (pNum (ks s) (fs s) (ss s) s x v u t.1 (6 * s + 1)) = true
    · rw [if_pos g, if_pos g]
      exact ⟨rfl, fun q => by cases q⟩
    · rw [if_neg g, if_neg g]
      obtain ⟨i1, i2⟩ := pGo_ag (ks := ks) (fs := fs) (ss := ss) (v := v) (u := u) r (s + 1) (pNum (ks s) (fs s) (ss s) s x v u t.1 (6 * s)) (pNum (ks s) (fs s) (ss s) s x v u t.1, t.2 ++ pMrk (ks s)) (pNum (ks s) (fs s) (ss s) s x v u t'.1, t'.2 ++ pMrk (ks s)) (fun i q1 q2 => hk i (by omega) (by omega)) (fun i q1 q2 => by
        show pNum (ks s) (fs s) (ss s) s x v u t.1 (6 * i) = pNum (ks s) (fs s) (ss s) s x v u t'.1 (6 * i) ∧ pNum (ks s) (fs s) (ss s) s x v u t.1 (6 * i + 1) = pNum (ks s) (fs s) (ss s) s x v u t'.1 (6 * i + 1)
        rw [pNum_far (by omega), pNum_far (by omega), pNum_far (by omega), pNum_far (by omega)]
        exact h i (by omega) (by omega))
      refine ⟨i1, fun ok => ?_⟩
      obtain ⟨j1, j2⟩ := i2 ok
      refine ⟨fun i q1 q2 => ?_, fun i q1 q2 => ?_⟩
      · by_cases z : i = s
        · subst z
          rw [pGo_far r (i + 1) _ _ (6 * i) (by omega), pGo_far r (i + 1) _ _ (6 * i + 1) (by omega), pGo_far r (i + 1) _ _ (6 * i) (by omega), pGo_far r (i + 1) _ _ (6 * i + 1) (by omega)]
          exact ⟨e0, e1⟩
        · exact j1 i (by omega) (by omega)
      · by_cases z : i = s
        · subst z
          rw [pGo_far r (i + 1) _ _ (6 * i + 1) (by omega)]
          exact pNum_bes k3
        · rw [j2 i (by omega) (by omega)]
          exact pNum_far (by omega)
/-- a shape that reach takes -/
def ReachP (P : SH) : Prop := 1 ≤ P.2.2.2.1 ∧ P.2.2.2.1 ≤ 2 ∧ P.2.2.2.2.2.2 = 0 ∧ ∀ s, s < P.2.2.2.1 → ¬ P.1 s = 3
theorem told_ag {P : SH} {u sd sd' : Int64} {N M : Nat → Int64} (hR : ReachP P) (h : Ag 0 P.2.2.2.1 N M) : pTold nR P u N sd = pTold nR P u M sd' := by
  obtain ⟨r1, r2, r3, r4⟩ := hR
  have e1 : askd P u N = askd P u M := by
    unfold askd
    rw [if_neg (by omega), if_neg (by omega)]
    exact (h (P.2.2.2.1 - 1) (by omega) (by omega)).1
  have l0 : ∀ z : Int64, pLot 0 z = (0, z) := fun z => by unfold pLot; rw [if_neg (by omega)]
  unfold pTold
  rw [e1, r3, l0, l0]
theorem out_ag {P : SH} {u sd sd' : Int64} {N M : Nat → Int64} (hR : ReachP P) (h : Ag 0 P.2.2.2.1 N M) : (pOut nR P u N sd).1 = (pOut nR P u M sd').1 ∧ ((pOut nR P u N sd).1 = true → Ag 0 P.2.2.2.1 (pOut nR P u N sd).2.1 (pOut nR P u M sd').2.1 ∧ ∀ i, i < P.2.2.2.1 → (pOut nR P u N sd).2.1 (6 * i + 1) = N (6 * i + 1)) := by
  unfold pOut
  rw [told_ag (u := u) (sd := sd) (sd' := sd') hR h]
  obtain ⟨r1, r2, r3, r4⟩ := hR
  have := pGo_ag (ks := P.1) (fs := P.2.1) (ss := P.2.2.1) (v := P.2.2.2.2.1 (pTold nR P u M sd')) (u := u) P.2.2.2.1 0 u (N, []) (M, []) (fun i _ q => r4 i (by omega)) (by rw [Nat.zero_add]; exact h)
  rw [Nat.zero_add] at this
  exact ⟨this.1, fun ok => ⟨(this.2 ok).1, fun i hi => (this.2 ok).2 i (by omega) hi⟩⟩
theorem NG.ag {P : SH} {N M : Nat → Int64} (h : Ag 0 P.2.2.2.1 N M) (g : NG P M) : NG P N := fun s hs => by
  rw [(h s (by omega) hs).1, (h s (by omega) hs).2]
  exact g s hs
/-- the numbers of a stand -/
def stN (N : Nat → Int64) (x y : Int64) : Nat → Int64 := va_up (va_up N 0 x) 6 y
theorem stN_0 {N : Nat → Int64} {x y : Int64} : stN N x y 0 = x := by unfold stN; rw [up_ne (by decide), up_same]
theorem stN_6 {N : Nat → Int64} {x y : Int64} : stN N x y 6 = y := by unfold stN; rw [up_same]
theorem stN_o {N : Nat → Int64} {x y : Int64} {k : Nat} (h0 : k ≠ 0) (h6 : k ≠ 6) : stN N x y k = N k := by unfold stN; rw [up_ne h6, up_ne h0]
theorem stN_z {N : Nat → Int64} {x y : Int64} (h : Z30 N) : Z30 (stN N x y) := fun k hk => by rw [stN_o (by omega) (by omega)]; exact h k hk
/-- how many, what they keep, where they came from, by what -/
abbrev RQ : Type := Nat × (Nat → Int64) × (Nat → Int64) × (Nat → Nat) × (Nat → Int64)
def rO (P : SH) (N : Nat → Int64) (sd : Int64) (Q : RQ) (a : Nat) (u : Int64) : Bool × TT := pOut nR P u (stN N (Q.2.1 a) (Q.2.2.1 a)) sd
def rX (P : SH) (N : Nat → Int64) (sd : Int64) (Q : RQ) (a : Nat) (u : Int64) : Int64 := (rO P N sd Q a u).2.1 0
def rY (P : SH) (N : Nat → Int64) (sd : Int64) (Q : RQ) (a : Nat) (u : Int64) : Int64 := if P.2.2.2.1 ≤ 1 then 0 else (rO P N sd Q a u).2.1 6
def rIn (m x : Int64) : Prop := -m ≤ x ∧ x ≤ m
def rBy (P : SH) (N : Nat → Int64) (sd m : Int64) (Q : RQ) (a : Nat) (u : Int64) : Prop := ¬ (rIn m (rX P N sd Q a u) ∧ rIn m (rY P N sd Q a u))
def rOld (Q : RQ) (x y : Int64) : Prop := ∃ e, e < Q.1 ∧ Q.2.1 e = x ∧ Q.2.2.1 e = y
def rNew (Q : RQ) (x y : Int64) (a : Nat) (u : Int64) : RQ := (Q.1 + 1, va_up Q.2.1 Q.1 x, va_up Q.2.2.1 Q.1 y, va_up Q.2.2.2.1 Q.1 a, va_up Q.2.2.2.2 Q.1 u)
/-- what holds of the stands found so far -/
def QI (P : SH) (N : Nat → Int64) (Q : RQ) : Prop := 1 ≤ Q.1 ∧ Q.1 ≤ 500 ∧ (∀ e, e < Q.1 → NG P (stN N (Q.2.1 e) (Q.2.2.1 e))) ∧ (P.2.2.2.1 ≤ 1 → ∀ e, e < Q.1 → Q.2.2.1 e = 0) ∧ ∀ e, 0 < e → e < Q.1 → Q.2.2.2.1 e < e
theorem QI.new {P : SH} {N : Nat → Int64} {sd u : Int64} {Q : RQ} {a : Nat} (hR : ReachP P) (h : QI P N Q) (ha : a < Q.1) (hc : Q.1 < 500) (ok : (rO P N sd Q a u).1 = true) : QI P N (rNew Q (rX P N sd Q a u) (rY P N sd Q a u) a u) := by
  obtain ⟨q1, q2, q3, q4, q5⟩ := h
  have hg : NG P (rO P N sd Q a u).2.1 := NG.out ok
  have hb := ((out_ag (u := u) (sd := sd) (sd' := sd) (N := stN N (Q.2.1 a) (Q.2.2.1 a)) (M := stN N (Q.2.1 a) (Q.2.2.1 a)) hR (fun s _ _ => ⟨rfl, rfl⟩)).2 ok).2
  refine ⟨by show 1 ≤ Q.1 + 1; omega, by show Q.1 + 1 ≤ 500; omega, fun e he => ?_, fun h1 e he => ?_, fun e h0 he => ?_⟩
  · show NG P (stN N (va_up Q.2.1 Q.1 (rX P N sd Q a u) e) (va_up Q.2.2.1 Q.1 (rY P N sd Q a u) e))
    have he' : e < Q.1 + 1 := he
    by_cases z : e = Q.1
    · rw [z, up_same, up_same]
      intro s hs
      have := hg s hs
      have hr2 := hR.2.1
      have s01 : s = 0 ∨ s = 1 := by omega
      have b1 := hb s hs
      have b2 : stN N (rX P N sd Q a u) (rY P N sd Q a u) (6 * s + 1) = (rO P N sd Q a u).2.1 (6 * s + 1) := by
        rw [stN_o (by omega) (by omega)]
        refine Eq.trans ?_ b1.symm
        rw [stN_o (by omega) (by omega)]
      rw [b2]
      rcases s01 with rfl | rfl
      · rw [show 6 * 0 = 0 from rfl, stN_0]
        exact this
      · rw [show 6 * 1 = 6 from rfl, stN_6]
        have e6 : rY P N sd Q a u = (rO P N sd Q a u).2.1 6 := by unfold rY; rw [if_neg (by omega)]
        rw [e6]
        exact this
    · rw [up_ne z, up_ne z]; exact q3 e (by omega)
  · show va_up Q.2.2.1 Q.1 (rY P N sd Q a u) e = 0
    have he' : e < Q.1 + 1 := he
    by_cases z : e = Q.1
    · rw [z, up_same]; unfold rY; rw [if_pos h1]
    · rw [up_ne z]; exact q4 h1 e (by omega)
  · show va_up Q.2.2.2.1 Q.1 a e < e
    have he' : e < Q.1 + 1 := he
    by_cases z : e = Q.1
    · rw [z, up_same]; exact ha
    · rw [up_ne z]; exact q5 e h0 (by omega)
