/-! Seen: found or new. -/
/-- asked for, not kept yet, and its free place is known -/
def Fresh (σ : SS) (w c : Nat) : Prop := (∃ d, d < 1024 ∧ σ.1 (fa 23 3) 0 = nI ((hsh w (σ.2.1 26) + d) % 1024) ∧ σ.1 25 ((hsh w (σ.2.1 26) + d) % 1024) = 0 ∧ ∀ d', d' < d → σ.1 25 ((hsh w (σ.2.1 26) + d') % 1024) ≠ 0) ∧ ∀ e, e < c → ¬ ∀ i, i < w → σ.2.1 24 (e * w + i) = σ.2.1 26 i
theorem SeenOk.mod {σ τ : SS} {L : List Nat} {w c : Nat} (h : SeenOk σ w c) (hM : Mod L σ τ) (hL : ∀ o ∈ [24, 25, fa 23 5], o ∉ L) : SeenOk τ w c := by
  unfold SeenOk
  rw [hM.i (hL (fa 23 5) (by simp)), hM.i (hL 25 (by simp)), hM.l (hL 24 (by simp))]
  exact h
theorem s_find {σ : SS} {P : SH} {a c : Nat} (hT : IsTw a) (hs : CShp σ P) (hF : FitP P) (ok : SeenOk σ (wd P) c) : ∃ v τ, m_Sn_find 23 a (lay σ) = some (v, lay τ) ∧ Mod [26, fa 23 4, fa 23 3] σ τ ∧ τ.1 (fa 23 4) 0 = nI (wd P) ∧ (∀ i, i < wd P → τ.2.1 26 i = std P (σ.2.1 (a + 1)) (σ.2.1 (fa a 4) 0) i) ∧ ((v = -1 ∧ Fresh τ (wd P) c) ∨ ∃ e, e < c ∧ v = nI e ∧ ∀ i, i < wd P → σ.2.1 24 (e * wd P + i) = std P (σ.2.1 (a + 1)) (σ.2.1 (fa a 4) 0) i) := by
  have hw : wd P ≤ 11 := by
    have := hF.1
    unfold wd
    split <;> omega
  obtain ⟨τ, e1, m1, w1, k1⟩ := s_ask hT hs hF
  obtain ⟨o1, o2, o3, tb, t1, t2, t3, t4⟩ := ok.mod m1 (by decide)
  have e24 : τ.2.1 24 = σ.2.1 24 := m1.l (by decide)
  have eh : m_Sn_hashOfAsked 23 (lay τ) = some (nI (hsh (wd P) (τ.2.1 26)), lay τ) := by
    unfold m_Sn_hashOfAsked
    rw [ckd_lay (ci := 4) (o := 23) rfl (by decide)]
    exact s_hashGo hw w1 (wd P) 0 FU 0 (by omega) (by unfold FU; omega)
  have hh := hsh_lt (w := wd P) (f := τ.2.1 26)
  obtain ⟨d0, z1, z2⟩ := free_slot (h := hsh (wd P) (τ.2.1 26)) o2 (fun s q => (t1 s q).2) t2
  obtain ⟨d1, x1, x2, x3⟩ := s_findGo (h := hsh (wd P) (τ.2.1 26)) hw w1 o2 o3 t1 z1 z2 d0 0 FU (by omega) (by unfold FU; omega) (fun d' hd' => by omega)
  rw [Nat.add_zero, Nat.mod_eq_of_lt hh] at x3
  have ef : m_Sn_find 23 a (lay σ) = l_Sn_find_12 FU 23 (nI (hsh (wd P) (τ.2.1 26))) (nI 0) (lay τ) := by
    unfold m_Sn_find
    rw [ckd_lay (ci := 4) (o := 23) rfl (by decide), bd_eq e1, bd_eq eh]
    rfl
  have m32 : ∀ q : Nat, q % 1024 < 1024 := fun q => Nat.mod_lt _ (by decide)
  rcases x3 with ⟨y1, y2⟩ | ⟨y1, y2, y3⟩
  · refine ⟨-1, sI τ (fa 23 3) (fun _ => nI ((hsh (wd P) (τ.2.1 26) + d1) % 1024)), ef.trans y2, (m1.mono (by decide)).tr (Mod.I (by simp)), by rw [sI_ne (by decide)]; exact w1, k1, Or.inl ⟨rfl, ⟨d1, x1, sI_row, ?_, fun d' hd' => ?_⟩, fun e he hm => ?_⟩⟩
    · rw [sI_ne (by decide)]
      show τ.1 25 ((hsh (wd P) (τ.2.1 26) + d1) % 1024) = 0
      rw [(t1 _ (m32 _)).1, y1]
      rfl
    · rw [sI_ne (by decide)]
      show τ.1 25 ((hsh (wd P) (τ.2.1 26) + d') % 1024) ≠ 0
      rw [(t1 _ (m32 _)).1]
      have a1 := (x2 d' hd').1
      have a2 := (t1 ((hsh (wd P) (τ.2.1 26) + d') % 1024) (m32 _)).2
      intro q
      rw [ne_0 (by omega)] at q
      exact a1 q
    · have hm' : ∀ i, i < wd P → τ.2.1 24 (e * wd P + i) = τ.2.1 26 i := hm
      obtain ⟨de, v1, v2, v3⟩ := t3 e he
      rw [hsh_congr (w := wd P) (f := fun i => τ.2.1 24 (e * wd P + i)) (g := τ.2.1 26) hm'] at v2 v3
      have hlt : de < d1 := by
        apply Classical.byContradiction
        intro q
        by_cases q2 : d1 = de
        · rw [q2, v2] at y1; omega
        · exact v3 d1 (by omega) y1
      have := (x2 de hlt).2
      rw [v2, Nat.add_sub_cancel] at this
      exact this hm'
  · have a2 := (t1 ((hsh (wd P) (τ.2.1 26) + d1) % 1024) (m32 _)).2
    refine ⟨nI (tb ((hsh (wd P) (τ.2.1 26) + d1) % 1024) - 1), τ, ef.trans y3, m1.mono (by decide), w1, k1, Or.inr ⟨tb ((hsh (wd P) (τ.2.1 26) + d1) % 1024) - 1, by omega, rfl, fun i hi => ?_⟩⟩
    rw [← e24, y2 i hi]
    exact k1 i hi
