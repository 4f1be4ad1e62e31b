/-! At the start the two stand alike. -/
theorem s00_zl {o : Nat} (h : o ≠ 19 ∧ o ≠ 90) : Z30 (s00.2.1 o) := fun k _ => by rw [s00_l h]
theorem rel0 : Rel s00 := by
  refine ⟨⟨(fun _ => 0, fun _ => 0, fun _ => 0, 0, lv0, 2, 0), 75, 78, 0, fun _ => 0, 0, 0, ⟨⟨rfl, Or.inl ⟨rfl, rfl⟩⟩, ⟨⟨?_, ?_, ?_, ?_, ?_, ?_, ?_⟩, ⟨?_, ?_, ?_, ?_, ?_, ?_, ?_⟩, ⟨⟨⟨by decide, by decide, by decide, by decide⟩, fun s (hs : s < 0) => by omega⟩, ?_, ?_⟩⟩, ⟨?_, ?_, ?_, ?_⟩, ⟨?_, ?_⟩, ⟨s00_zl (by decide), s00_zl (by decide), fun d hd => s00_zl (by omega)⟩, ⟨by decide, ?_, ?_⟩, fun t ht => by omega, ⟨rfl, rfl⟩, fun t ht => by omega⟩, ⟨[], by decide, ⟨?_, fun i c h => by simp at h⟩, ⟨?_, fun i c h => by simp at h⟩⟩⟩, ?_, ?_, ?_, ⟨?_, ?_, ?_⟩, ⟨0, by decide, ?_, ?_, fun i hi => by omega⟩, ⟨?_, 0, 0, by decide, by decide, ?_, ?_, ?_, fun i hi => by omega⟩⟩
  · exact s00_i (by decide)
  · exact s00_l (by decide)
  · exact s00_i (by decide)
  · rfl
  · rfl
  · rfl
  · rfl
  · exact s00_i (by decide)
  · exact s00_l (by decide)
  · exact s00_i (by decide)
  · rfl
  · rfl
  · rfl
  · rfl
  · intro k hk
    have hk' : k + 1 < 2 := hk
    have : k = 0 := by omega
    subst this
    decide
  · intro k hk
    have hk' : k < 2 := hk
    have : k = 0 ∨ k = 1 := by omega
    rcases this with rfl | rfl <;> decide
  · rw [s00_l (by decide)]
  · rw [s00_l (by decide)]
  · rw [s00_l (by decide)]
  · rw [s00_l (by decide)]
  · exact s00_l (by decide)
  · exact s00_l (by decide)
  · rfl
  · rfl
  · rfl
  · rfl
  · intro r hr
    have h1 : s00.1 (fa (3 + 2 * r) 1) 0 = 1 := by
      have := (is_rl r hr).2.2.2.2.1
      rw [show 2 + 2 * r + 1 = 3 + 2 * r by omega] at this
      exact this
    have h2 : s00.1 (fa (3 + 2 * r) 2) 0 = 0 := by
      have := (is_rl r hr).2.2.2.2.2.1
      rw [show 2 + 2 * r + 1 = 3 + 2 * r by omega] at this
      exact this
    have h3 : s00.1 (fa (3 + 2 * r) 3) 0 = 0 := by
      have := (is_rl r hr).2.2.2.2.2.2.1
      rw [show 2 + 2 * r + 1 = 3 + 2 * r by omega] at this
      exact this
    rw [h1, h2, h3, s00_i (o := 82) (by decide), s00_i (o := 83) (by decide), s00_i (o := 84) (by decide), s00_l (o := 85) (by decide), s00_l (o := 4 + 2 * r) (by omega)]
    exact ⟨Or.inr ⟨rfl, rfl⟩, rfl, rfl, ⟨0, by decide, rfl⟩, ⟨0, by decide, rfl⟩, fun i hi => ⟨rfl, fun w => absurd w (show ¬ (0 : Int32) = 4 by decide), fun w => absurd w (show ¬ (0 : Int32) = 5 by decide)⟩⟩
  · rfl
  · show s00.1 74 = s00.1 97
    rw [s00_i (by decide), s00_i (by decide)]
  · rw [s00_f (by unfold fa; omega), s00_l (by decide)]
    rfl
  · rw [s00_f (by unfold fa; omega), s00_l (by decide)]
    rfl
  · rw [s00_l (by unfold fa; omega), s00_l (by decide)]
  · rfl
  · rfl
  · rfl
  · rfl
  · rfl
  · rfl
