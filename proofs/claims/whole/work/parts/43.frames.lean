/-! the class's rows hold when the reference's change, and the other way -/
def fCI (o : Nat) : Bool := fCShp o || ((76 ≤ o && o ≤ 80) || o == 21 || o == 22 || o == 957 || o == 1202 || o == 3953 || o == 3954 || o == 4103 || o == 4104)
def fRI (o : Nat) : Bool := fRShp o || ((91 ≤ o && o ≤ 95) || o == 4263 || o == 4265 || o == 4266 || o == 4269)
theorem CI.mod {σ τ : SS} {L : List Nat} {P : SH} {fs : Int64} {a b : Nat} {S : SG} (h : CI σ P fs a b S) (hM : Mod L σ τ) (hL : ∀ o ∈ L, fCI o = false) : CI τ P fs a b S := by
  have key := key_of hM hL
  obtain ⟨h1, h2, h5, h7, h9, h11, h15, hm, hr, l2⟩ := h
  refine ⟨h1.mod hM, h2.mod2 hM (fun o ho => ?_), ?_⟩
  · have := hL o ho
    unfold fCI at this
    simp only [Bool.or_eq_false_iff] at this
    exact this.1
  · rw [(key (fa 15 7) rfl).2, (key (fa 20 2) rfl).1, (key 21 rfl).2, (key 22 rfl).2]
    rcases h1.2 with ⟨rfl, rfl⟩ | ⟨rfl, rfl⟩
    · rw [(key (fa 75 4) rfl).2, (key (75 + 1) rfl).2, (key (78 + 1) rfl).2, (key (75 + 2) rfl).1, (key (fa 75 3) rfl).1]
      exact ⟨h5, h7, h9, h11, h15, hm, hr, l2⟩
    · rw [(key (fa 78 4) rfl).2, (key (78 + 1) rfl).2, (key (75 + 1) rfl).2, (key (78 + 2) rfl).1, (key (fa 78 3) rfl).1]
      exact ⟨h5, h7, h9, h11, h15, hm, hr, l2⟩
theorem RI.mod {σ τ : SS} {L : List Nat} {P : SH} {fs : Int64} {S : SG} (h : RI σ P fs S) (hM : Mdp L σ τ) (hL : ∀ o ∈ L, fRI o = false) : RI τ P fs S := by
  have key := key_of hM.m hL
  obtain ⟨h2, h5, h7, h9, h11, h15, hm, hr, l2⟩ := h
  refine ⟨RShp.mod2 (σ := (σ.1, σ.2.1, τ.2.2)) h2 hM.m (fun o ho => ?_), ?_⟩
  · have := hL o ho
    unfold fRI at this
    simp only [Bool.or_eq_false_iff] at this
    exact this.1
  · rw [(key (fa 81 13) rfl).2, (key (fa 81 15) rfl).2, (key 91 rfl).2, (key 95 rfl).2, (key (fa 81 16) rfl).1, (key 92 rfl).2, (key 93 rfl).2, (key 94 rfl).1, (key (fa 81 19) rfl).1]
    exact ⟨h5, h7, h9, h11, h15, hm, hr, l2⟩
