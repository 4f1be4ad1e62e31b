/-! What holds between the class and the reference, ahead of each call and behind it. -/
def smp (u : Int64) : Prop := -1000000000000 ≤ u.toInt ∧ u.toInt ≤ 1000000000000
def Z30 (N : Nat → Int64) : Prop := ∀ k, 30 ≤ k → N k = 0
/-- items of floats and doubles that are no numbers are one sort -/
def canon (f : Int32) (b : Int64) : Prop := (f = 4 → b = b.toInt32.toInt64 ∧ ((b &&& 2147483647) ≤ 2139095040 ∨ b = 2143289344)) ∧ (f = 5 → (b &&& 9223372036854775807) ≤ 9218868437227405312 ∨ b = 9221120237041090560)
def RReel (σ : SS) : Prop := ∀ r, r < 6 → ((σ.1 (fa (3 + 2 * r) 1) 0 = 0 ∧ σ.1 82 r = 1) ∨ (σ.1 (fa (3 + 2 * r) 1) 0 = 1 ∧ σ.1 82 r = 0)) ∧ σ.1 (fa (3 + 2 * r) 2) 0 = σ.1 83 r ∧ σ.1 (fa (3 + 2 * r) 3) 0 = σ.1 84 r ∧ (∃ z, z ≤ 60 ∧ σ.1 84 r = nI z) ∧ (∃ f, f < 6 ∧ σ.1 83 r = nI f) ∧ ∀ i, i < 60 → σ.2.1 (4 + 2 * r) i = σ.2.1 85 (60 * r + i) ∧ canon (σ.1 83 r) (σ.2.1 85 (60 * r + i))
def RFind (σ : SS) : Prop := σ.1 (fa 1 9) 0 = σ.1 (fa 81 5) 0
def RW (σ : SS) : Prop := σ.1 74 = σ.1 97
def RHold (σ : SS) : Prop := (σ.1 (fa 27 3) 0).toInt64 = σ.2.1 100 0 ∧ (σ.1 (fa 27 4) 0).toInt64 = σ.2.1 100 1 ∧ σ.2.1 (fa 27 5) 0 = σ.2.1 100 2
def RReach (σ : SS) : Prop := ∃ w, w ≤ 500 ∧ σ.1 (fa 29 5) 0 = nI w ∧ σ.1 (fa 81 35) 0 = nI w ∧ ∀ i, i < w → σ.2.1 32 i = σ.2.1 105 i
/-- the sample of a row, by the row's number -/
def wbit (rr n i : Nat) : Bool := rr.testBit (n - 1 - i)
def RWorst (σ : SS) : Prop := σ.1 (fa 33 2) 0 = σ.1 (fa 81 37) 0 ∧ ∃ n rr, n ≤ 12 ∧ rr < 4096 ∧ σ.1 (fa 33 4) 0 = nI n ∧ σ.1 (fa 81 38) 0 = nI n ∧ σ.1 (fa 33 5) 0 = nI rr ∧ ∀ i, i < n → σ.2.1 106 i = if wbit rr n i = true then σ.2.1 (fa 33 7) 0 else σ.2.1 (fa 33 6) 0
def RTrace (σ : SS) (a : Nat) : Prop := ∃ l : List Int32, l.length ≤ 15 ∧ HasM (σ.1 (a + 2)) (σ.1 (fa a 3) 0) l ∧ HasM (σ.1 94) (σ.1 (fa 81 19) 0) l
/-- the steps made so far, gone through from the beginning, none of them great, lead here -/
def RunOk (P : SH) (fs : Int64) (md : Nat → Int64) : Nat → (Nat → Int64) → Int64 → Prop
  | 0, N, sd => N = (fun _ => 0) ∧ sd = fs
  | T + 1, N, sd => ∃ N0 sd0, RunOk P fs md T N0 sd0 ∧ (pOut nR P (md T) N0 sd0).1 = true ∧ N = (pOut nR P (md T) N0 sd0).2.1 ∧ sd = (pLot P.2.2.2.2.2.2 sd0).2
def AllP (P : SH) : Prop := GoodP P ∧ RiseP P
def CPt (σ : SS) (a b : Nat) : Prop := σ.2.2 = (a, b) ∧ ((a = 75 ∧ b = 78) ∨ (a = 78 ∧ b = 75))
def CSd (σ : SS) (a : Nat) (sd fs : Int64) : Prop := σ.2.1 (fa 15 7) 0 = fs ∧ σ.2.1 (fa 81 13) 0 = fs ∧ σ.2.1 (fa a 4) 0 = sd ∧ σ.2.1 (fa 81 15) 0 = sd
def CN (σ : SS) (a : Nat) (N : Nat → Int64) : Prop := σ.2.1 (a + 1) = N ∧ σ.2.1 91 = N
def CZ (σ : SS) (b : Nat) : Prop := Z30 (σ.2.1 (b + 1)) ∧ Z30 (σ.2.1 95) ∧ ∀ d, d < 13 → Z30 (σ.2.1 (36 + 3 * d))
def CT (σ : SS) (T : Nat) : Prop := T ≤ 300 ∧ σ.1 (fa 20 2) 0 = nI T ∧ σ.1 (fa 81 16) 0 = nI T
def CMd (σ : SS) (T : Nat) : Prop := ∀ t, t < T → σ.2.1 22 t = σ.2.1 92 t ∧ smp (σ.2.1 92 t)
def CRec (σ : SS) (P : SH) (T : Nat) : Prop := ∀ t, t < T → smp (σ.2.1 93 (7 * t)) ∧ ∀ w, w < 2 + P.2.2.2.1 → σ.2.1 21 (7 * t + w) = σ.2.1 93 (7 * t + w)
/-- the loop: shape, now, seeds, the record -/
def RCore (σ : SS) (P : SH) (a b T : Nat) (N : Nat → Int64) (sd fs : Int64) : Prop :=
  CPt σ a b ∧ (CShp σ P ∧ RShp σ P ∧ AllP P) ∧ CSd σ a sd fs ∧ CN σ a N ∧ CZ σ b ∧ CT σ T ∧ CMd σ T ∧ RunOk P fs (σ.2.1 92) T N sd ∧ CRec σ P T
def Rel (σ : SS) : Prop := (∃ P a b T N sd fs, RCore σ P a b T N sd fs ∧ RTrace σ a) ∧ RReel σ ∧ RFind σ ∧ RW σ ∧ RHold σ ∧ RReach σ ∧ RWorst σ
/-! Frames. -/
def fReel (o : Nat) : Bool := (4 ≤ o && o ≤ 14) || (82 ≤ o && o ≤ 85) || (350 ≤ o && o < 900)
def fFind (o : Nat) : Bool := o == 259 || o == 4255
def fW (o : Nat) : Bool := o == 74 || o == 97
def fHold (o : Nat) : Bool := (1553 ≤ o && o ≤ 1555) || o == 100
def fReach (o : Nat) : Bool := o == 1655 || o == 4285 || o == 32 || o == 105
def fWorst (o : Nat) : Bool := (1852 ≤ o && o ≤ 1857 && o != 1853) || o == 4287 || o == 4288 || o == 106
def fTrace (o : Nat) : Bool := o == 77 || o == 80 || o == 3953 || o == 4103 || o == 94 || o == 4269
def fCore (o : Nat) : Bool := (16 ≤ o && o ≤ 19) || o == 21 || o == 22 || (36 ≤ o && o ≤ 72 && o % 3 == 0) || o == 76 || o == 79 || (87 ≤ o && o ≤ 93) || o == 95 || (954 ≤ o && o ≤ 957) || o == 1202 || o == 3954 || o == 4104 || o == 4256 || o == 4260 || o == 4262 || o == 4263 || o == 4265 || o == 4266
theorem RReel.mod {σ τ : SS} {L : List Nat} (h : RReel σ) (hM : Mod L σ τ) (hL : ∀ o ∈ L, fReel o = false) : RReel τ := by
  have key : ∀ o, fReel o = true → τ.1 o = σ.1 o ∧ τ.2.1 o = σ.2.1 o := fun o ho => hM.1 o (fun q => by rw [hL o q] at ho; cases ho)
  intro r hr
  have hf : ∀ k, k < 4 → fReel (fa (3 + 2 * r) k) = true := fun k hk => by unfold fReel fa; simp; omega
  have h4 : fReel (4 + 2 * r) = true := by unfold fReel; simp; omega
  rw [(key _ (hf 1 (by decide))).1, (key _ (hf 2 (by decide))).1, (key _ (hf 3 (by decide))).1, (key 82 rfl).1, (key 83 rfl).1, (key 84 rfl).1, (key _ h4).2, (key 85 rfl).2]
  exact h r hr
theorem RFind.mod {σ τ : SS} {L : List Nat} (h : RFind σ) (hM : Mod L σ τ) (hL : ∀ o ∈ L, fFind o = false) : RFind τ := by
  have key : ∀ o, fFind o = true → τ.1 o = σ.1 o ∧ τ.2.1 o = σ.2.1 o := fun o ho => hM.1 o (fun q => by rw [hL o q] at ho; cases ho)
  unfold RFind
  rw [(key (fa 1 9) rfl).1, (key (fa 81 5) rfl).1]
  exact h
theorem RW.mod {σ τ : SS} {L : List Nat} (h : RW σ) (hM : Mod L σ τ) (hL : ∀ o ∈ L, fW o = false) : RW τ := by
  have key : ∀ o, fW o = true → τ.1 o = σ.1 o ∧ τ.2.1 o = σ.2.1 o := fun o ho => hM.1 o (fun q => by rw [hL o q] at ho; cases ho)
  unfold RW
  rw [(key 74 rfl).1, (key 97 rfl).1]
  exact h
theorem RHold.mod {σ τ : SS} {L : List Nat} (h : RHold σ) (hM : Mod L σ τ) (hL : ∀ o ∈ L, fHold o = false) : RHold τ := by
  have key : ∀ o, fHold o = true → τ.1 o = σ.1 o ∧ τ.2.1 o = σ.2.1 o := fun o ho => hM.1 o (fun q => by rw [hL o q] at ho; cases ho)
  unfold RHold
  rw [(key (fa 27 3) rfl).1, (key (fa 27 4) rfl).1, (key (fa 27 5) rfl).2, (key 100 rfl).2]
  exact h
theorem RReach.mod {σ τ : SS} {L : List Nat} (h : RReach σ) (hM : Mod L σ τ) (hL : ∀ o ∈ L, fReach o = false) : RReach τ := by
  have key : ∀ o, fReach o = true → τ.1 o = σ.1 o ∧ τ.2.1 o = σ.2.1 o := fun o ho => hM.1 o (fun q => by rw [hL o q] at ho; cases ho)
  unfold RReach
  rw [(key (fa 29 5) rfl).1, (key (fa 81 35) rfl).1, (key 32 rfl).2, (key 105 rfl).2]
  exact h
theorem RWorst.mod {σ τ : SS} {L : List Nat} (h : RWorst σ) (hM : Mod L σ τ) (hL : ∀ o ∈ L, fWorst o = false) : RWorst τ := by
  have key : ∀ o, fWorst o = true → τ.1 o = σ.1 o ∧ τ.2.1 o = σ.2.1 o := fun o ho => hM.1 o (fun q => by rw [hL o q] at ho; cases ho)
  unfold RWorst
  rw [(key (fa 33 2) rfl).1, (key (fa 33 4) rfl).1, (key (fa 33 5) rfl).1, (key (fa 33 6) rfl).2, (key (fa 33 7) rfl).2, (key (fa 81 37) rfl).1, (key (fa 81 38) rfl).1, (key 106 rfl).2]
  exact h
theorem RTrace.mod {σ τ : SS} {L : List Nat} {a : Nat} (ha : a = 75 ∨ a = 78) (h : RTrace σ a) (hM : Mod L σ τ) (hL : ∀ o ∈ L, fTrace o = false) : RTrace τ a := by
  have key : ∀ o, fTrace o = true → τ.1 o = σ.1 o ∧ τ.2.1 o = σ.2.1 o := fun o ho => hM.1 o (fun q => by rw [hL o q] at ho; cases ho)
  unfold RTrace
  rcases ha with rfl | rfl
  · rw [(key (75 + 2) rfl).1, (key (fa 75 3) rfl).1, (key 94 rfl).1, (key (fa 81 19) rfl).1]
    exact h
  · rw [(key (78 + 2) rfl).1, (key (fa 78 3) rfl).1, (key 94 rfl).1, (key (fa 81 19) rfl).1]
    exact h
theorem CShp.modF {σ τ : SS} {P : SH} (h : CShp σ P) (key : ∀ o, fCore o = true → τ.1 o = σ.1 o ∧ τ.2.1 o = σ.2.1 o) : CShp τ P := by
  unfold CShp
  rw [(key 16 rfl).1, (key 17 rfl).2, (key 18 rfl).1, (key (fa 15 4) rfl).1, (key 19 rfl).2, (key (fa 15 5) rfl).1, (key (fa 15 6) rfl).1]
  exact h
theorem RShp.modF {σ τ : SS} {P : SH} (h : RShp σ P) (key : ∀ o, fCore o = true → τ.1 o = σ.1 o ∧ τ.2.1 o = σ.2.1 o) : RShp τ P := by
  unfold RShp
  rw [(key 87 rfl).1, (key 88 rfl).2, (key 89 rfl).1, (key (fa 81 6) rfl).1, (key 90 rfl).2, (key (fa 81 10) rfl).1, (key (fa 81 12) rfl).1]
  exact h
theorem RCore.mod {σ τ : SS} {L : List Nat} {P : SH} {a b T : Nat} {N : Nat → Int64} {sd fs : Int64} (h : RCore σ P a b T N sd fs) (hM : Mod L σ τ) (hL : ∀ o ∈ L, fCore o = false) : RCore τ P a b T N sd fs := by
  have key : ∀ o, fCore o = true → τ.1 o = σ.1 o ∧ τ.2.1 o = σ.2.1 o := fun o ho => hM.1 o (fun q => by rw [hL o q] at ho; cases ho)
  obtain ⟨⟨h1, hab⟩, ⟨h2, h3, h4⟩, ⟨h5, h6, h7, h8⟩, ⟨h9, h10⟩, ⟨h11, h12, h13⟩, ⟨h14, h15, h16⟩, h17, h18, h19⟩ := h
  have k36 : ∀ d, d < 13 → fCore (36 + 3 * d) = true := fun d hd => by unfold fCore; simp; omega
  unfold RCore CPt CSd CN CZ CT CMd CRec
  rw [hM.2, (key (fa 15 7) rfl).2, (key (fa 81 13) rfl).2, (key (fa 81 15) rfl).2, (key 91 rfl).2, (key 95 rfl).2, (key (fa 20 2) rfl).1, (key (fa 81 16) rfl).1, (key 22 rfl).2, (key 92 rfl).2, (key 93 rfl).2, (key 21 rfl).2]
  refine ⟨⟨h1, hab⟩, ⟨h2.modF key, h3.modF key, h4⟩, ⟨h5, h6, ?_, h8⟩, ⟨?_, h10⟩, ⟨?_, h12, fun d hd => by rw [(key _ (k36 d hd)).2]; exact h13 d hd⟩, ⟨h14, h15, h16⟩, h17, h18, h19⟩
  · rcases hab with ⟨rfl, rfl⟩ | ⟨rfl, rfl⟩
    · rw [(key (fa 75 4) rfl).2]; exact h7
    · rw [(key (fa 78 4) rfl).2]; exact h7
  · rcases hab with ⟨rfl, rfl⟩ | ⟨rfl, rfl⟩
    · rw [(key (75 + 1) rfl).2]; exact h9
    · rw [(key (78 + 1) rfl).2]; exact h9
  · rcases hab with ⟨rfl, rfl⟩ | ⟨rfl, rfl⟩
    · rw [(key (78 + 1) rfl).2]; exact h11
    · rw [(key (75 + 1) rfl).2]; exact h11
/-- nothing that the two share has changed -/
def fAll (o : Nat) : Bool := fReel o || fFind o || fW o || fHold o || fReach o || fWorst o || fTrace o || fCore o
theorem Rel.mod {σ τ : SS} {L : List Nat} (h : Rel σ) (hM : Mod L σ τ) (hL : ∀ o ∈ L, fAll o = false) : Rel τ := by
  have hh : ∀ o ∈ L, fReel o = false ∧ fFind o = false ∧ fW o = false ∧ fHold o = false ∧ fReach o = false ∧ fWorst o = false ∧ fTrace o = false ∧ fCore o = false := fun o ho => by
    have := hL o ho
    unfold fAll at this
    simpa [Bool.or_eq_false_iff, and_assoc] using this
  obtain ⟨⟨P, a, b, T, N, sd, fs, h1, h2⟩, h3, h4, h5, h6, h7, h8⟩ := h
  refine ⟨⟨P, a, b, T, N, sd, fs, h1.mod hM (fun o ho => (hh o ho).2.2.2.2.2.2.2), h2.mod ?_ hM (fun o ho => (hh o ho).2.2.2.2.2.2.1)⟩, h3.mod hM (fun o ho => (hh o ho).1), h4.mod hM (fun o ho => (hh o ho).2.1), h5.mod hM (fun o ho => (hh o ho).2.2.1), h6.mod hM (fun o ho => (hh o ho).2.2.2.1), h7.mod hM (fun o ho => (hh o ho).2.2.2.2.1), h8.mod hM (fun o ho => (hh o ho).2.2.2.2.2.1)⟩
  rcases h1.1.2 with ⟨rfl, -⟩ | ⟨rfl, -⟩
  · exact Or.inl rfl
  · exact Or.inr rfl
/-! The same piece by piece. -/
theorem key_of {f : Nat → Bool} {σ τ : SS} {L : List Nat} (hM : Mod L σ τ) (hL : ∀ o ∈ L, f o = false) : ∀ o, f o = true → τ.1 o = σ.1 o ∧ τ.2.1 o = σ.2.1 o := fun o ho => hM.1 o (fun q => by rw [hL o q] at ho; cases ho)
def fCShp (o : Nat) : Bool := (16 ≤ o && o ≤ 19) || (954 ≤ o && o ≤ 956)
def fRShp (o : Nat) : Bool := (87 ≤ o && o ≤ 90) || o == 4256 || o == 4260 || o == 4262
def fSd (a o : Nat) : Bool := o == 957 || o == 4263 || o == 4265 || o == 204 + 50 * a
def fN (a o : Nat) : Bool := o == a + 1 || o == 91
def fZ (b o : Nat) : Bool := o == b + 1 || o == 95 || (36 ≤ o && o ≤ 72 && o % 3 == 0)
def fT (o : Nat) : Bool := o == 1202 || o == 4266
def fMd (o : Nat) : Bool := o == 22 || o == 92
def fRec (o : Nat) : Bool := o == 21 || o == 93
theorem CShp.mod2 {σ τ : SS} {L : List Nat} {P : SH} (h : CShp σ P) (hM : Mod L σ τ) (hL : ∀ o ∈ L, fCShp o = false) : CShp τ P := by
  have key := key_of hM hL
  unfold CShp
  rw [(key 16 rfl).1, (key 17 rfl).2, (key 18 rfl).1, (key (fa 15 4) rfl).1, (key 19 rfl).2, (key (fa 15 5) rfl).1, (key (fa 15 6) rfl).1]
  exact h
theorem RShp.mod2 {σ τ : SS} {L : List Nat} {P : SH} (h : RShp σ P) (hM : Mod L σ τ) (hL : ∀ o ∈ L, fRShp o = false) : RShp τ P := by
  have key := key_of hM hL
  unfold RShp
  rw [(key 87 rfl).1, (key 88 rfl).2, (key 89 rfl).1, (key (fa 81 6) rfl).1, (key 90 rfl).2, (key (fa 81 10) rfl).1, (key (fa 81 12) rfl).1]
  exact h
theorem CPt.mod {σ τ : SS} {L : List Nat} {a b : Nat} (h : CPt σ a b) (hM : Mod L σ τ) : CPt τ a b := ⟨hM.2.trans h.1, h.2⟩
theorem CSd.mod {σ τ : SS} {L : List Nat} {a : Nat} {sd fs : Int64} (h : CSd σ a sd fs) (hM : Mod L σ τ) (hL : ∀ o ∈ L, fSd a o = false) : CSd τ a sd fs := by
  have key := key_of hM hL
  unfold CSd
  rw [(key (fa 15 7) (by unfold fSd fa; simp)).2, (key (fa 81 13) (by unfold fSd fa; simp)).2, (key (fa 81 15) (by unfold fSd fa; simp)).2, (key (fa a 4) (by unfold fSd fa; simp; omega)).2]
  exact h
theorem CN.mod {σ τ : SS} {L : List Nat} {a : Nat} {N : Nat → Int64} (h : CN σ a N) (hM : Mod L σ τ) (hL : ∀ o ∈ L, fN a o = false) : CN τ a N := by
  have key := key_of hM hL
  unfold CN
  rw [(key (a + 1) (by unfold fN; simp)).2, (key 91 (by unfold fN; simp)).2]
  exact h
theorem CZ.mod {σ τ : SS} {L : List Nat} {b : Nat} (h : CZ σ b) (hM : Mod L σ τ) (hL : ∀ o ∈ L, fZ b o = false) : CZ τ b := by
  have key := key_of hM hL
  unfold CZ
  rw [(key (b + 1) (by unfold fZ; simp)).2, (key 95 (by unfold fZ; simp)).2]
  exact ⟨h.1, h.2.1, fun d hd => by rw [(key (36 + 3 * d) (by unfold fZ; simp; omega)).2]; exact h.2.2 d hd⟩
theorem CT.mod {σ τ : SS} {L : List Nat} {T : Nat} (h : CT σ T) (hM : Mod L σ τ) (hL : ∀ o ∈ L, fT o = false) : CT τ T := by
  have key := key_of hM hL
  unfold CT
  rw [(key (fa 20 2) rfl).1, (key (fa 81 16) rfl).1]
  exact h
theorem CMd.mod {σ τ : SS} {L : List Nat} {T : Nat} (h : CMd σ T) (hM : Mod L σ τ) (hL : ∀ o ∈ L, fMd o = false) : CMd τ T := by
  have key := key_of hM hL
  unfold CMd
  rw [(key 22 rfl).2, (key 92 rfl).2]
  exact h
theorem CRec.mod {σ τ : SS} {L : List Nat} {P : SH} {T : Nat} (h : CRec σ P T) (hM : Mod L σ τ) (hL : ∀ o ∈ L, fRec o = false) : CRec τ P T := by
  have key := key_of hM hL
  unfold CRec
  rw [(key 21 rfl).2, (key 93 rfl).2]
  exact h
theorem RunOk.congr {P : SH} {fs : Int64} {md md' : Nat → Int64} : ∀ {T : Nat} {N : Nat → Int64} {sd : Int64}, (∀ t, t < T → md' t = md t) → RunOk P fs md T N sd → RunOk P fs md' T N sd
  | 0, _, _, _, h => h
  | T + 1, N, sd, e, ⟨N0, sd0, h, h1, h2, h3⟩ => ⟨N0, sd0, RunOk.congr (fun t ht => e t (by omega)) h, by rw [e T (by omega)]; exact h1, by rw [e T (by omega)]; exact h2, h3⟩
theorem RunOk.mod {σ τ : SS} {L : List Nat} {P : SH} {fs sd : Int64} {T : Nat} {N : Nat → Int64} (h : RunOk P fs (σ.2.1 92) T N sd) (hM : Mod L σ τ) (hL : ∀ o ∈ L, fMd o = false) : RunOk P fs (τ.2.1 92) T N sd := by
  rw [(key_of hM hL 92 rfl).2]
  exact h
