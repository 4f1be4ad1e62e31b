/-! Calls of methods that make no cells, by what they answer. -/
section RowsE
variable {α : Type} {X : CX α} {own : String} {cc cc' : ByteArray} {nL nL' : Nat} {rm rm' : Room} {pc : Nat} {lo : List (Nat × Value)} {st : List Value} {nc ns : Nat} {y : MethodName} {av : List Value} {idx : Nat} {zz : Bool} {ret' : Option FieldType}
abbrev injI : Int32 → Option Value := fun r => some (.int r)
abbrev injL : Int64 → Option Value := fun r => some (.long r)
abbrev injV : Unit → Option Value := fun _ => none
/-- what a call costs at a place: frames, words, no cells -/
def Fits (rm rm' : Room) (nL' nc ns : Nat) : Prop := (rm'.frames + 1 ≤ rm.frames ∧ 8 + (nL' + 11) + rm'.locals ≤ rm.locals) ∧ (rm'.cells = 0 ∧ rm'.slots = 0) ∧ nc ≤ rm.cells ∧ ns ≤ rm.slots
theorem Fits.r {rm rm' : Room} {nL' nc ns : Nat} (h : Fits rm rm' nL' nc ns) : nc + rm'.cells ≤ rm.cells ∧ ns + rm'.slots ≤ rm.slots := by
  obtain ⟨-, ⟨h1, h2⟩, h3⟩ := h
  rw [h1, h2]; exact h3
theorem wm_cVi {o ci n : Nat} {C : String} {T : u_T} {N : Nat} {f : M Int32} {k : Int32 → M α} (hX : Cx X own cc nL rm) (hz : Zx X zz) (hM : Im zz y cc' nL' ret' rm' injI (.ref o :: av) f) (hc : Ckd ci o f) (hci : vwCl[ci]? = some (C, T, N)) (cal : CalV y C cc' nL' ret' n) (hlink : Cond.methodLink own idx y ∈ lw_g) (hn : av.length = n) (hF : Fits rm rm' nL' nc ns) (hst : (st.map fun v => v.category).sum ≤ 8) (hd : decode cc pc = .ok (.invokevirtual idx, 3)) (kk : ∀ r : Int32, WM X (pc + 3) lo (.int r :: st) nc ns (k r)) : WM X pc lo (av.reverse ++ .ref o :: st) nc ns (bd f k) :=
  wm_callV hX hz hM hc hci cal hlink hn hF.1 hst hF.r hd (fun _ _ _ => rfl) (fun r => by rw [hF.2.1.1, hF.2.1.2]; exact kk r)
theorem wm_cVl {o ci n : Nat} {C : String} {T : u_T} {N : Nat} {f : M Int64} {k : Int64 → M α} (hX : Cx X own cc nL rm) (hz : Zx X zz) (hM : Im zz y cc' nL' ret' rm' injL (.ref o :: av) f) (hc : Ckd ci o f) (hci : vwCl[ci]? = some (C, T, N)) (cal : CalV y C cc' nL' ret' n) (hlink : Cond.methodLink own idx y ∈ lw_g) (hn : av.length = n) (hF : Fits rm rm' nL' nc ns) (hst : (st.map fun v => v.category).sum ≤ 8) (hd : decode cc pc = .ok (.invokevirtual idx, 3)) (kk : ∀ r : Int64, WM X (pc + 3) lo (.long r :: st) nc ns (k r)) : WM X pc lo (av.reverse ++ .ref o :: st) nc ns (bd f k) :=
  wm_callV hX hz hM hc hci cal hlink hn hF.1 hst hF.r hd (fun _ _ _ => rfl) (fun r => by rw [hF.2.1.1, hF.2.1.2]; exact kk r)
theorem wm_cVv {o ci n : Nat} {C : String} {T : u_T} {N : Nat} {f : M Unit} {k : Unit → M α} (hX : Cx X own cc nL rm) (hz : Zx X zz) (hM : Im zz y cc' nL' ret' rm' injV (.ref o :: av) f) (hc : Ckd ci o f) (hci : vwCl[ci]? = some (C, T, N)) (cal : CalV y C cc' nL' ret' n) (hlink : Cond.methodLink own idx y ∈ lw_g) (hn : av.length = n) (hF : Fits rm rm' nL' nc ns) (hst : (st.map fun v => v.category).sum ≤ 8) (hd : decode cc pc = .ok (.invokevirtual idx, 3)) (kk : WM X (pc + 3) lo st nc ns (k ())) : WM X pc lo (av.reverse ++ .ref o :: st) nc ns (bd f k) :=
  wm_callV hX hz hM hc hci cal hlink hn hF.1 hst hF.r hd (fun _ _ _ => rfl) (fun r => by rw [hF.2.1.1, hF.2.1.2]; exact kk)
theorem wm_cSi {n : Nat} {f : M Int32} {k : Int32 → M α} (hX : Cx X own cc nL rm) (hz : Zx X zz) (hM : Im zz y cc' nL' ret' rm' injI av f) (cal : CalS y cc' nL' ret' n) (hlink : Cond.methodLink own idx y ∈ lw_g) (hn : av.length = n) (hF : Fits rm rm' nL' nc ns) (hst : (st.map fun v => v.category).sum ≤ 8) (hd : decode cc pc = .ok (.invokestatic idx, 3)) (kk : ∀ r : Int32, WM X (pc + 3) lo (.int r :: st) nc ns (k r)) : WM X pc lo (av.reverse ++ st) nc ns (bd f k) :=
  wm_callS hX hz hM cal hlink hn hF.1 hst hF.r hd (fun _ _ _ => rfl) (fun r => by rw [hF.2.1.1, hF.2.1.2]; exact kk r)
theorem wm_cSl {n : Nat} {f : M Int64} {k : Int64 → M α} (hX : Cx X own cc nL rm) (hz : Zx X zz) (hM : Im zz y cc' nL' ret' rm' injL av f) (cal : CalS y cc' nL' ret' n) (hlink : Cond.methodLink own idx y ∈ lw_g) (hn : av.length = n) (hF : Fits rm rm' nL' nc ns) (hst : (st.map fun v => v.category).sum ≤ 8) (hd : decode cc pc = .ok (.invokestatic idx, 3)) (kk : ∀ r : Int64, WM X (pc + 3) lo (.long r :: st) nc ns (k r)) : WM X pc lo (av.reverse ++ st) nc ns (bd f k) :=
  wm_callS hX hz hM cal hlink hn hF.1 hst hF.r hd (fun _ _ _ => rfl) (fun r => by rw [hF.2.1.1, hF.2.1.2]; exact kk r)
theorem wm_cSv {n : Nat} {f : M Unit} {k : Unit → M α} (hX : Cx X own cc nL rm) (hz : Zx X zz) (hM : Im zz y cc' nL' ret' rm' injV av f) (cal : CalS y cc' nL' ret' n) (hlink : Cond.methodLink own idx y ∈ lw_g) (hn : av.length = n) (hF : Fits rm rm' nL' nc ns) (hst : (st.map fun v => v.category).sum ≤ 8) (hd : decode cc pc = .ok (.invokestatic idx, 3)) (kk : WM X (pc + 3) lo st nc ns (k ())) : WM X pc lo (av.reverse ++ st) nc ns (bd f k) :=
  wm_callS hX hz hM cal hlink hn hF.1 hst hF.r hd (fun _ _ _ => rfl) (fun r => by rw [hF.2.1.1, hF.2.1.2]; exact kk)
theorem wm_cNi {n : Nat} {host : String} {f : M Int32} {k : Int32 → M α} (hX : Cx X own cc nL rm) (hz : Zx X zz) (hM : Im zz y cc' nL' ret' rm' injI av f) (cal : CalS y cc' nL' ret' n) (hlink : (own, idx, y, host) ∈ nestW) (hn : av.length = n) (hF : Fits rm rm' nL' nc ns) (hst : (st.map fun v => v.category).sum ≤ 8) (hd : decode cc pc = .ok (.invokestatic idx, 3)) (kk : ∀ r : Int32, WM X (pc + 3) lo (.int r :: st) nc ns (k r)) : WM X pc lo (av.reverse ++ st) nc ns (bd f k) :=
  wm_callSN hX hz hM cal hlink hn hF.1 hst hF.r hd (fun _ _ _ => rfl) (fun r => by rw [hF.2.1.1, hF.2.1.2]; exact kk r)
theorem wm_cNl {n : Nat} {host : String} {f : M Int64} {k : Int64 → M α} (hX : Cx X own cc nL rm) (hz : Zx X zz) (hM : Im zz y cc' nL' ret' rm' injL av f) (cal : CalS y cc' nL' ret' n) (hlink : (own, idx, y, host) ∈ nestW) (hn : av.length = n) (hF : Fits rm rm' nL' nc ns) (hst : (st.map fun v => v.category).sum ≤ 8) (hd : decode cc pc = .ok (.invokestatic idx, 3)) (kk : ∀ r : Int64, WM X (pc + 3) lo (.long r :: st) nc ns (k r)) : WM X pc lo (av.reverse ++ st) nc ns (bd f k) :=
  wm_callSN hX hz hM cal hlink hn hF.1 hst hF.r hd (fun _ _ _ => rfl) (fun r => by rw [hF.2.1.1, hF.2.1.2]; exact kk r)
theorem wm_leti {a : Int32} {k : Int32 → M α} (kk : ∀ x, WM X pc lo (.int x :: st) nc ns (k x)) : WM X pc lo (.int a :: st) nc ns (lt_ a k) := kk a
theorem wm_letl {a : Int64} {k : Int64 → M α} (kk : ∀ x, WM X pc lo (.long x :: st) nc ns (k x)) : WM X pc lo (.long a :: st) nc ns (lt_ a k) := kk a
end RowsE
def FU : Nat := 100000
def mmax (x y : Int64) : Int64 := if y < x then x else y
def mmin (x y : Int64) : Int64 := if y < x then y else x
def mabs (x : Int64) : Int64 := if 0 < x then x else -x
section RowsF
variable {α : Type} {X : CX α} {own : String} {cc : ByteArray} {nL : Nat} {rm : Room} {pc : Nat} {lo : List (Nat × Value)} {st : List Value} {nc ns : Nat} {idx : Nat} {k : M α}
theorem wm_mmax {x y : Int64} (hX : Cx X own cc nL rm) (h1 : Cond.methodLink own idx Lib.MathLoose.max_long.x ∈ lw_g) (h2 : Cond.static Lib.MathLoose.max_long.x ∈ lw_g) (h3 : Cond.initialized "java/lang/Math" ∈ lw_g) (h4 : Cond.code Lib.MathLoose.max_long.x Lib.MathLoose.max_long.code 4 (some .long) ∈ lw_g) (hR : 1 ≤ rm.frames ∧ (st.map fun v => v.category).sum + 15 ≤ rm.locals) (hC : nc ≤ rm.cells ∧ ns ≤ rm.slots) (hd : decode cc pc = .ok (.invokestatic idx, 3)) (kk : WM X (pc + 3) lo (.long (mmax x y) :: st) nc ns k) : WM X pc lo (.long y :: .long x :: st) nc ns k := by
  obtain ⟨p, l, e, R, s, m, args, below, meth, c, d, b, base, z, Q, r0, h0⟩ := X
  intro h hk H locs ls hH hS hl
  obtain ⟨x1, x2, x3, x4, x5, x6, x7, x8⟩ := id hX
  subst x4
  exact va_mmax_long x1 x2 hl.1.symm x5 (x6 _ h1) (x6 _ h2) (x6 _ h3) (x6 _ h4) hR.1 (by rw [cat_map]; exact hR.2) hC.1 hC.2 hd (kk h hk H locs ls hH hS hl)
theorem wm_mmin {x y : Int64} (hX : Cx X own cc nL rm) (h1 : Cond.methodLink own idx Lib.MathLoose.min_long.x ∈ lw_g) (h2 : Cond.static Lib.MathLoose.min_long.x ∈ lw_g) (h3 : Cond.initialized "java/lang/Math" ∈ lw_g) (h4 : Cond.code Lib.MathLoose.min_long.x Lib.MathLoose.min_long.code 4 (some .long) ∈ lw_g) (hR : 1 ≤ rm.frames ∧ (st.map fun v => v.category).sum + 15 ≤ rm.locals) (hC : nc ≤ rm.cells ∧ ns ≤ rm.slots) (hd : decode cc pc = .ok (.invokestatic idx, 3)) (kk : WM X (pc + 3) lo (.long (mmin x y) :: st) nc ns k) : WM X pc lo (.long y :: .long x :: st) nc ns k := by
  obtain ⟨p, l, e, R, s, m, args, below, meth, c, d, b, base, z, Q, r0, h0⟩ := X
  intro h hk H locs ls hH hS hl
  obtain ⟨x1, x2, x3, x4, x5, x6, x7, x8⟩ := id hX
  subst x4
  exact va_mmin_long x1 x2 hl.1.symm x5 (x6 _ h1) (x6 _ h2) (x6 _ h3) (x6 _ h4) hR.1 (by rw [cat_map]; exact hR.2) hC.1 hC.2 hd (kk h hk H locs ls hH hS hl)
theorem wm_mabs {x : Int64} (hX : Cx X own cc nL rm) (h1 : Cond.methodLink own idx Lib.MathLoose.abs_long.x ∈ lw_g) (h2 : Cond.static Lib.MathLoose.abs_long.x ∈ lw_g) (h3 : Cond.initialized "java/lang/Math" ∈ lw_g) (h4 : Cond.code Lib.MathLoose.abs_long.x Lib.MathLoose.abs_long.code 2 (some .long) ∈ lw_g) (hR : 1 ≤ rm.frames ∧ (st.map fun v => v.category).sum + 15 ≤ rm.locals) (hC : nc ≤ rm.cells ∧ ns ≤ rm.slots) (hd : decode cc pc = .ok (.invokestatic idx, 3)) (kk : WM X (pc + 3) lo (.long (mabs x) :: st) nc ns k) : WM X pc lo (.long x :: st) nc ns k := by
  obtain ⟨p, l, e, R, s, m, args, below, meth, c, d, b, base, z, Q, r0, h0⟩ := X
  intro h hk H locs ls hH hS hl
  obtain ⟨x1, x2, x3, x4, x5, x6, x7, x8⟩ := id hX
  subst x4
  exact va_mabs_long x1 x2 hl.1.symm x5 (x6 _ h1) (x6 _ h2) (x6 _ h3) (x6 _ h4) hR.1 (by rw [cat_map]; have := hR.2; omega) hC.1 hC.2 hd (kk h hk H locs ls hH hS hl)
end RowsF
