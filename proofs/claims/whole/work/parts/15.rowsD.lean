/-! The rest of the rows: division, copies, bits of floats, switches, the script. -/
def TW {α : Type} (X : CX α) (lo : List (Nat × Value)) (st : List Value) (nc ns : Nat) : List Nat → List (M α) → Prop
  | [], [] => True
  | t :: ts, k :: ks => WM X t lo st nc ns k ∧ TW X lo st nc ns ts ks
  | _, _ => False
theorem TW.get {α : Type} {X : CX α} {lo : List (Nat × Value)} {st : List Value} {nc ns : Nat} : ∀ {ts : List Nat} {ks : List (M α)}, TW X lo st nc ns ts ks → ts.length = ks.length ∧ ∀ (i : Nat) (k : M α), ks[i]? = some k → ∃ t, ts[i]? = some t ∧ WM X t lo st nc ns k
  | [], [], _ => ⟨rfl, fun i k h => by simp at h⟩
  | [], _ :: _, h => h.elim
  | _ :: _, [], h => h.elim
  | t :: ts, k :: ks, h => by
    obtain ⟨h1, h2⟩ := TW.get h.2
    refine ⟨by simp [h1], fun i k' hi => ?_⟩
    cases i with
    | zero => simp at hi; subst hi; exact ⟨t, rfl, h.1⟩
    | succ i => simp at hi; obtain ⟨t', a, b⟩ := h2 i k' hi; exact ⟨t', by simpa using a, b⟩
section RowsD
variable {α : Type} {X : CX α} {own : String} {cc : ByteArray} {nL : Nat} {rm : Room} {pc : Nat} {lo : List (Nat × Value)} {st : List Value} {nc ns : Nat} {idx : Nat}
theorem wm_ldv {x y : Int64} {k : Int64 → M α} (hX : Cx X own cc nL rm) (hd : decode cc pc = .ok (.ldiv, 1)) (kk : ∀ v : Int64, WM X (pc + 1) lo (.long v :: st) nc ns (k v)) : WM X pc lo (.long y :: .long x :: st) nc ns (bd (ldv x y) k) := by
  obtain ⟨p, l, e, R, s, m, args, below, meth, c, d, b, base, z, Q, r0, h0⟩ := X
  intro h hk H locs ls hH hS hl
  obtain ⟨v, h1, e1, e2⟩ := bd_some hk
  unfold ldv at e1
  split at e1
  · cases e1
  · next hy => cases e1; exact lv_ldiv hX.1 hX.2.1 hd hy (kk _ h e2 H locs ls hH hS hl)
theorem wm_lrm {x y : Int64} {k : Int64 → M α} (hX : Cx X own cc nL rm) (hd : decode cc pc = .ok (.lrem, 1)) (kk : ∀ v : Int64, WM X (pc + 1) lo (.long v :: st) nc ns (k v)) : WM X pc lo (.long y :: .long x :: st) nc ns (bd (lrm x y) k) := by
  obtain ⟨p, l, e, R, s, m, args, below, meth, c, d, b, base, z, Q, r0, h0⟩ := X
  intro h hk H locs ls hH hS hl
  obtain ⟨v, h1, e1, e2⟩ := bd_some hk
  unfold lrm at e1
  split at e1
  · cases e1
  · next hy => cases e1; exact lv_lrem hX.1 hX.2.1 hd hy (kk _ h e2 H locs ls hH hS hl)
/-- the words of a native that is linked -/
def NatW (own : String) (idx : Nat) (y : MethodName) : Prop := Cond.methodLink own idx y ∈ lw_g ∧ Cond.native y ∈ lw_g ∧ Cond.static y ∈ lw_g ∧ Cond.initialized y.cls ∈ lw_g
theorem wm_acp {o q : Nat} {i j n : Int32} {k : Unit → M α} (hX : Cx X own cc nL rm) (hz : Zx X false) (hw : NatW own idx arraycopyName) (hR : 1 ≤ rm.frames ∧ (st.map fun v => v.category).sum + (nativeFrameWords "java/lang/System" "arraycopy" 5 + 11) ≤ rm.locals) (hd : decode cc pc = .ok (.invokestatic idx, 3)) (kk : WM X (pc + 3) lo st nc ns (k ())) : WM X pc lo (.int n :: .int j :: .ref q :: .int i :: .ref o :: st) nc ns (bd (acp o i q j n) k) := by
  obtain ⟨p, l, e, R, s, m, args, below, meth, c, d, b, base, z, Q, r0, h0⟩ := X
  intro h hk H locs ls hH hS hl
  obtain ⟨⟨⟩, h1, e1, e2⟩ := bd_some hk
  obtain ⟨n0, f, n1, g, f1, f2, f3, f4, f5, f6, f7, f8⟩ := acp_some e1
  dsimp only at f8
  subst f8
  obtain ⟨x1, x2, x3, x4, x5, x6, x7, x8⟩ := id hX
  subst x4
  have hz : z = false := hz
  obtain ⟨j0, rfl, hj0, hc0⟩ := lk_some f1
  obtain ⟨j1, rfl, hj1, hc1⟩ := lk_some f2
  refine va_copyl x1 x2 hl.1.symm x5 (x6 _ hw.1) (x6 _ hw.2.1) (x6 _ hw.2.2.1) (x6 _ hw.2.2.2) x7.1 hH.2 tw_D hS j0 j1 1 1 (ty := .long) (f := f) (g := g) (by rw [tw_get hj0, hc0]; rfl) (by rw [tw_get hj1, hc1]; rfl) rfl rfl rfl f3 f4 f5 f6 f7 (fun _ _ => rfl) hR.1 (by rw [cat_map]; exact hR.2) hd (fun H1 locs1 hP1 hD1 hS1 => ?_)
  refine kk _ e2 H1 locs1 ls ⟨fun q => absurd (hz.symm.trans q) (by decide), ?_⟩ hS1 hl
  have e5 := tw_set (d := d) (b := b) (base := base) hj1 (.inl (1, n1, .inr (.inl (va_cpy f g i.toNatClampNeg j.toNatClampNeg n.toNatClampNeg))))
  rw [← e5]
  exact hP1
theorem wm_ibf {v : Int32} {k : UInt32 → M α} (hX : Cx X own cc nL rm) (hw : NatW own idx ⟨"java/lang/Float", "intBitsToFloat", "(I)F"⟩) (hR : 1 ≤ rm.frames ∧ (st.map fun v => v.category).sum + 15 ≤ rm.locals) (hd : decode cc pc = .ok (.invokestatic idx, 3)) (kk : ∀ r : UInt32, WM X (pc + 3) lo (.float r :: st) nc ns (k r)) : WM X pc lo (.int v :: st) nc ns (bd (ibf v) k) := by
  obtain ⟨p, l, e, R, s, m, args, below, meth, c, d, b, base, z, Q, r0, h0⟩ := X
  intro h hk H locs ls hH hS hl
  obtain ⟨r, h1, e1, e2⟩ := bd_some hk
  obtain ⟨x1, x2, x3, x4, x5, x6, x7, x8⟩ := id hX
  subst x4
  unfold ibf at e1
  split at e1
  · next hv => cases e1; exact vn_i2f x1 x2 hl.1.symm x5 (x6 _ hw.1) (x6 _ hw.2.1) (x6 _ hw.2.2.1) (x6 _ hw.2.2.2) hv hR.1 (by rw [cat_map]; exact hR.2) hd (kk _ h e2 H locs ls hH hS hl)
  · cases e1
theorem wm_lbd {v : Int64} {k : UInt64 → M α} (hX : Cx X own cc nL rm) (hw : NatW own idx ⟨"java/lang/Double", "longBitsToDouble", "(J)D"⟩) (hR : 1 ≤ rm.frames ∧ (st.map fun v => v.category).sum + 15 ≤ rm.locals) (hd : decode cc pc = .ok (.invokestatic idx, 3)) (kk : ∀ r : UInt64, WM X (pc + 3) lo (.double r :: st) nc ns (k r)) : WM X pc lo (.long v :: st) nc ns (bd (lbd v) k) := by
  obtain ⟨p, l, e, R, s, m, args, below, meth, c, d, b, base, z, Q, r0, h0⟩ := X
  intro h hk H locs ls hH hS hl
  obtain ⟨r, h1, e1, e2⟩ := bd_some hk
  obtain ⟨x1, x2, x3, x4, x5, x6, x7, x8⟩ := id hX
  subst x4
  unfold lbd at e1
  split at e1
  · next hv => cases e1; exact vn_l2d x1 x2 hl.1.symm x5 (x6 _ hw.1) (x6 _ hw.2.1) (x6 _ hw.2.2.1) (x6 _ hw.2.2.2) hv hR.1 (by rw [cat_map]; exact hR.2) hd (kk _ h e2 H locs ls hH hS hl)
  · cases e1
theorem wm_tsw {x : Int32} {dflt low hi : Int} {offs : Array Int} {len : Nat} {ks : List (M α)} {kd : M α} (ts : List Nat) (td : Nat) (hX : Cx X own cc nL rm) (hd : decode cc pc = .ok (.tableswitch dflt low hi offs, len)) (ho : offs.toList.map (fun o => (pc : Int) + o) = ts.map (fun (t : Nat) => (t : Int))) (hdf : (pc : Int) + dflt = (td : Int)) (hhi : hi = low + (ts.length : Int) - 1) (hk : TW X lo st nc ns ts ks) (hkd : WM X td lo st nc ns kd) : WM X pc lo (.int x :: st) nc ns (swt x.toInt low ks kd) := by
  obtain ⟨hlen, hget⟩ := hk.get
  by_cases h1 : x.toInt < low
  · have e1 : swt x.toInt low ks kd = kd := by unfold swt; rw [if_pos h1]
    rw [e1]
    obtain ⟨p, l, e, R, s, m, args, below, meth, c, d, b, base, z, Q, r0, h0⟩ := X
    intro h hk H locs ls hH hS hl
    exact lv_tableOut hX.1 hX.2.1 hd (Or.inl h1) hdf (hkd h hk H locs ls hH hS hl)
  · cases hg : ks[(x.toInt - low).toNat]? with
    | none =>
      have e1 : swt x.toInt low ks kd = kd := by unfold swt; rw [if_neg h1, hg]; rfl
      rw [e1]
      have hge : ks.length ≤ (x.toInt - low).toNat := by simpa using hg
      obtain ⟨p, l, e, R, s, m, args, below, meth, c, d, b, base, z, Q, r0, h0⟩ := X
      intro h hk H locs ls hH hS hl
      exact lv_tableOut hX.1 hX.2.1 hd (Or.inr (by omega)) hdf (hkd h hk H locs ls hH hS hl)
    | some k' =>
      have e1 : swt x.toInt low ks kd = k' := by unfold swt; rw [if_neg h1, hg]; rfl
      rw [e1]
      obtain ⟨t, ht, hwm⟩ := hget _ _ hg
      have hlt : (x.toInt - low).toNat < ks.length := (List.getElem?_eq_some_iff.mp hg).1
      have hoff : ∃ off, offs[(x.toInt - low).toNat]? = some off ∧ (pc : Int) + off = (t : Int) := by
        have h5 : (offs.toList.map (fun o => (pc : Int) + o))[(x.toInt - low).toNat]? = some (t : Int) := by
          rw [ho, List.getElem?_map, ht]; rfl
        rw [List.getElem?_map] at h5
        cases hq : offs.toList[(x.toInt - low).toNat]? with
        | none => rw [hq] at h5; cases h5
        | some off =>
          rw [hq] at h5
          exact ⟨off, by rw [← Array.getElem?_toList]; exact hq, Option.some.inj h5⟩
      obtain ⟨off, h6, h7⟩ := hoff
      obtain ⟨p, l, e, R, s, m, args, below, meth, c, d, b, base, z, Q, r0, h0⟩ := X
      intro h hk H locs ls hH hS hl
      exact lv_tableIn hX.1 hX.2.1 hd h1 (by omega) h6 h7 (hwm h hk H locs ls hH hS hl)
/-- the script is at hand -/
def Lx (X : CX α) (L : Nat) (xs : Nat → Int32) : Prop := match X with
  | (p, l, e, R, s, m, args, below, meth, c, d, b, base, z, Q, r0, h0) => va_X b L xs s s.heap ∧ b < base
theorem wm_sld {L : Nat} {xs : Nat → Int32} {i : Int32} {k : Int32 → M α} (hX : Cx X own cc nL rm) (hx : Lx X L xs) (hd : decode cc pc = .ok (.iaload, 1)) (kk : ∀ v : Int32, WM X (pc + 1) lo (.int v :: st) nc ns (k v)) : WM X pc lo (.int i :: .ref 0 :: st) nc ns (bd (sld L xs i) k) := by
  obtain ⟨p, l, e, R, s, m, args, below, meth, c, d, b, base, z, Q, r0, h0⟩ := X
  intro h hk H locs ls hH hS hl
  obtain ⟨r, h1, e1, e2⟩ := bd_some hk
  obtain ⟨x1, x2, x3, x4, x5, x6, x7, x8⟩ := id hX
  unfold sld at e1
  split at e1
  · cases e1
  · next hv => cases e1; exact va_sld x1 x2 hx.1 (Nat.lt_of_lt_of_le hx.2 x8) (Nat.not_le.mpr hx.2) hS hv hd (kk _ h e2 H locs ls hH hS hl)
theorem wm_slen {L : Nat} {xs : Nat → Int32} {k : M α} (hX : Cx X own cc nL rm) (hx : Lx X L xs) (hd : decode cc pc = .ok (.arraylength, 1)) (kk : WM X (pc + 1) lo (.int (Int32.ofNat L) :: st) nc ns k) : WM X pc lo (.ref 0 :: st) nc ns k := by
  obtain ⟨p, l, e, R, s, m, args, below, meth, c, d, b, base, z, Q, r0, h0⟩ := X
  intro h hk H locs ls hH hS hl
  obtain ⟨x1, x2, x3, x4, x5, x6, x7, x8⟩ := id hX
  exact va_slen x1 x2 hx.1 (Nat.lt_of_lt_of_le hx.2 x8) (Nat.not_le.mpr hx.2) hS hd (kk h hk H locs ls hH hS hl)
end RowsD
