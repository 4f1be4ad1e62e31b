/-! Programs over the picture, and a row for each instruction. -/
def bd {α β : Type} (f : M α) (k : α → M β) : M β := fun h => match f h with
  | none => none
  | some x => k x.1 x.2
def rt {α : Type} (a : α) : M α := fun h => some (a, h)
def rz (v : Int32) : M Int32 := fun h => if v = 0 ∨ v = 1 then some (v, h) else none
def fl {α : Type} : M α := fun _ => none
def lt_ {α β : Type} (a : α) (k : α → M β) : M β := k a
def ckd {α : Type} (ci o : Nat) (f : M α) : M α := fun h => match lk h o with
  | some (.inr (c, _)) => if c = ci then f h else none
  | _ => none
def gI (ci o k : Nat) : M Int32 := fun h => match lk h o with
  | some (.inr (c, f)) => if c = ci then (match f k with
    | .int v => some (v, h)
    | _ => none) else none
  | _ => none
def gL (ci o k : Nat) : M Int64 := fun h => match lk h o with
  | some (.inr (c, f)) => if c = ci then (match f k with
    | .long v => some (v, h)
    | _ => none) else none
  | _ => none
def gR (ci o k : Nat) : M Nat := fun h => match lk h o with
  | some (.inr (c, f)) => if c = ci then (match f k with
    | .ref v => some (v, h)
    | _ => none) else none
  | _ => none
def pV (ci o k : Nat) (v : Value) : M Unit := fun h => match lk h o with
  | some (.inr (c, f)) => if c = ci then some ((), (h.1, va_up h.2 o (.inr (ci, va_up f k v)))) else none
  | _ => none
def pI (ci o k : Nat) (v : Int32) : M Unit := pV ci o k (.int v)
def pL (ci o k : Nat) (v : Int64) : M Unit := pV ci o k (.long v)
def pR (ci o k : Nat) (v : Nat) : M Unit := pV ci o k (.ref v)
def pZ (ci o k : Nat) (v : Int32) : M Unit := fun h => if v = 0 ∨ v = 1 then pV ci o k (.int v) h else none
def ldT (t : Nat) (o : Nat) (i : Int32) : M Int32 := fun h => match lk h o with
  | some (.inl (t', n, .inl f)) => if t' = t ∧ ¬ (i < 0 ∨ n ≤ i.toNatClampNeg) then some (f i.toNatClampNeg, h) else none
  | _ => none
def ldI (o : Nat) (i : Int32) : M Int32 := ldT 0 o i
def ldZ (o : Nat) (i : Int32) : M Int32 := ldT 2 o i
def ldL (o : Nat) (i : Int32) : M Int64 := fun h => match lk h o with
  | some (.inl (t', n, .inr (.inl f))) => if t' = 1 ∧ ¬ (i < 0 ∨ n ≤ i.toNatClampNeg) then some (f i.toNatClampNeg, h) else none
  | _ => none
def ldR (t : Nat) (o : Nat) (i : Int32) : M Nat := fun h => match lk h o with
  | some (.inl (t', n, .inr (.inr (.inr (.inr f))))) => if t' = t ∧ ¬ (i < 0 ∨ n ≤ i.toNatClampNeg) then (match f i.toNatClampNeg with
    | some q => some (q, h)
    | none => none) else none
  | _ => none
def stI (o : Nat) (i : Int32) (v : Int32) : M Unit := fun h => match lk h o with
  | some (.inl (t', n, .inl f)) => if t' = 0 ∧ ¬ (i < 0 ∨ n ≤ i.toNatClampNeg) then some ((), (h.1, va_up h.2 o (.inl (0, n, .inl (va_up f i.toNatClampNeg v))))) else none
  | _ => none
def stZ (o : Nat) (i : Int32) (v : Int32) : M Unit := fun h => match lk h o with
  | some (.inl (t', n, .inl f)) => if t' = 2 ∧ ¬ (i < 0 ∨ n ≤ i.toNatClampNeg) ∧ (v = 0 ∨ v = 1) then some ((), (h.1, va_up h.2 o (.inl (2, n, .inl (va_up f i.toNatClampNeg v))))) else none
  | _ => none
def stL (o : Nat) (i : Int32) (v : Int64) : M Unit := fun h => match lk h o with
  | some (.inl (t', n, .inr (.inl f))) => if t' = 1 ∧ ¬ (i < 0 ∨ n ≤ i.toNatClampNeg) then some ((), (h.1, va_up h.2 o (.inl (1, n, .inr (.inl (va_up f i.toNatClampNeg v)))))) else none
  | _ => none
/-- a cell of kind ci is put into an array of kind t (3: Reels, of kind 3; 4: Twins, of kind 6) -/
def stR (t ci : Nat) (o : Nat) (i : Int32) (v : Nat) : M Unit := fun h => match lk h o with
  | some (.inl (t', n, .inr (.inr (.inr (.inr f))))) => match lk h v with
    | some (.inr (c, _)) => if t' = t ∧ c = ci ∧ ¬ (i < 0 ∨ n ≤ i.toNatClampNeg) then some ((), (h.1, va_up h.2 o (.inl (t, n, .inr (.inr (.inr (.inr (va_up f i.toNatClampNeg (some v)))))))) ) else none
    | _ => none
  | _ => none
def alen (t o : Nat) : M Int32 := fun h => match lk h o with
  | some (.inl (t', n, _)) => if t' = t then some (Int32.ofNat n, h) else none
  | _ => none
def nw (e : AE) : M Nat := fun h => some (h.1 + 1, (h.1 + 1, va_up h.2 (h.1 + 1) e))
def acp (o : Nat) (i : Int32) (q : Nat) (j n : Int32) : M Unit := fun h => match lk h o with
  | some (.inl (t0, n0, .inr (.inl f))) => match lk h q with
    | some (.inl (t1, n1, .inr (.inl g))) => if t0 = 1 ∧ t1 = 1 ∧ ¬ i < 0 ∧ ¬ j < 0 ∧ ¬ n < 0 ∧ i.toNatClampNeg + n.toNatClampNeg ≤ n0 ∧ j.toNatClampNeg + n.toNatClampNeg ≤ n1 then
        some ((), (h.1, va_up h.2 q (.inl (1, n1, .inr (.inl (va_cpy f g i.toNatClampNeg j.toNatClampNeg n.toNatClampNeg)))))) else none
    | _ => none
  | _ => none
def ibf (b : Int32) : M UInt32 := fun h => if vn_sni2f b = false then some (b.toUInt32, h) else none
def lbd (b : Int64) : M UInt64 := fun h => if vn_snl2d b = false then some (b.toUInt64, h) else none
def ldv (x y : Int64) : M Int64 := fun h => if y = 0 then none else some (x / y, h)
def lrm (x y : Int64) : M Int64 := fun h => if y = 0 then none else some (x - x / y * y, h)
def sld (L : Nat) (xs : Nat → Int32) (i : Int32) : M Int32 := fun h => if i < 0 ∨ L ≤ i.toNatClampNeg then none else some (xs i.toNatClampNeg, h)
/-- a switch: the programs of low, low + 1 .., else the last -/
def swt {α : Type} (x : Int) (low : Int) (ks : List (M α)) (kd : M α) : M α := if x < low then kd else (ks[(x - low).toNat]?).getD kd
theorem bd_some {α β : Type} {f : M α} {k : α → M β} {h : AH} {z : β × AH} (q : bd f k h = some z) : ∃ a h', f h = some (a, h') ∧ k a h' = some z := by
  unfold bd at q
  cases hf : f h with
  | none => rw [hf] at q; cases q
  | some x => rw [hf] at q; exact ⟨x.1, x.2, rfl, q⟩
theorem bd_eq {α β : Type} {f : M α} {k : α → M β} {h h' : AH} {a : α} (q : f h = some (a, h')) : bd f k h = k a h' := by
  unfold bd; rw [q]
theorem ckd_some {α : Type} {ci o : Nat} {f : M α} {h : AH} {z : α × AH} (q : ckd ci o f h = some z) : (∃ F, lk h o = some (.inr (ci, F))) ∧ f h = some z := by
  unfold ckd at q
  split at q
  · next c F hl =>
    split at q
    · next hc => subst hc; exact ⟨⟨F, hl⟩, q⟩
    · cases q
  · cases q
theorem gI_some {ci o k : Nat} {h : AH} {z : Int32 × AH} (q : gI ci o k h = some z) : ∃ F, lk h o = some (.inr (ci, F)) ∧ F k = .int z.1 ∧ z.2 = h := by
  unfold gI at q
  split at q
  · next c F hl =>
    split at q
    · next hc =>
      subst hc
      split at q
      · next v hv => cases q; exact ⟨F, hl, hv, rfl⟩
      · cases q
    · cases q
  · cases q
theorem gL_some {ci o k : Nat} {h : AH} {z : Int64 × AH} (q : gL ci o k h = some z) : ∃ F, lk h o = some (.inr (ci, F)) ∧ F k = .long z.1 ∧ z.2 = h := by
  unfold gL at q
  split at q
  · next c F hl =>
    split at q
    · next hc =>
      subst hc
      split at q
      · next v hv => cases q; exact ⟨F, hl, hv, rfl⟩
      · cases q
    · cases q
  · cases q
theorem gR_some {ci o k : Nat} {h : AH} {z : Nat × AH} (q : gR ci o k h = some z) : ∃ F, lk h o = some (.inr (ci, F)) ∧ F k = .ref z.1 ∧ z.2 = h := by
  unfold gR at q
  split at q
  · next c F hl =>
    split at q
    · next hc =>
      subst hc
      split at q
      · next v hv => cases q; exact ⟨F, hl, hv, rfl⟩
      · cases q
    · cases q
  · cases q
theorem pV_some {ci o k : Nat} {v : Value} {h : AH} {z : Unit × AH} (q : pV ci o k v h = some z) : ∃ F, lk h o = some (.inr (ci, F)) ∧ z.2 = (h.1, va_up h.2 o (.inr (ci, va_up F k v))) := by
  unfold pV at q
  split at q
  · next c F hl =>
    split at q
    · next hc => subst hc; cases q; exact ⟨F, hl, rfl⟩
    · cases q
  · cases q
theorem ldT_some {t o : Nat} {i : Int32} {h : AH} {z : Int32 × AH} (q : ldT t o i h = some z) : ∃ n f, lk h o = some (.inl (t, n, .inl f)) ∧ vp_in i n ∧ z = (f i.toNatClampNeg, h) := by
  unfold ldT at q
  split at q
  · next t' n f hl =>
    split at q
    · next hc => obtain ⟨rfl, hc⟩ := hc; cases q; exact ⟨n, f, hl, hc, rfl⟩
    · cases q
  · cases q
theorem ldL_some {o : Nat} {i : Int32} {h : AH} {z : Int64 × AH} (q : ldL o i h = some z) : ∃ n f, lk h o = some (.inl (1, n, .inr (.inl f))) ∧ vp_in i n ∧ z = (f i.toNatClampNeg, h) := by
  unfold ldL at q
  split at q
  · next t' n f hl =>
    split at q
    · next hc => obtain ⟨rfl, hc⟩ := hc; cases q; exact ⟨n, f, hl, hc, rfl⟩
    · cases q
  · cases q
theorem ldR_some {t o : Nat} {i : Int32} {h : AH} {z : Nat × AH} (q : ldR t o i h = some z) : ∃ n f, lk h o = some (.inl (t, n, .inr (.inr (.inr (.inr f))))) ∧ vp_in i n ∧ f i.toNatClampNeg = some z.1 ∧ z.2 = h := by
  unfold ldR at q
  split at q
  · next t' n f hl =>
    split at q
    · next hc =>
      obtain ⟨rfl, hc⟩ := hc
      split at q
      · next v hv => cases q; exact ⟨n, f, hl, hc, hv, rfl⟩
      · cases q
    · cases q
  · cases q
theorem stI_some {o : Nat} {i v : Int32} {h : AH} {z : Unit × AH} (q : stI o i v h = some z) : ∃ n f, lk h o = some (.inl (0, n, .inl f)) ∧ vp_in i n ∧ z.2 = (h.1, va_up h.2 o (.inl (0, n, .inl (va_up f i.toNatClampNeg v)))) := by
  unfold stI at q
  split at q
  · next t' n f hl =>
    split at q
    · next hc => obtain ⟨rfl, hc⟩ := hc; cases q; exact ⟨n, f, hl, hc, rfl⟩
    · cases q
  · cases q
theorem stZ_some {o : Nat} {i v : Int32} {h : AH} {z : Unit × AH} (q : stZ o i v h = some z) : ∃ n f, lk h o = some (.inl (2, n, .inl f)) ∧ vp_in i n ∧ (v = 0 ∨ v = 1) ∧ z.2 = (h.1, va_up h.2 o (.inl (2, n, .inl (va_up f i.toNatClampNeg v)))) := by
  unfold stZ at q
  split at q
  · next t' n f hl =>
    split at q
    · next hc => obtain ⟨rfl, hc, hv⟩ := hc; cases q; exact ⟨n, f, hl, hc, hv, rfl⟩
    · cases q
  · cases q
theorem stL_some {o : Nat} {i : Int32} {v : Int64} {h : AH} {z : Unit × AH} (q : stL o i v h = some z) : ∃ n f, lk h o = some (.inl (1, n, .inr (.inl f))) ∧ vp_in i n ∧ z.2 = (h.1, va_up h.2 o (.inl (1, n, .inr (.inl (va_up f i.toNatClampNeg v))))) := by
  unfold stL at q
  split at q
  · next t' n f hl =>
    split at q
    · next hc => obtain ⟨rfl, hc⟩ := hc; cases q; exact ⟨n, f, hl, hc, rfl⟩
    · cases q
  · cases q
theorem stR_some {t ci o v : Nat} {i : Int32} {h : AH} {z : Unit × AH} (q : stR t ci o i v h = some z) : ∃ n f F, lk h o = some (.inl (t, n, .inr (.inr (.inr (.inr f))))) ∧ lk h v = some (.inr (ci, F)) ∧ vp_in i n ∧ z.2 = (h.1, va_up h.2 o (.inl (t, n, .inr (.inr (.inr (.inr (va_up f i.toNatClampNeg (some v)))))))) := by
  unfold stR at q
  split at q
  · next t' n f hl =>
    split at q
    · next c F hv =>
      split at q
      · next hc => obtain ⟨rfl, rfl, hc⟩ := hc; cases q; exact ⟨n, f, F, hl, hv, hc, rfl⟩
      · cases q
    · cases q
  · cases q
theorem alen_some {t o : Nat} {h : AH} {z : Int32 × AH} (q : alen t o h = some z) : ∃ a, lk h o = some (.inl (t, a)) ∧ z = (Int32.ofNat a.1, h) := by
  unfold alen at q
  split at q
  · next t' n x hl =>
    split at q
    · next hc => subst hc; cases q; exact ⟨(n, x), hl, rfl⟩
    · cases q
  · cases q
theorem acp_some {o q : Nat} {i j n : Int32} {h : AH} {z : Unit × AH} (w : acp o i q j n h = some z) : ∃ n0 f n1 g, lk h o = some (.inl (1, n0, .inr (.inl f))) ∧ lk h q = some (.inl (1, n1, .inr (.inl g))) ∧ ¬ i < 0 ∧ ¬ j < 0 ∧ ¬ n < 0 ∧ i.toNatClampNeg + n.toNatClampNeg ≤ n0 ∧ j.toNatClampNeg + n.toNatClampNeg ≤ n1 ∧
    z.2 = (h.1, va_up h.2 q (.inl (1, n1, .inr (.inl (va_cpy f g i.toNatClampNeg j.toNatClampNeg n.toNatClampNeg))))) := by
  unfold acp at w
  split at w
  · next t0 n0 f h0 =>
    split at w
    · next t1 n1 g h1 =>
      split at w
      · next hc => obtain ⟨rfl, rfl, hc⟩ := hc; cases w; exact ⟨n0, f, n1, g, h0, h1, hc.1, hc.2.1, hc.2.2.1, hc.2.2.2.1, hc.2.2.2.2, rfl⟩
      · cases w
    · cases w
  · cases w
