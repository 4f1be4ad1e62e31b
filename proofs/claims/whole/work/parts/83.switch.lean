/-! One picture of the heap for another that says the same of it. -/
def EqE (e e' : AE) : Prop := e = e' ∨ (∃ ci f f', e = .inr (ci, f) ∧ e' = .inr (ci, f') ∧ ∀ j, j < nF ci → f j = f' j) ∨ ∃ t n f f', e = .inl (t, n, .inr (.inr (.inr (.inr f)))) ∧ e' = .inl (t, n, .inr (.inr (.inr (.inr f')))) ∧ ∀ j, j < n → f j = f' j
def EqH (h h' : AH) : Prop := h.1 = h'.1 ∧ ∀ k, k < h.1 → EqE (h.2 (k + 1)) (h'.2 (k + 1))
theorem arrV_eq {cI : ClassId} {N : Nat} {f g : Nat → Value} (h : ∀ j, j < N → f j = g j) : arrV cI N f = arrV cI N g := by
  unfold arrV
  have : (fun j : Fin N => f j.val) = fun j : Fin N => g j.val := by
    funext j
    exact h j.val j.isLt
  rw [this]
theorem EqE.at {e e' : AE} (h : EqE e e') {d : AD} {b base q : Nat} {H : Heap} (hP : va_at (d.1, d.2.1) vwCl (q, se d b base e) H) : va_at (d.1, d.2.1) vwCl (q, se d b base e') H := by
  rcases h with rfl | ⟨ci, f, f', rfl, rfl, hf⟩ | ⟨t, n, f, f', rfl, rfl, hf⟩
  · exact hP
  · have : se d b base (.inr (ci, f)) = se d b base (.inr (ci, f')) := by
      show (Sum.inr (ci, (List.range (nF ci)).map (fun k => sv b base (f k))) : va_E) = .inr (ci, (List.range (nF ci)).map (fun k => sv b base (f' k)))
      have e : (List.range (nF ci)).map (fun k => sv b base (f k)) = (List.range (nF ci)).map (fun k => sv b base (f' k)) := by
        refine List.map_congr_left (fun k hk => ?_)
        rw [hf k (List.mem_range.mp hk)]
      rw [e]
    rw [← this]
    exact hP
  · have e : H[q]? = some (vp_cell (d.2.2 t) (sA b base (n, .inr (.inr (.inr (.inr f)))))) := hP
    show H[q]? = some (vp_cell (d.2.2 t) (sA b base (n, .inr (.inr (.inr (.inr f'))))))
    rw [e]
    congr 1
    show arrV (d.2.2 t) n (fun j => va_rf ((f j).map (sa b base))) = arrV (d.2.2 t) n (fun j => va_rf ((f' j).map (sa b base)))
    exact arrV_eq (fun j hj => by rw [hf j hj])
theorem EqH.hr {h h' : AH} (g : EqH h h') {z : Bool} {d : AD} {b base : Nat} {H : Heap} (hH : HR z d b base h H) : HR false d b base h' H := by
  refine ⟨fun q => (by cases q), fun k q hk => ?_⟩
  obtain ⟨k1, rfl⟩ := tw_inv hk
  have kl : k < h.1 := by rw [g.1]; exact k1
  exact (g.2 k kl).at (hH.2 k _ (tw_get kl))
def zf {α : Type} (X : CX α) : CX α := match X with
  | (p, l, e, R, s, m, args, below, meth, c, d, b, base, _, Q, r0, h0) => (p, l, e, R, s, m, args, below, meth, c, d, b, base, false, Q, r0, h0)
noncomputable def swp {α : Type} (g : AH) (k : M α) : M α := fun h => @ite _ (EqH h g) (Classical.propDecidable _) (k g) none
theorem swp_eq {α : Type} {g h : AH} {k : M α} (e : EqH h g) : swp g k h = k g := by
  unfold swp
  rw [if_pos e]
theorem wm_swp {α : Type} {X : CX α} {pc : Nat} {lo : List (Nat × Value)} {st : List Value} {nc ns : Nat} {k : M α} {g : AH} (w : WM (zf X) pc lo st nc ns k) : WM X pc lo st nc ns (swp g k) := by
  obtain ⟨p, l, e, R, s, m, args, below, meth, c, d, b, base, z, Q, r0, h0⟩ := X
  intro h hk H locs ls hH hS hl
  unfold swp at hk
  split at hk
  · next q => exact w g hk H locs ls (q.hr hH) hS hl
  · cases hk
theorem Cx.zf {α : Type} {X : CX α} {own : String} {cc : ByteArray} {nL : Nat} {rm : Room} (h : Cx X own cc nL rm) : Cx (zf X) own cc nL rm := by
  obtain ⟨p, l, e, R, s, m, args, below, meth, c, d, b, base, z, Q, r0, h0⟩ := X
  exact h
theorem Lx.zf {α : Type} {X : CX α} {L : Nat} {xs : Nat → Int32} (h : Lx X L xs) : Lx (zf X) L xs := by
  obtain ⟨p, l, e, R, s, m, args, below, meth, c, d, b, base, z, Q, r0, h0⟩ := X
  exact h
theorem Zx.zf {α : Type} {X : CX α} : Zx (zf X) false := by
  obtain ⟨p, l, e, R, s, m, args, below, meth, c, d, b, base, z, Q, r0, h0⟩ := X
  exact rfl
/-! What the tables say of the classes, as the rows want it. -/
theorem arr_p {s : State} {args : Array Value} {ty : FieldType} (hty : ∀ C, ty ≠ .object C) (h : (Cond.arrayClass ty).before args s = true) : ∃ cA, ArrOfT s cA ty ∧ va_RA s cA ty := by
  obtain ⟨cA, kA, comp, h1, h2, h3⟩ := Cond.arrayClass_spec h
  refine ⟨cA, fun N z => ⟨fun k h => (by cases h), kA, h2, comp, h3⟩, ?_⟩
  cases ty with
  | object C => exact absurd rfl (hty C)
  | _ => exact h1
theorem arr_o {s : State} {C : String} (h : va_AO C s) : ∃ cA, ArrOfT s cA (.object C) ∧ va_RA s cA (.object C) := by
  obtain ⟨comp, cA, kA, h1, h2, h3, h4, h5⟩ := Cond.arrayOver_spec h
  exact ⟨cA, fun N z => ⟨fun k h => (by cases h), kA, h3, comp, h4⟩, kA, comp, h3, h4, h1, h5⟩
theorem known {s : State} {args : Array Value} (hts : ∀ w ∈ lw_tbl, w.before args s = true) : ∃ d : AD, KX d s := by
  have hg : ∀ w ∈ lw_g, w.before args s = true := fun w hw => hts w (List.mem_filter.mp hw).1
  have kn : ∀ c : Nat, ∃ (cC : ClassId) (iS : Nat → Nat), ∀ q : vw_C, vwCl[c]? = some q → u_Kn s q.1 q.2.1 q.2.2 cC iS := by
    intro c
    match c with
    | 0 => obtain ⟨cC, iS, h⟩ := u_known hg in_X0 (hg _ wd_189); exact ⟨cC, iS, fun q hq => by cases hq; exact h⟩
    | 1 => obtain ⟨cC, iS, h⟩ := u_known hg in_X1 (hg _ wd_144); exact ⟨cC, iS, fun q hq => by cases hq; exact h⟩
    | 2 => obtain ⟨cC, iS, h⟩ := u_known hg in_X2 (hg _ wd_217); exact ⟨cC, iS, fun q hq => by cases hq; exact h⟩
    | 3 => obtain ⟨cC, iS, h⟩ := u_known hg in_X3 (hg _ wd_67); exact ⟨cC, iS, fun q hq => by cases hq; exact h⟩
    | 4 => obtain ⟨cC, iS, h⟩ := u_known hg in_X4 (hg _ wd_163); exact ⟨cC, iS, fun q hq => by cases hq; exact h⟩
    | 5 => obtain ⟨cC, iS, h⟩ := u_known hg in_X5 (hg _ wd_91); exact ⟨cC, iS, fun q hq => by cases hq; exact h⟩
    | 6 => obtain ⟨cC, iS, h⟩ := u_known hg in_X6 (hg _ wd_251); exact ⟨cC, iS, fun q hq => by cases hq; exact h⟩
    | 7 => obtain ⟨cC, iS, h⟩ := u_known hg in_X7 (hg _ wd_244); exact ⟨cC, iS, fun q hq => by cases hq; exact h⟩
    | 8 => obtain ⟨cC, iS, h⟩ := u_known hg in_X8 (hg _ wd_58); exact ⟨cC, iS, fun q hq => by cases hq; exact h⟩
    | 9 => obtain ⟨cC, iS, h⟩ := u_known hg in_X9 (hg _ wd_760); exact ⟨cC, iS, fun q hq => by cases hq; exact h⟩
    | c + 10 => exact ⟨0, fun _ => 0, fun q hq => (by cases hq)⟩
  have hR : va_AO "OneBitLoop$Reel" s := va_AO.of (hts (.arrayOver (.object "OneBitLoop$Reel")) (by decide +kernel))
  have hT : va_AO "OneBitLoop$Twin" s := va_AO.of (hts (.arrayOver (.object "OneBitLoop$Twin")) (by decide +kernel))
  obtain ⟨a0, i0⟩ := arr_p (s := s) (ty := .int) (fun C h => (by cases h)) (hts (.arrayClass .int) (by decide +kernel))
  obtain ⟨a1, i1⟩ := arr_p (s := s) (ty := .long) (fun C h => (by cases h)) (hts (.arrayClass .long) (by decide +kernel))
  obtain ⟨a2, i2⟩ := arr_p (s := s) (ty := .boolean) (fun C h => (by cases h)) (hts (.arrayClass .boolean) (by decide +kernel))
  obtain ⟨a3, i3⟩ := arr_o hR
  obtain ⟨a4, i4⟩ := arr_o hT
  refine ⟨(fun c => (kn c).choose, fun c => (kn c).choose_spec.choose, fun t => if t = 0 then a0 else if t = 1 then a1 else if t = 2 then a2 else if t = 3 then a3 else a4), ⟨fun c q hq => (kn c).choose_spec.choose_spec q hq, fun k q hk => ?_⟩, hR, hT, fun q hq => ?_⟩
  · match k, hk with
    | 0, hk => cases hk; exact i0
    | 1, hk => cases hk; exact i1
    | 2, hk => cases hk; exact i2
    | 3, hk => cases hk; exact i3
    | 4, hk => cases hk; exact i4
    | k + 5, hk => cases hk
  · have : ∀ q ∈ nestW, Cond.methodLinkNest q.1 q.2.1 q.2.2.1 q.2.2.2 ∈ lw_tbl := by decide +kernel
    exact va_Nw.of rfl (hts _ (this q hq))
