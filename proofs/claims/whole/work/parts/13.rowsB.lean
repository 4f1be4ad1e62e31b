/-! Rows that read and write cells. -/
theorem HR.set {z : Bool} {d : AD} {b base : Nat} {h : AH} {H H1 : Heap} {k : Nat} (hH : HR z d b base h H) (hk : k < h.1) (e : AE) (hz : H1.size = H.size) (oq : ∀ q, q ≠ base + k → H1[q]? = H[q]?) (ha : va_at (d.1, d.2.1) vwCl (base + k, se d b base e) H1) :
    HR z d b base (h.1, va_up h.2 (k + 1) e) H1 := by
  refine ⟨fun q => by rw [hz]; exact hH.1 q, ?_⟩
  rw [← tw_set hk]
  exact hH.2.set tw_D (tw_get hk) ha oq
theorem HR.push {z : Bool} {d : AD} {b base : Nat} {h : AH} {H H1 : Heap} (hH : HR z d b base h H) (hsz : H.size = base + h.1) (e : AE) (hz : H1.size = H.size + 1) (oq : ∀ q, q < H.size → H1[q]? = H[q]?) (ha : va_at (d.1, d.2.1) vwCl (base + h.1, se d b base e) H1) :
    HR z d b base (h.1 + 1, va_up h.2 (h.1 + 1) e) H1 := by
  refine ⟨fun q => by rw [hz, hsz]; rfl, ?_⟩
  rw [← tw_push]
  refine (hH.2.kept fun k x hx => oq x.1 ((hH.2 k x hx).lt)).app (fun k x hx => ?_)
  have hz : k < 1 := (List.getElem?_eq_some_iff.mp hx).1
  rw [show k = 0 by omega] at hx
  cases hx
  exact ha
theorem vp_V_range {N j : Nat} (g : Nat → Value) (hj : j < N) : vp_V ((List.range N).map g) j = g j := by
  simp [vp_V, hj]
def FL (own : String) (idx ci i : Nat) : Prop := ∃ (C : String) (T : u_T) (N : Nat), vwCl[ci]? = some (C, T, N) ∧ i < N ∧ (∀ w ∈ u_ws C T N, w ∈ lw_g) ∧ Cond.fieldLink own idx (T i).1 (T i).2.1 (T i).2.2.1 ∈ lw_g
/-- a kind's tables: names apart, types as told -/
def CF (ci : Nat) (C : String) (T : u_T) (N : Nat) : Prop := vwCl[ci]? = some (C, T, N) ∧ (∀ w ∈ u_ws C T N, w ∈ lw_g) ∧ (∃ ty0 : Nat → FieldType, ∀ k, k < N → parseFieldDescriptor (T k).2.2.1 = some (ty0 k)) ∧ ∀ a, a < N → ∀ b, b < N → a ≠ b → (T a).2.1 ≠ (T b).2.1
def FP (own : String) (idx ci i : Nat) (ty : FieldType) : Prop := ∃ (C : String) (T : u_T) (N : Nat), CF ci C T N ∧ i < N ∧ Cond.fieldLink own idx (T i).1 (T i).2.1 (T i).2.2.1 ∈ lw_g ∧ (T i).2.2.2 = false ∧ parseFieldDescriptor (T i).2.2.1 = some ty
def FF (own : String) (idx ci i : Nat) (ty : FieldType) : Prop := ∃ (C : String) (T : u_T) (N : Nat), CF ci C T N ∧ i < N ∧ Cond.fieldLink own idx (T i).1 (T i).2.1 (T i).2.2.1 ∈ lw_g ∧ (T i).2.2.2 = true ∧ (T i).1 = own ∧ parseFieldDescriptor (T i).2.2.1 = some ty
theorem nF_eq {ci : Nat} {C : String} {T : u_T} {N : Nat} (h : vwCl[ci]? = some (C, T, N)) : nF ci = N := by
  unfold nF
  rw [h]
section RowsB
variable {α : Type} {X : CX α} {own : String} {cc : ByteArray} {nL : Nat} {rm : Room} {pc : Nat} {lo : List (Nat × Value)} {st : List Value} {nc ns : Nat}
theorem wm_gI {ci o i idx : Nat} {k : Int32 → M α} (hX : Cx X own cc nL rm) (hf : FL own idx ci i) (hd : decode cc pc = .ok (.getfield idx, 3)) (kk : ∀ v : Int32, WM X (pc + 3) lo (.int v :: st) nc ns (k v)) : WM X pc lo (.ref o :: st) nc ns (bd (gI ci o i) k) := by
  obtain ⟨p, l, e, R, s, m, args, below, meth, c, d, b, base, z, Q, r0, h0⟩ := X
  intro h hk H locs ls hH hS hl
  obtain ⟨v, h1, e1, e2⟩ := bd_some hk
  obtain ⟨F, f1, f2, f3⟩ := gI_some e1
  dsimp only at f2 f3
  subst f3
  obtain ⟨j, rfl, hj, hc⟩ := lk_some f1
  obtain ⟨C, T, N, c1, c2, c3, c4⟩ := hf
  refine va_get (D := (d.1, d.2.1)) (v := .int v) hX.1 hX.2.1 (Ts := lw_g) hX.2.2.2.2.2.1 c3 hX.2.2.2.2.1 hX.2.2.2.2.2.2.1.1 hH.2 j (fs := (List.range (nF ci)).map (fun k => sv b base (F k))) (by rw [tw_get hj, hc]; rfl) c1 i c2 (hX.2.2.2.2.2.1 _ c4) (fun _ q => q) ?_ hd (kk v h1 e2 H locs ls hH hS hl)
  rw [nF_eq c1]
  simp [c2, f2, sv]
theorem wm_gL {ci o i idx : Nat} {k : Int64 → M α} (hX : Cx X own cc nL rm) (hf : FL own idx ci i) (hd : decode cc pc = .ok (.getfield idx, 3)) (kk : ∀ v : Int64, WM X (pc + 3) lo (.long v :: st) nc ns (k v)) : WM X pc lo (.ref o :: st) nc ns (bd (gL ci o i) k) := by
  obtain ⟨p, l, e, R, s, m, args, below, meth, c, d, b, base, z, Q, r0, h0⟩ := X
  intro h hk H locs ls hH hS hl
  obtain ⟨v, h1, e1, e2⟩ := bd_some hk
  obtain ⟨F, f1, f2, f3⟩ := gL_some e1
  dsimp only at f2 f3
  subst f3
  obtain ⟨j, rfl, hj, hc⟩ := lk_some f1
  obtain ⟨C, T, N, c1, c2, c3, c4⟩ := hf
  refine va_get (D := (d.1, d.2.1)) (v := .long v) hX.1 hX.2.1 (Ts := lw_g) hX.2.2.2.2.2.1 c3 hX.2.2.2.2.1 hX.2.2.2.2.2.2.1.1 hH.2 j (fs := (List.range (nF ci)).map (fun k => sv b base (F k))) (by rw [tw_get hj, hc]; rfl) c1 i c2 (hX.2.2.2.2.2.1 _ c4) (fun _ q => q) ?_ hd (kk v h1 e2 H locs ls hH hS hl)
  rw [nF_eq c1]
  simp [c2, f2, sv]
theorem wm_gR {ci o i idx : Nat} {k : Nat → M α} (hX : Cx X own cc nL rm) (hf : FL own idx ci i) (hd : decode cc pc = .ok (.getfield idx, 3)) (kk : ∀ v : Nat, WM X (pc + 3) lo (.ref v :: st) nc ns (k v)) : WM X pc lo (.ref o :: st) nc ns (bd (gR ci o i) k) := by
  obtain ⟨p, l, e, R, s, m, args, below, meth, c, d, b, base, z, Q, r0, h0⟩ := X
  intro h hk H locs ls hH hS hl
  obtain ⟨v, h1, e1, e2⟩ := bd_some hk
  obtain ⟨F, f1, f2, f3⟩ := gR_some e1
  dsimp only at f2 f3
  subst f3
  obtain ⟨j, rfl, hj, hc⟩ := lk_some f1
  obtain ⟨C, T, N, c1, c2, c3, c4⟩ := hf
  refine va_get (D := (d.1, d.2.1)) (v := .ref (sa b base v)) hX.1 hX.2.1 (Ts := lw_g) hX.2.2.2.2.2.1 c3 hX.2.2.2.2.1 hX.2.2.2.2.2.2.1.1 hH.2 j (fs := (List.range (nF ci)).map (fun k => sv b base (F k))) (by rw [tw_get hj, hc]; rfl) c1 i c2 (hX.2.2.2.2.2.1 _ c4) (fun _ q => q) ?_ hd (kk v h1 e2 H locs ls hH hS hl)
  rw [nF_eq c1]
  simp [c2, f2, sv]
theorem wm_pV {ci o i idx : Nat} {ty : FieldType} {v : Value} {k : Unit → M α} (hX : Cx X own cc nL rm) (hf : FP own idx ci i ty) (hv : ∀ b base, narrow ty (sv b base v) = sv b base v ∧ fits ty (sv b base v) = true) (hd : decode cc pc = .ok (.putfield idx, 3)) (kk : WM X (pc + 3) lo st nc ns (k ())) : WM X pc lo (v :: .ref o :: st) nc ns (bd (pV ci o i v) k) := by
  obtain ⟨p, l, e, R, s, m, args, below, meth, c, d, b, base, z, Q, r0, h0⟩ := X
  intro h hk H locs ls hH hS hl
  obtain ⟨⟨⟩, h1, e1, e2⟩ := bd_some hk
  obtain ⟨F, f1, f3⟩ := pV_some e1
  dsimp only at f3
  subst f3
  obtain ⟨j, rfl, hj, hc⟩ := lk_some f1
  obtain ⟨C, T, N, ⟨c1, c3, ⟨ty0, c5⟩, c6⟩, c2, c4, c7, c8⟩ := hf
  have hts := hX.2.2.2.2.2.1
  have hK := hX.2.2.2.2.2.2.1.1
  have hN := nF_eq c1
  have hap := va_apart (own := own) hts c3 ty0 c5 c6 hK c1
  obtain ⟨r, g1, cell, q1, q2, q3, q4⟩ := hH.2 j _ (show (tw d b base h)[j]? = some (base + j, .inr (ci, (List.range (nF ci)).map (fun k => sv b base (F k)))) by rw [tw_get hj, hc]; rfl)
  have hr : r = (C, T, N) := Option.some.inj (g1.symm.trans c1)
  subst hr
  obtain ⟨hSl, hfc, kC, hkC, hkind⟩ := hK.1 ci _ c1
  obtain ⟨cf, kf, fi, f, hi, hsl⟩ := hSl i c2
  have hlay := hts _ (c3 _ (u_in_lay c2))
  unfold u_lay at hlay
  rw [if_neg (by rw [c7]; decide)] at hlay
  refine W.putK hX.1 hX.2.1 (f := f) ⟨hX.2.2.2.2.1, hts _ c4, ⟨_, _, _, hi⟩, (u_facts hfc hkC (u_lays hts c3 c2) hi).1⟩ (by rw [q2]; exact u_store hfc hkC hkind hlay hi c8 (hv b base).1 (hv b base).2) q1 q3 (by rw [hsl]; exact k2_hasslot (q4 i c2)) rfl rfl hd (fun H' w1 w2 w3 => ?_)
  rw [hsl] at w1 ⊢
  refine kk _ e2 H' _ ls (hH.set hj _ w2 w3 ⟨_, c1, ?_⟩) (hS.put w2 w3 (Nat.le_add_right _ _)) hl
  refine t_OB.to (V := updV (vp_V ((List.range (nF ci)).map (fun k => sv b base (F k)))) i (sv b base v)) ⟨_, w1, q2, q3, t_set q4 hap c2 _⟩ (fun j' hj' => ?_)
  have hj2 : j' < N := hj'
  rw [vp_V_range _ (by rw [hN]; exact hj2)]
  by_cases hji : j' = i
  · subst hji
    simp [updV, va_up]
  · simp only [updV, va_up, if_neg hji]
    rw [vp_V_range _ (by rw [hN]; exact hj2)]
theorem wm_fV {ci o i idx : Nat} {ty : FieldType} {v : Value} {k : Unit → M α} (hX : Cx X own cc nL rm) (hnm : Nm X "<init>") (hf : FF own idx ci i ty) (hv : ∀ b base, narrow ty (sv b base v) = sv b base v ∧ fits ty (sv b base v) = true) (hd : decode cc pc = .ok (.putfield idx, 3)) (kk : WM X (pc + 3) lo st nc ns (k ())) : WM X pc lo (v :: .ref o :: st) nc ns (bd (pV ci o i v) k) := by
  obtain ⟨p, l, e, R, s, m, args, below, meth, c, d, b, base, z, Q, r0, h0⟩ := X
  intro h hk H locs ls hH hS hl
  obtain ⟨⟨⟩, h1, e1, e2⟩ := bd_some hk
  obtain ⟨F, f1, f3⟩ := pV_some e1
  dsimp only at f3
  subst f3
  obtain ⟨j, rfl, hj, hc⟩ := lk_some f1
  obtain ⟨C, T, N, ⟨c1, c3, ⟨ty0, c5⟩, c6⟩, c2, c4, c7, c9, c8⟩ := hf
  have hts := hX.2.2.2.2.2.1
  have hK := hX.2.2.2.2.2.2.1.1
  have hN := nF_eq c1
  have hap := va_apart (own := own) hts c3 ty0 c5 c6 hK c1
  obtain ⟨r, g1, cell, q1, q2, q3, q4⟩ := hH.2 j _ (show (tw d b base h)[j]? = some (base + j, .inr (ci, (List.range (nF ci)).map (fun k => sv b base (F k)))) by rw [tw_get hj, hc]; rfl)
  have hr : r = (C, T, N) := Option.some.inj (g1.symm.trans c1)
  subst hr
  obtain ⟨hSl, hfc, kC, hkC, hkind⟩ := hK.1 ci _ c1
  obtain ⟨cf, kf, fi, f, hi, hsl⟩ := hSl i c2
  have hlay := hts _ (c3 _ (u_in_lay c2))
  unfold u_lay at hlay
  rw [if_pos c7] at hlay
  have hcf : m.cls = cf := by
    obtain ⟨_, _, c', _, _, _, -, -, hf', -, -, -, hown2, -⟩ := Cond.laysFinal_spec hlay
    have e1 : c' = cf := by have := hi.symm.trans hf'; simp at this; exact this.1.symm
    rw [c9] at hown2
    rw [← e1]; exact Option.some.inj (hX.2.2.2.2.1.symm.trans hown2)
  refine W.putFinK hX.1 hX.2.1 hX.2.2.2.2.1 (hts _ c4) hi (u_facts hfc hkC (u_lays hts c3 c2) hi).1 hcf hnm (by rw [q2]; exact u_fits hfc hkC hkind (Or.inr hlay) hi c8 (hv b base).1 (hv b base).2) q1 q3 (by rw [hsl]; exact k2_hasslot (q4 i c2)) rfl rfl hd (fun H' w1 w2 w3 => ?_)
  rw [hsl] at w1 ⊢
  refine kk _ e2 H' _ ls (hH.set hj _ w2 w3 ⟨_, c1, ?_⟩) (hS.put w2 w3 (Nat.le_add_right _ _)) hl
  refine t_OB.to (V := updV (vp_V ((List.range (nF ci)).map (fun k => sv b base (F k)))) i (sv b base v)) ⟨_, w1, q2, q3, t_set q4 hap c2 _⟩ (fun j' hj' => ?_)
  have hj2 : j' < N := hj'
  rw [vp_V_range _ (by rw [hN]; exact hj2)]
  by_cases hji : j' = i
  · subst hji
    simp [updV, va_up]
  · simp only [updV, va_up, if_neg hji]
    rw [vp_V_range _ (by rw [hN]; exact hj2)]
theorem wm_pI {ci o i idx : Nat} {v : Int32} {k : Unit → M α} (hX : Cx X own cc nL rm) (hf : FP own idx ci i .int) (hd : decode cc pc = .ok (.putfield idx, 3)) (kk : WM X (pc + 3) lo st nc ns (k ())) : WM X pc lo (.int v :: .ref o :: st) nc ns (bd (pI ci o i v) k) := wm_pV hX hf (fun _ _ => ⟨rfl, rfl⟩) hd kk
theorem wm_pL {ci o i idx : Nat} {v : Int64} {k : Unit → M α} (hX : Cx X own cc nL rm) (hf : FP own idx ci i .long) (hd : decode cc pc = .ok (.putfield idx, 3)) (kk : WM X (pc + 3) lo st nc ns (k ())) : WM X pc lo (.long v :: .ref o :: st) nc ns (bd (pL ci o i v) k) := wm_pV hX hf (fun _ _ => ⟨rfl, rfl⟩) hd kk
theorem wm_pR {ci o i idx v : Nat} {C : String} {k : Unit → M α} (hX : Cx X own cc nL rm) (hf : FP own idx ci i (.object C)) (hd : decode cc pc = .ok (.putfield idx, 3)) (kk : WM X (pc + 3) lo st nc ns (k ())) : WM X pc lo (.ref v :: .ref o :: st) nc ns (bd (pR ci o i v) k) := wm_pV hX hf (fun _ _ => ⟨rfl, rfl⟩) hd kk
theorem wm_fR {ci o i idx v : Nat} {C : String} {k : Unit → M α} (hX : Cx X own cc nL rm) (hnm : Nm X "<init>") (hf : FF own idx ci i (.object C)) (hd : decode cc pc = .ok (.putfield idx, 3)) (kk : WM X (pc + 3) lo st nc ns (k ())) : WM X pc lo (.ref v :: .ref o :: st) nc ns (bd (pR ci o i v) k) := wm_fV hX hnm hf (fun _ _ => ⟨rfl, rfl⟩) hd kk
theorem wm_fA {ci o i idx v : Nat} {C : FieldType} {k : Unit → M α} (hX : Cx X own cc nL rm) (hnm : Nm X "<init>") (hf : FF own idx ci i (.array C)) (hd : decode cc pc = .ok (.putfield idx, 3)) (kk : WM X (pc + 3) lo st nc ns (k ())) : WM X pc lo (.ref v :: .ref o :: st) nc ns (bd (pR ci o i v) k) := wm_fV hX hnm hf (fun _ _ => ⟨rfl, rfl⟩) hd kk
theorem wm_pZ {ci o i idx : Nat} {v : Int32} {k : Unit → M α} (hX : Cx X own cc nL rm) (hf : FP own idx ci i .boolean) (hd : decode cc pc = .ok (.putfield idx, 3)) (kk : WM X (pc + 3) lo st nc ns (k ())) : WM X pc lo (.int v :: .ref o :: st) nc ns (bd (pZ ci o i v) k) := by
  by_cases hv : v = 0 ∨ v = 1
  · have e : bd (pZ ci o i v) k = bd (pV ci o i (.int v)) k := by
      funext h; simp [bd, pZ, hv]
    rw [e]
    refine wm_pV hX hf (fun _ _ => ?_) hd kk
    rcases hv with rfl | rfl
    · exact ⟨(by decide : narrow .boolean (.int 0) = .int 0), (by decide : fits .boolean (.int 0) = true)⟩
    · exact ⟨(by decide : narrow .boolean (.int 1) = .int 1), (by decide : fits .boolean (.int 1) = true)⟩
  · have e : bd (pZ ci o i v) k = fl := by
      funext h; simp [bd, pZ, hv, fl]
    rw [e]
    exact wm_fl
theorem wm_ldI {o : Nat} {i : Int32} {k : Int32 → M α} (hX : Cx X own cc nL rm) (hd : decode cc pc = .ok (.iaload, 1)) (kk : ∀ v : Int32, WM X (pc + 1) lo (.int v :: st) nc ns (k v)) : WM X pc lo (.int i :: .ref o :: st) nc ns (bd (ldI o i) k) := by
  obtain ⟨p, l, e, R, s, m, args, below, meth, c, d, b, base, z, Q, r0, h0⟩ := X
  intro h hk H locs ls hH hS hl
  obtain ⟨v, h1, e1, e2⟩ := bd_some hk
  obtain ⟨n, f, f1, f2, f3⟩ := ldT_some e1
  cases f3
  obtain ⟨j, rfl, hj, hc⟩ := lk_some f1
  exact va_iald hX.1 hX.2.1 hX.2.2.2.2.2.2.1.1 hH.2 j 0 (by rw [tw_get hj, hc]; rfl) rfl f2 hd (kk _ h e2 H locs ls hH hS hl)
theorem wm_ldZ {o : Nat} {i : Int32} {k : Int32 → M α} (hX : Cx X own cc nL rm) (hd : decode cc pc = .ok (.baload, 1)) (kk : ∀ v : Int32, WM X (pc + 1) lo (.int v :: st) nc ns (k v)) : WM X pc lo (.int i :: .ref o :: st) nc ns (bd (ldZ o i) k) := by
  obtain ⟨p, l, e, R, s, m, args, below, meth, c, d, b, base, z, Q, r0, h0⟩ := X
  intro h hk H locs ls hH hS hl
  obtain ⟨v, h1, e1, e2⟩ := bd_some hk
  obtain ⟨n, f, f1, f2, f3⟩ := ldT_some e1
  cases f3
  obtain ⟨j, rfl, hj, hc⟩ := lk_some f1
  exact va_zald hX.1 hX.2.1 hX.2.2.2.2.2.2.1.1 hH.2 j 2 (by rw [tw_get hj, hc]; rfl) rfl f2 hd (kk _ h e2 H locs ls hH hS hl)
theorem wm_ldL {o : Nat} {i : Int32} {k : Int64 → M α} (hX : Cx X own cc nL rm) (hd : decode cc pc = .ok (.laload, 1)) (kk : ∀ v : Int64, WM X (pc + 1) lo (.long v :: st) nc ns (k v)) : WM X pc lo (.int i :: .ref o :: st) nc ns (bd (ldL o i) k) := by
  obtain ⟨p, l, e, R, s, m, args, below, meth, c, d, b, base, z, Q, r0, h0⟩ := X
  intro h hk H locs ls hH hS hl
  obtain ⟨v, h1, e1, e2⟩ := bd_some hk
  obtain ⟨n, f, f1, f2, f3⟩ := ldL_some e1
  cases f3
  obtain ⟨j, rfl, hj, hc⟩ := lk_some f1
  exact va_lald hX.1 hX.2.1 hX.2.2.2.2.2.2.1.1 hH.2 j 1 (by rw [tw_get hj, hc]; rfl) rfl f2 hd (kk _ h e2 H locs ls hH hS hl)
theorem wm_ldR {t o : Nat} {i : Int32} {k : Nat → M α} (ht : t = 3 ∨ t = 4) (hX : Cx X own cc nL rm) (hd : decode cc pc = .ok (.aaload, 1)) (kk : ∀ v : Nat, WM X (pc + 1) lo (.ref v :: st) nc ns (k v)) : WM X pc lo (.int i :: .ref o :: st) nc ns (bd (ldR t o i) k) := by
  obtain ⟨p, l, e, R, s, m, args, below, meth, c, d, b, base, z, Q, r0, h0⟩ := X
  intro h hk H locs ls hH hS hl
  obtain ⟨v, h1, e1, e2⟩ := bd_some hk
  obtain ⟨n, f, f1, f2, f3, f4⟩ := ldR_some e1
  dsimp only at f3 f4
  subst f4
  obtain ⟨j, rfl, hj, hc⟩ := lk_some f1
  have kk' := kk v h1 e2 H locs ls hH hS hl
  have e5 : va_rf ((fun j => (f j).map (sa b base)) i.toNatClampNeg) = Value.ref (sa b base v) := by simp [f3, va_rf]
  rcases ht with rfl | rfl
  · refine va_aldq (C := "OneBitLoop$Reel") hX.1 hX.2.1 hX.2.2.2.2.2.2.1.1 hH.2 j 3 (f := fun j => (f j).map (sa b base)) (by rw [tw_get hj, hc]; rfl) rfl f2 hd ?_
    rw [e5]; exact kk'
  · refine va_aldq (C := "OneBitLoop$Twin") hX.1 hX.2.1 hX.2.2.2.2.2.2.1.1 hH.2 j 4 (f := fun j => (f j).map (sa b base)) (by rw [tw_get hj, hc]; rfl) rfl f2 hd ?_
    rw [e5]; exact kk'
theorem wm_alen {t o : Nat} {k : Int32 → M α} {ty : FieldType} (hty : ∀ d, (tys d)[t]? = some (d.2.2 t, ty)) (hX : Cx X own cc nL rm) (hd : decode cc pc = .ok (.arraylength, 1)) (kk : ∀ v : Int32, WM X (pc + 1) lo (.int v :: st) nc ns (k v)) : WM X pc lo (.ref o :: st) nc ns (bd (alen t o) k) := by
  obtain ⟨p, l, e, R, s, m, args, below, meth, c, d, b, base, z, Q, r0, h0⟩ := X
  intro h hk H locs ls hH hS hl
  obtain ⟨v, h1, e1, e2⟩ := bd_some hk
  obtain ⟨a, f1, f3⟩ := alen_some e1
  cases f3
  obtain ⟨j, rfl, hj, hc⟩ := lk_some f1
  exact va_alen (x := sA b base a) hX.1 hX.2.1 hX.2.2.2.2.2.2.1.1 hH.2 j t (by rw [tw_get hj, hc]; rfl) (hty d) rfl hd (kk _ h e2 H locs ls hH hS hl)
theorem wm_stI {o : Nat} {i v : Int32} {k : Unit → M α} (hX : Cx X own cc nL rm) (hd : decode cc pc = .ok (.iastore, 1)) (kk : WM X (pc + 1) lo st nc ns (k ())) : WM X pc lo (.int v :: .int i :: .ref o :: st) nc ns (bd (stI o i v) k) := by
  obtain ⟨p, l, e, R, s, m, args, below, meth, c, d, b, base, z, Q, r0, h0⟩ := X
  intro h hk H locs ls hH hS hl
  obtain ⟨⟨⟩, h1, e1, e2⟩ := bd_some hk
  obtain ⟨n, f, f1, f2, f3⟩ := stI_some e1
  dsimp only at f3
  subst f3
  obtain ⟨j, rfl, hj, hc⟩ := lk_some f1
  have hcell : H[base + j]? = some (arrV (d.2.2 0) n (fun q => .int (f q))) := hH.2 j _ (show (tw d b base h)[j]? = some (base + j, .inl (d.2.2 0, n, .inl f)) by rw [tw_get hj, hc]; rfl)
  refine W.iast hX.1 hX.2.1 hcell ((hX.2.2.2.2.2.2.1.1.2 0 _ rfl).1 n _) (fun q => by cases q) (by rw [arrV_size]; exact f2) rfl rfl hd (fun H' w1 w2 w3 => ?_)
  refine kk _ e2 H' _ ls (hH.set hj _ w2 w3 ?_) (hS.put w2 w3 (Nat.le_add_right _ _)) hl
  show H'[base + j]? = some (arrV (d.2.2 0) n (fun q => .int (va_up f i.toNatClampNeg v q)))
  rw [w1, arrV_store]
  congr 2
  funext q
  by_cases hq : q = i.toNatClampNeg <;> simp [updV, va_up, hq]
theorem wm_stL {o : Nat} {i : Int32} {v : Int64} {k : Unit → M α} (hX : Cx X own cc nL rm) (hd : decode cc pc = .ok (.lastore, 1)) (kk : WM X (pc + 1) lo st nc ns (k ())) : WM X pc lo (.long v :: .int i :: .ref o :: st) nc ns (bd (stL o i v) k) := by
  obtain ⟨p, l, e, R, s, m, args, below, meth, c, d, b, base, z, Q, r0, h0⟩ := X
  intro h hk H locs ls hH hS hl
  obtain ⟨⟨⟩, h1, e1, e2⟩ := bd_some hk
  obtain ⟨n, f, f1, f2, f3⟩ := stL_some e1
  dsimp only at f3
  subst f3
  obtain ⟨j, rfl, hj, hc⟩ := lk_some f1
  have hcell : H[base + j]? = some (arrV (d.2.2 1) n (fun q => .long (f q))) := hH.2 j _ (show (tw d b base h)[j]? = some (base + j, .inl (d.2.2 1, n, .inr (.inl f))) by rw [tw_get hj, hc]; rfl)
  refine W.last hX.1 hX.2.1 hcell ((hX.2.2.2.2.2.2.1.1.2 1 _ rfl).1 n _) (fun q => by cases q) (by rw [arrV_size]; exact f2) rfl rfl hd (fun H' w1 w2 w3 => ?_)
  refine kk _ e2 H' _ ls (hH.set hj _ w2 w3 ?_) (hS.put w2 w3 (Nat.le_add_right _ _)) hl
  show H'[base + j]? = some (arrV (d.2.2 1) n (fun q => .long (va_up f i.toNatClampNeg v q)))
  rw [w1, arrV_store]
  congr 2
  funext q
  by_cases hq : q = i.toNatClampNeg <;> simp [updV, va_up, hq]
theorem wm_stZ {o : Nat} {i v : Int32} {k : Unit → M α} (hX : Cx X own cc nL rm) (hd : decode cc pc = .ok (.bastore, 1)) (kk : WM X (pc + 1) lo st nc ns (k ())) : WM X pc lo (.int v :: .int i :: .ref o :: st) nc ns (bd (stZ o i v) k) := by
  obtain ⟨p, l, e, R, s, m, args, below, meth, c, d, b, base, z, Q, r0, h0⟩ := X
  intro h hk H locs ls hH hS hl
  obtain ⟨⟨⟩, h1, e1, e2⟩ := bd_some hk
  obtain ⟨n, f, f1, f2, f5, f3⟩ := stZ_some e1
  dsimp only at f3
  subst f3
  obtain ⟨j, rfl, hj, hc⟩ := lk_some f1
  have hcell : H[base + j]? = some (arrV (d.2.2 2) n (fun q => .int (f q))) := hH.2 j _ (show (tw d b base h)[j]? = some (base + j, .inl (d.2.2 2, n, .inl f)) by rw [tw_get hj, hc]; rfl)
  refine W.zast hX.1 hX.2.1 hcell ((hX.2.2.2.2.2.2.1.1.2 2 _ rfl).1 n _) (fun q => by cases q) (by rw [arrV_size]; exact f2) rfl rfl hd (fun H' w1 w2 w3 => ?_)
  refine kk _ e2 H' _ ls (hH.set hj _ w2 w3 ?_) (hS.put w2 w3 (Nat.le_add_right _ _)) hl
  show H'[base + j]? = some (arrV (d.2.2 2) n (fun q => .int (va_up f i.toNatClampNeg v q)))
  have hnar : narrow .boolean (.int v) = .int v := by rcases f5 with rfl | rfl <;> decide
  rw [w1, arrV_store, hnar]
  congr 2
  funext q
  by_cases hq : q = i.toNatClampNeg <;> simp [updV, va_up, hq]
theorem wm_stR {t ci o v : Nat} {i : Int32} {k : Unit → M α} (ht : (t = 3 ∧ ci = 3) ∨ (t = 4 ∧ ci = 6)) (hX : Cx X own cc nL rm) (hd : decode cc pc = .ok (.aastore, 1)) (kk : WM X (pc + 1) lo st nc ns (k ())) : WM X pc lo (.ref v :: .int i :: .ref o :: st) nc ns (bd (stR t ci o i v) k) := by
  obtain ⟨p, l, e, R, s, m, args, below, meth, c, d, b, base, z, Q, r0, h0⟩ := X
  intro h hk H locs ls hH hS hl
  obtain ⟨⟨⟩, h1, e1, e2⟩ := bd_some hk
  obtain ⟨n, f, F, f1, f4, f2, f3⟩ := stR_some e1
  dsimp only at f3
  subst f3
  obtain ⟨j, rfl, hj, hc⟩ := lk_some f1
  obtain ⟨j2, rfl, hj2, hc2⟩ := lk_some f4
  have hK := hX.2.2.2.2.2.2.1.1
  have hcell : H[base + j]? = some (arrV (d.2.2 t) n (fun q => va_rf ((f q).map (sa b base)))) := hH.2 j _ (show (tw d b base h)[j]? = some (base + j, .inl (d.2.2 t, n, .inr (.inr (.inr (.inr (fun q => (f q).map (sa b base))))))) by rw [tw_get hj, hc]; rfl)
  obtain ⟨r', hr', cellV, g1, g2, g3, -⟩ := hH.2 j2 _ (show (tw d b base h)[j2]? = some (base + j2, .inr (ci, (List.range (nF ci)).map (fun k => sv b base (F k)))) by rw [tw_get hj2, hc2]; rfl)
  have hk5 : ∃ (kA : Class) (C : String) (r : vw_C), s.vm.classes[d.2.2 t]? = some kA ∧ kA.kind = .array (d.1 ci) (.object C) ∧ vwCl[ci]? = some r := by
    rcases ht with ⟨rfl, rfl⟩ | ⟨rfl, rfl⟩
    · obtain ⟨kA, comp, k1, k2, k3, -⟩ := (hK.2 3 _ rfl).2
      have hcomp : comp = d.1 3 := Option.some.inj (k3.symm.trans (hK.1 3 (RX3, TX3, 4) rfl).2.1)
      subst hcomp
      exact ⟨kA, _, _, k1, k2, rfl⟩
    · obtain ⟨kA, comp, k1, k2, k3, -⟩ := (hK.2 4 _ rfl).2
      have hcomp : comp = d.1 6 := Option.some.inj (k3.symm.trans (hK.1 6 (RX6, TX6, 6) rfl).2.1)
      subst hcomp
      exact ⟨kA, _, _, k1, k2, rfl⟩
  obtain ⟨kA, C, r, k1, k2, hr⟩ := hk5
  have hcls := (hK.1 ci r hr).2
  obtain ⟨kC, hkC, -⟩ := id hcls.2
  have hlt : i.toNatClampNeg < n := Nat.not_le.mp fun q => f2 (Or.inr q)
  refine W.aast hX.1 hX.2.1 hcell (fun q h => by cases h) (fun h => by cases h) k1 k2 rfl hkC ⟨fun q => f2 (Or.inl q), by rw [arrV_size]; exact hlt⟩ g1 (fun q h => by rw [g3] at h; cases h) (by rw [g2]; exact hkC) (by rw [g2]; exact va_assign hcls) rfl rfl hd (fun H' w1 w2 w3 => ?_)
  refine kk _ e2 H' _ ls (hH.set hj _ w2 w3 ?_) (hS.put w2 w3 (Nat.le_add_right _ _)) hl
  show H'[base + j]? = some (arrV (d.2.2 t) n (fun q => va_rf ((va_up f i.toNatClampNeg (some (j2 + 1)) q).map (sa b base))))
  rw [w1, arrV_store]
  congr 2
  funext q
  by_cases hq : q = i.toNatClampNeg <;> simp [updV, va_up, hq, va_rf, sa]
end RowsB
