/-! Rows that make cells, call, and return. -/
def CalV (y : MethodName) (C : String) (cc : ByteArray) (nL : Nat) (ret : Option FieldType) (n : Nat) : Prop := (y.cls = C ∧ y.cls ≠ "java/lang/invoke/MethodHandle" ∧ y.cls ≠ "java/lang/invoke/VarHandle" ∧ (parseMethodDescriptor y.desc).map (fun d => d.parameters.length) = some n) ∧ Cond.instanceMethod y ∈ lw_g ∧ Cond.selects C y y ∈ lw_g ∧ Cond.initialized C ∈ lw_g ∧ Cond.code y cc nL ret ∈ lw_g
def CalS (y : MethodName) (cc : ByteArray) (nL : Nat) (ret : Option FieldType) (n : Nat) : Prop := (y.cls ≠ "java/lang/invoke/MethodHandle" ∧ y.cls ≠ "java/lang/invoke/VarHandle" ∧ (parseMethodDescriptor y.desc).map (fun d => d.parameters.length) = some n) ∧ Cond.static y ∈ lw_g ∧ Cond.initialized y.cls ∈ lw_g ∧ Cond.code y cc nL ret ∈ lw_g
def CalI (y : MethodName) (cc : ByteArray) (nL : Nat) (n : Nat) : Prop := (y.cls ≠ "java/lang/invoke/MethodHandle" ∧ y.cls ≠ "java/lang/invoke/VarHandle" ∧ (parseMethodDescriptor y.desc).map (fun d => d.parameters.length) = some n) ∧ y.name = "<init>" ∧ Cond.instanceMethod y ∈ lw_g ∧ Cond.initialized y.cls ∈ lw_g ∧ Cond.code y cc nL none ∈ lw_g
def Ckd {α : Type} (ci o : Nat) (f : M α) : Prop := ∀ h x, f h = some x → ∃ F, lk h o = some (.inr (ci, F))
theorem Ckd.of {α : Type} {ci o : Nat} {f : M α} : Ckd ci o (ckd ci o f) := fun _ _ q => (ckd_some q).1
theorem good_self {y : MethodName} {cc : ByteArray} {nL : Nat} {ret : Option FieldType} (h : Cond.code y cc nL ret ∈ lw_g) : GoodIn lw_g (Cond.code y cc nL ret :: lw_g) := by
  intro w hw
  rcases List.mem_cons.mp hw with rfl | hw
  · exact ⟨h, lw_g_good h⟩
  · exact ⟨hw, lw_g_good hw⟩
theorem cat_map (b base : Nat) (st : List Value) : (((st.map (sv b base)).map fun v => v.category)).sum = (st.map fun v => v.category).sum := by
  rw [List.map_map]
  congr 1
  apply List.map_congr_left
  intro v _
  exact sv_cat b base v
theorem call_go {p : Program} {l : Launch} {e : Env} {R : Room} {s : State} {m : MethodId} {args : Array Value} {below : List Frame} {meth : Method} {c : Code} {H : Heap} {locs : List Loc} {cells slots mc ms : Nat} {Q : State → Prop} {pc : Nat} {ls : Array Slot} {rest st0 : List Value} {a : Array Value} {z : Bool} {d : AD} {b base : Nat} {v : Option Value} {h' : AH}
    (hr : va_Run p l e R s m args below meth c H locs cells slots mc ms (F0 m pc ls st0) rest (Qf z d b base v h' a) (fun q => base ≤ q)) (hS : va_S (fun q => base ≤ q) s.heap H locs)
    (kk : ∀ (H1 : Heap) (locs1 : List Loc), HR z d b base h' H1 → va_S (fun q => base ≤ q) s.heap H1 locs1 → W p l e R s m args below meth c H1 locs1 (cells + mc) (slots + ms) Q (F0 m (pc + 3) ls (v.toList ++ rest))) : W p l e R s m args below meth c H locs cells slots Q (F0 m pc ls st0) := by
  intro T hT X
  obtain ⟨w, st₀, t, T', L, g0, X', hL, e1, e2, ⟨hv, hh, hz, hk⟩, st⟩ := hr T hT X
  cases hv
  rw [g0] at hz hk
  obtain ⟨t2, a1, b1⟩ := kk T'.heap (locs ++ L) (by rw [e1]; exact hh)
    ⟨Nat.le_trans hS.1 (by rw [e1]; exact hz), fun q h1 h2 => by rw [e1, hk q (Nat.lt_of_lt_of_le h1 hS.1) h2]; exact hS.2.1 q h1 h2, fun q hq => by
      rcases List.mem_append.mp hq with h | h
      · exact hS.2.2 q h
      · exact hL q h⟩ T' rfl X'
  exact ⟨t2, st t2 a1, b1⟩
theorem blind {z : Bool} {d : AD} {b base : Nat} {h : AH} {av : List Value} : FrameBlind (va_Pc av (fun U => HR z d b base h U.heap ∧ KX d U ∧ base ≤ U.heap.size)) := by
  intro a U g mk q
  obtain ⟨q0, q1, q2, q3⟩ := q
  exact ⟨q0, q1, KX.same (s := U) (U := U.calling g mk a) rfl q2, q3⟩
section RowsC
variable {α β : Type} {X : CX α} {own : String} {cc cc' : ByteArray} {nL nL' : Nat} {rm rm' : Room} {pc : Nat} {lo : List (Nat × Value)} {st : List Value} {nc ns : Nat} {ret' : Option FieldType} {y : MethodName} {inj : β → Option Value} {av : List Value} {f : M β} {k : β → M α} {idx : Nat} {zz : Bool}
theorem wm_callV {o ci n : Nat} {C : String} {T : u_T} {N : Nat} (hX : Cx X own cc nL rm) (hz : Zx X zz) (hM : Im zz y cc' nL' ret' rm' inj (.ref o :: av) f) (hc : Ckd ci o f) (hci : vwCl[ci]? = some (C, T, N)) (cal : CalV y C cc' nL' ret' n) (hlink : Cond.methodLink own idx y ∈ lw_g) (hn : av.length = n) (hR : rm'.frames + 1 ≤ rm.frames ∧ 8 + (nL' + 11) + rm'.locals ≤ rm.locals) (hst : (st.map fun v => v.category).sum ≤ 8) (hroom : nc + rm'.cells ≤ rm.cells ∧ ns + rm'.slots ≤ rm.slots) (hd : decode cc pc = .ok (.invokevirtual idx, 3))
    (hs : ∀ b base r, (inj r).map (sv b base) = inj r) (kk : ∀ r : β, WM X (pc + 3) lo ((inj r).toList ++ st) (nc + rm'.cells) (ns + rm'.slots) (k r)) : WM X pc lo (av.reverse ++ .ref o :: st) nc ns (bd f k) := by
  obtain ⟨p, l, e, R, s, m, args, below, meth, c, d, b, base, z, Q, r0, h0⟩ := X
  intro h hk H locs ls hH hS hl
  obtain ⟨r, h1, e1, e2⟩ := bd_some hk
  obtain ⟨F, f1⟩ := hc h _ e1
  obtain ⟨j, rfl, hj, hcj⟩ := lk_some f1
  obtain ⟨x1, x2, x3, x4, x5, x6, x7, x8⟩ := id hX
  subst x4
  have hz : z = zz := hz
  subst hz
  have hrec := va_recv x7.1 hH.2 hci (show (tw d b base h)[j]? = some (base + j, .inr (ci, (List.range (nF ci)).map (fun k => sv b base (F k)))) by rw [tw_get hj, hcj]; rfl)
  obtain ⟨c1, c2, c3, c4, c5⟩ := cal
  have hG : GoodIn lw_g (wsV own idx C y (Cond.code y cc' nL' ret' :: lw_g)) := by
    intro w hw
    unfold wsV at hw
    rcases List.mem_append.mp hw with hw | hw
    · have : w ∈ lw_g := by
        simp only [List.mem_cons, List.not_mem_nil, or_false] at hw
        rcases hw with rfl | rfl | rfl | rfl
        · exact hlink
        · exact c2
        · exact c3
        · exact c4
      exact ⟨this, lw_g_good this⟩
    · exact good_self c5 w hw
  refine call_go (rest := st.map (sv b base)) (va_runV (As := av.map (sv b base)) (rest := st.map (sv b base)) ⟨x1, x2, x3, x5, x6⟩ (hM l d b base h h1 r e1) (cwV n x6 hG rfl rfl rfl c1 hR) ⟨blind, hrec, fun U hU hW => ⟨rfl, by rw [hU]; exact hH, KX.warm hW x7, by rw [hU]; exact Nat.le_trans x8 hS.1⟩⟩ rfl (by rw [List.length_map]; exact hn) (by show ls.size = nL; rw [hl.1, x3]) ?_ (lv_room (by rw [cat_map]; exact hst)) hd hroom) hS (fun H1 locs1 hH1 hS1 => ?_)
  · show (av.reverse ++ .ref (j + 1) :: st).map (sv b base) = _
    rw [List.map_append, List.map_reverse]
    rfl
  · have key := kk r h1 e2 H1 locs1 ls hH1 hS1 hl
    rw [List.map_append] at key
    have e9 : ((inj r).toList).map (sv b base) = (inj r).toList := by
      have := hs b base r
      cases hi : inj r with
      | none => rfl
      | some v => rw [hi] at this; simp at this; simp [this]
    rw [e9] at key
    exact key
theorem wm_callS {n : Nat} (hX : Cx X own cc nL rm) (hz : Zx X zz) (hM : Im zz y cc' nL' ret' rm' inj av f) (cal : CalS y cc' nL' ret' n) (hlink : Cond.methodLink own idx y ∈ lw_g) (hn : av.length = n) (hR : rm'.frames + 1 ≤ rm.frames ∧ 8 + (nL' + 11) + rm'.locals ≤ rm.locals) (hst : (st.map fun v => v.category).sum ≤ 8) (hroom : nc + rm'.cells ≤ rm.cells ∧ ns + rm'.slots ≤ rm.slots) (hd : decode cc pc = .ok (.invokestatic idx, 3))
    (hs : ∀ b base r, (inj r).map (sv b base) = inj r) (kk : ∀ r : β, WM X (pc + 3) lo ((inj r).toList ++ st) (nc + rm'.cells) (ns + rm'.slots) (k r)) : WM X pc lo (av.reverse ++ st) nc ns (bd f k) := by
  obtain ⟨p, l, e, R, s, m, args, below, meth, c, d, b, base, z, Q, r0, h0⟩ := X
  intro h hk H locs ls hH hS hl
  obtain ⟨r, h1, e1, e2⟩ := bd_some hk
  obtain ⟨x1, x2, x3, x4, x5, x6, x7, x8⟩ := id hX
  subst x4
  have hz : z = zz := hz
  subst hz
  obtain ⟨c1, c2, c4, c5⟩ := cal
  refine call_go (rest := st.map (sv b base)) (va_runS (As := av.map (sv b base)) (rest := st.map (sv b base)) ⟨x1, x2, x3, x5, x6⟩ (hM l d b base h h1 r e1) ⟨callB_of n x6 (good_self c5) rfl rfl rfl (x6 _ c4) (x6 _ hlink) c1 hR, x6 _ c2⟩ ⟨blind, fun U hU hW => ⟨rfl, by rw [hU]; exact hH, KX.warm hW x7, by rw [hU]; exact Nat.le_trans x8 hS.1⟩⟩ rfl (by rw [List.length_map]; exact hn) (by show ls.size = nL; rw [hl.1, x3]) ?_ (lv_room (by rw [cat_map]; exact hst)) hd hroom) hS (fun H1 locs1 hH1 hS1 => ?_)
  · show (av.reverse ++ st).map (sv b base) = _
    rw [List.map_append, List.map_reverse]
  · have key := kk r h1 e2 H1 locs1 ls hH1 hS1 hl
    rw [List.map_append] at key
    have e9 : ((inj r).toList).map (sv b base) = (inj r).toList := by
      have := hs b base r
      cases hi : inj r with
      | none => rfl
      | some v => rw [hi] at this; simp at this; simp [this]
    rw [e9] at key
    exact key
theorem wm_callSN {n : Nat} {host : String} (hX : Cx X own cc nL rm) (hz : Zx X zz) (hM : Im zz y cc' nL' ret' rm' inj av f) (cal : CalS y cc' nL' ret' n) (hlink : (own, idx, y, host) ∈ nestW) (hn : av.length = n) (hR : rm'.frames + 1 ≤ rm.frames ∧ 8 + (nL' + 11) + rm'.locals ≤ rm.locals) (hst : (st.map fun v => v.category).sum ≤ 8) (hroom : nc + rm'.cells ≤ rm.cells ∧ ns + rm'.slots ≤ rm.slots) (hd : decode cc pc = .ok (.invokestatic idx, 3))
    (hs : ∀ b base r, (inj r).map (sv b base) = inj r) (kk : ∀ r : β, WM X (pc + 3) lo ((inj r).toList ++ st) (nc + rm'.cells) (ns + rm'.slots) (k r)) : WM X pc lo (av.reverse ++ st) nc ns (bd f k) := by
  obtain ⟨p, l, e, R, s, m, args, below, meth, c, d, b, base, z, Q, r0, h0⟩ := X
  intro h hk H locs ls hH hS hl
  obtain ⟨r, h1, e1, e2⟩ := bd_some hk
  obtain ⟨x1, x2, x3, x4, x5, x6, x7, x8⟩ := id hX
  subst x4
  have hz : z = zz := hz
  subst hz
  obtain ⟨c1, c2, c4, c5⟩ := cal
  refine call_go (rest := st.map (sv b base)) (va_runSN (host := host) (As := av.map (sv b base)) (rest := st.map (sv b base)) ⟨x1, x2, x3, x5, x6⟩ (hM l d b base h h1 r e1) ⟨va_cnB n x6 (good_self c5) rfl rfl rfl (x7.2.2.2 _ hlink) (x6 _ c4) c1 hR, x6 _ c2, trivial⟩ ⟨blind, fun U hU hW => ⟨rfl, by rw [hU]; exact hH, KX.warm hW x7, by rw [hU]; exact Nat.le_trans x8 hS.1⟩⟩ rfl (by rw [List.length_map]; exact hn) (by show ls.size = nL; rw [hl.1, x3]) ?_ (lv_room (by rw [cat_map]; exact hst)) hd hroom) hS (fun H1 locs1 hH1 hS1 => ?_)
  · show (av.reverse ++ st).map (sv b base) = _
    rw [List.map_append, List.map_reverse]
  · have key := kk r h1 e2 H1 locs1 ls hH1 hS1 hl
    rw [List.map_append] at key
    have e9 : ((inj r).toList).map (sv b base) = (inj r).toList := by
      have := hs b base r
      cases hi : inj r with
      | none => rfl
      | some v => rw [hi] at this; simp at this; simp [this]
    rw [e9] at key
    exact key
theorem wm_callI {o n : Nat} {f : M Unit} {k : Unit → M α} (hX : Cx X own cc nL rm) (hz : Zx X zz) (hM : Im zz y cc' nL' none rm' (fun _ => none) (.ref o :: av) f) (cal : CalI y cc' nL' n) (hlink : Cond.methodLink own idx y ∈ lw_g) (hn : av.length = n) (ho : 0 < o) (hR : rm'.frames + 1 ≤ rm.frames ∧ 8 + (nL' + 11) + rm'.locals ≤ rm.locals) (hst : (st.map fun v => v.category).sum ≤ 8) (hroom : nc + rm'.cells ≤ rm.cells ∧ ns + rm'.slots ≤ rm.slots) (hd : decode cc pc = .ok (.invokespecial idx, 3))
    (kk : WM X (pc + 3) lo st (nc + rm'.cells) (ns + rm'.slots) (k ())) : WM X pc lo (av.reverse ++ .ref o :: st) nc ns (bd f k) := by
  obtain ⟨p, l, e, R, s, m, args, below, meth, c, d, b, base, z, Q, r0, h0⟩ := X
  intro h hk H locs ls hH hS hl
  obtain ⟨r, h1, e1, e2⟩ := bd_some hk
  obtain ⟨x1, x2, x3, x4, x5, x6, x7, x8⟩ := id hX
  subst x4
  have hz : z = zz := hz
  subst hz
  obtain ⟨c1, c2, c3, c4, c5⟩ := cal
  refine call_go (rest := st.map (sv b base)) (va_runI (b := sa b base o) (As := av.map (sv b base)) (rest := st.map (sv b base)) ⟨x1, x2, x3, x5, x6⟩ (hM l d b base h h1 r e1) ⟨callB_of n x6 (good_self c5) rfl rfl rfl (x6 _ c4) (x6 _ hlink) c1 hR, c2, x6 _ c3⟩ ⟨blind, fun U hU hW => ⟨rfl, by rw [hU]; exact hH, KX.warm hW x7, by rw [hU]; exact Nat.le_trans x8 hS.1⟩⟩ rfl (by rw [List.length_map]; exact hn) (by show ls.size = nL; rw [hl.1, x3]) ?_ (lv_room (by rw [cat_map]; exact hst)) hd hroom) hS (fun H1 locs1 hH1 hS1 => kk h1 e2 H1 locs1 ls hH1 hS1 hl)
  show (av.reverse ++ .ref o :: st).map (sv b base) = _
  rw [List.map_append, List.map_reverse]
  rfl
theorem wm_callIN {o n : Nat} {host : String} {f : M Unit} {k : Unit → M α} (hX : Cx X own cc nL rm) (hz : Zx X zz) (hM : Im zz y cc' nL' none rm' (fun _ => none) (.ref o :: av) f) (cal : CalI y cc' nL' n) (hlink : (own, idx, y, host) ∈ nestW) (hn : av.length = n) (ho : 0 < o) (hR : rm'.frames + 1 ≤ rm.frames ∧ 8 + (nL' + 11) + rm'.locals ≤ rm.locals) (hst : (st.map fun v => v.category).sum ≤ 8) (hroom : nc + rm'.cells ≤ rm.cells ∧ ns + rm'.slots ≤ rm.slots) (hd : decode cc pc = .ok (.invokespecial idx, 3))
    (kk : WM X (pc + 3) lo st (nc + rm'.cells) (ns + rm'.slots) (k ())) : WM X pc lo (av.reverse ++ .ref o :: st) nc ns (bd f k) := by
  obtain ⟨p, l, e, R, s, m, args, below, meth, c, d, b, base, z, Q, r0, h0⟩ := X
  intro h hk H locs ls hH hS hl
  obtain ⟨r, h1, e1, e2⟩ := bd_some hk
  obtain ⟨x1, x2, x3, x4, x5, x6, x7, x8⟩ := id hX
  subst x4
  have hz : z = zz := hz
  subst hz
  obtain ⟨c1, c2, c3, c4, c5⟩ := cal
  refine call_go (rest := st.map (sv b base)) (va_runIN (host := host) (b := sa b base o) (As := av.map (sv b base)) (rest := st.map (sv b base)) ⟨x1, x2, x3, x5, x6⟩ (hM l d b base h h1 r e1) ⟨va_cnB n x6 (good_self c5) rfl rfl rfl (x7.2.2.2 _ hlink) (x6 _ c4) c1 hR, c2, x6 _ c3⟩ ⟨blind, fun U hU hW => ⟨rfl, by rw [hU]; exact hH, KX.warm hW x7, by rw [hU]; exact Nat.le_trans x8 hS.1⟩⟩ rfl (by rw [List.length_map]; exact hn) (by show ls.size = nL; rw [hl.1, x3]) ?_ (lv_room (by rw [cat_map]; exact hst)) hd hroom) hS (fun H1 locs1 hH1 hS1 => kk h1 e2 H1 locs1 ls hH1 hS1 hl)
  show (av.reverse ++ .ref o :: st).map (sv b base) = _
  rw [List.map_append, List.map_reverse]
  rfl
/-- Object.<init> -/
theorem wm_obj {o : Nat} {k : M α} (hX : Cx X own cc nL rm) (hlink : Cond.methodLink own idx objectInit ∈ lw_g) (hi : Cond.instanceMethod objectInit ∈ lw_g) (hcode : Cond.code objectInit ⟨#[0xb1]⟩ 1 none ∈ lw_g) (hd : decode cc pc = .ok (.invokespecial idx, 3)) (hR : 1 ≤ rm.frames ∧ (st.map fun v => v.category).sum + 12 ≤ rm.locals) (kk : WM X (pc + 3) lo st nc ns k) : WM X pc lo (.ref o :: st) nc ns k := by
  obtain ⟨p, l, e, R, s, m, args, below, meth, c, d, b, base, z, Q, r0, h0⟩ := X
  intro h hk H locs ls hH hS hl
  obtain ⟨x1, x2, x3, x4, x5, x6, x7, x8⟩ := id hX
  subst x4
  refine W.objInit x1 x2 x5 (x6 _ hlink) (x6 _ hi) (x6 _ hcode) rfl hl.1 rfl hd hR.1 ?_ (kk h hk H locs ls hH hS hl)
  rw [cat_map]
  have : (F0 m pc ls ((Value.ref o :: st).map (sv b base))).monitorRoom = 0 := rfl
  rw [this]
  have := hR.2
  omega
theorem wm_iret {X : CX Int32} {v : Int32} (hX : Cx X own cc nL rm) (hr : Rt X (fun r => some (.int r)) (some .int) nc ns) (hd : decode cc pc = .ok (.ireturn, 1)) : WM X pc lo [.int v] nc ns (rt v) := by
  obtain ⟨p, l, e, R, s, m, args, below, meth, c, d, b, base, z, Q, r0, h0⟩ := X
  intro h hk H locs ls hH hS hl
  cases hk
  obtain ⟨g1, g2, g3⟩ := hr
  subst g1
  exact W.iret hX.1 hX.2.1 g2 (fun t ht hW => ⟨rfl, by rw [ht]; exact hH, hS.F ht⟩) hS.2.2 hd g3
theorem wm_zret {X : CX Int32} {v : Int32} (hX : Cx X own cc nL rm) (hr : Rt X (fun r => some (.int r)) (some .boolean) nc ns) (hd : decode cc pc = .ok (.ireturn, 1)) : WM X pc lo [.int v] nc ns (rz v) := by
  obtain ⟨p, l, e, R, s, m, args, below, meth, c, d, b, base, z, Q, r0, h0⟩ := X
  intro h hk H locs ls hH hS hl
  unfold rz at hk
  split at hk
  · next hv =>
    cases hk
    obtain ⟨g1, g2, g3⟩ := hr
    subst g1
    exact W.zret hX.1 hX.2.1 g2 (by rcases hv with rfl | rfl <;> decide) (fun t ht hW => ⟨rfl, by rw [ht]; exact hH, hS.F ht⟩) hS.2.2 hd g3
  · cases hk
theorem wm_lret {X : CX Int64} {v : Int64} (hX : Cx X own cc nL rm) (hr : Rt X (fun r => some (.long r)) (some .long) nc ns) (hd : decode cc pc = .ok (.lreturn, 1)) : WM X pc lo [.long v] nc ns (rt v) := by
  obtain ⟨p, l, e, R, s, m, args, below, meth, c, d, b, base, z, Q, r0, h0⟩ := X
  intro h hk H locs ls hH hS hl
  cases hk
  obtain ⟨g1, g2, g3⟩ := hr
  subst g1
  exact W.lret hX.1 hX.2.1 g2 (fun t ht hW => ⟨rfl, by rw [ht]; exact hH, hS.F ht⟩) hS.2.2 hd g3
theorem wm_vret {X : CX Unit} (hX : Cx X own cc nL rm) (hr : Rt X (fun _ => none) none nc ns) (hd : decode cc pc = .ok (.return_, 1)) : WM X pc lo [] nc ns (rt ()) := by
  obtain ⟨p, l, e, R, s, m, args, below, meth, c, d, b, base, z, Q, r0, h0⟩ := X
  intro h hk H locs ls hH hS hl
  cases hk
  obtain ⟨g1, g2, g3⟩ := hr
  subst g1
  exact W.vret hX.1 hX.2.1 g2 (fun t ht hW => ⟨rfl, by rw [ht]; exact hH, hS.F ht⟩) hS.2.2 hd g3
/-- more cells and slots than were made are counted -/
theorem wm_widen {k : M α} (nc' ns' : Nat) (h1 : nc ≤ nc') (h2 : ns ≤ ns') (kk : WM X pc lo st nc' ns' k) : WM X pc lo st nc ns k := by
  obtain ⟨p, l, e, R, s, m, args, below, meth, c, d, b, base, z, Q, r0, h0⟩ := X
  intro h hk H locs ls hH hS hl
  exact W.widen h1 h2 (kk h hk H locs ls hH hS hl)
theorem wm_newI {n : Int32} {k : Nat → M α} (N : Nat) (hX : Cx X own cc nL rm) (hz : Zx X true) (hw : Cond.arrayClass .int ∈ lw_g) (hd : decode cc pc = .ok (.newarray .int, 2)) (hn : ¬ n < 0) (hN : n.toNatClampNeg = N) (hB : N * 4 ≤ 536870912) (hroom : nc + 1 ≤ rm.cells ∧ ns + N ≤ rm.slots) (kk : ∀ q, 0 < q → WM X (pc + 2) lo (.ref q :: st) (nc + 1) (ns + N) (k q)) : WM X pc lo (.int n :: st) nc ns (bd (nw (.inl (0, N, .inl (fun _ => 0)))) k) := by
  obtain ⟨p, l, e, R, s, m, args, below, meth, c, d, b, base, z, Q, r0, h0⟩ := X
  intro h hk H locs ls hH hS hl
  obtain ⟨x1, x2, x3, x4, x5, x6, x7, x8⟩ := id hX
  subst x4
  have hz : z = true := hz
  have hsz := hH.1 hz
  refine va_newaK (atype := .int) x1 x2 (x6 _ hw) rfl hd rfl hn hN hB hroom.1 hroom.2 rfl (fun H' cA w1 w2 w3 w4 w5 => ?_)
  have hcA : cA = d.2.2 0 := Option.some.inj (w5.symm.trans (x7.1.2 0 _ rfl).2)
  subst hcA
  have key := kk (h.1 + 1) (Nat.succ_pos _) _ hk H' locs ls (hH.push hsz _ (by rw [w2]) w3 ?_) ⟨Nat.le_trans hS.1 (by omega), fun q h1 h2 => (w3 q (Nat.lt_of_lt_of_le h1 hS.1)).trans (hS.2.1 q h1 h2), hS.2.2⟩ hl
  · rw [hsz]
    exact key
  · show H'[base + h.1]? = some (arrV (d.2.2 0) N (fun _ => .int 0))
    rw [← hsz]
    exact w1
theorem wm_newL {n : Int32} {k : Nat → M α} (N : Nat) (hX : Cx X own cc nL rm) (hz : Zx X true) (hw : Cond.arrayClass .long ∈ lw_g) (hd : decode cc pc = .ok (.newarray .long, 2)) (hn : ¬ n < 0) (hN : n.toNatClampNeg = N) (hB : N * 8 ≤ 536870912) (hroom : nc + 1 ≤ rm.cells ∧ ns + N ≤ rm.slots) (kk : ∀ q, 0 < q → WM X (pc + 2) lo (.ref q :: st) (nc + 1) (ns + N) (k q)) : WM X pc lo (.int n :: st) nc ns (bd (nw (.inl (1, N, .inr (.inl (fun _ => 0))))) k) := by
  obtain ⟨p, l, e, R, s, m, args, below, meth, c, d, b, base, z, Q, r0, h0⟩ := X
  intro h hk H locs ls hH hS hl
  obtain ⟨x1, x2, x3, x4, x5, x6, x7, x8⟩ := id hX
  subst x4
  have hz : z = true := hz
  have hsz := hH.1 hz
  refine va_newaK (atype := .long) x1 x2 (x6 _ hw) rfl hd rfl hn hN hB hroom.1 hroom.2 rfl (fun H' cA w1 w2 w3 w4 w5 => ?_)
  have hcA : cA = d.2.2 1 := Option.some.inj (w5.symm.trans (x7.1.2 1 _ rfl).2)
  subst hcA
  have key := kk (h.1 + 1) (Nat.succ_pos _) _ hk H' locs ls (hH.push hsz _ (by rw [w2]) w3 ?_) ⟨Nat.le_trans hS.1 (by omega), fun q h1 h2 => (w3 q (Nat.lt_of_lt_of_le h1 hS.1)).trans (hS.2.1 q h1 h2), hS.2.2⟩ hl
  · rw [hsz]
    exact key
  · show H'[base + h.1]? = some (arrV (d.2.2 1) N (fun _ => .long 0))
    rw [← hsz]
    exact w1
theorem wm_newZ {n : Int32} {k : Nat → M α} (N : Nat) (hX : Cx X own cc nL rm) (hz : Zx X true) (hw : Cond.arrayClass .boolean ∈ lw_g) (hd : decode cc pc = .ok (.newarray .boolean, 2)) (hn : ¬ n < 0) (hN : n.toNatClampNeg = N) (hB : N * 1 ≤ 536870912) (hroom : nc + 1 ≤ rm.cells ∧ ns + N ≤ rm.slots) (kk : ∀ q, 0 < q → WM X (pc + 2) lo (.ref q :: st) (nc + 1) (ns + N) (k q)) : WM X pc lo (.int n :: st) nc ns (bd (nw (.inl (2, N, .inl (fun _ => 0)))) k) := by
  obtain ⟨p, l, e, R, s, m, args, below, meth, c, d, b, base, z, Q, r0, h0⟩ := X
  intro h hk H locs ls hH hS hl
  obtain ⟨x1, x2, x3, x4, x5, x6, x7, x8⟩ := id hX
  subst x4
  have hz : z = true := hz
  have hsz := hH.1 hz
  refine va_newaK (atype := .boolean) x1 x2 (x6 _ hw) rfl hd rfl hn hN hB hroom.1 hroom.2 rfl (fun H' cA w1 w2 w3 w4 w5 => ?_)
  have hcA : cA = d.2.2 2 := Option.some.inj (w5.symm.trans (x7.1.2 2 _ rfl).2)
  subst hcA
  have key := kk (h.1 + 1) (Nat.succ_pos _) _ hk H' locs ls (hH.push hsz _ (by rw [w2]) w3 ?_) ⟨Nat.le_trans hS.1 (by omega), fun q h1 h2 => (w3 q (Nat.lt_of_lt_of_le h1 hS.1)).trans (hS.2.1 q h1 h2), hS.2.2⟩ hl
  · rw [hsz]
    exact key
  · show H'[base + h.1]? = some (arrV (d.2.2 2) N (fun _ => .int 0))
    rw [← hsz]
    exact w1
/-- an array of Reels (3) or Twins (4) -/
theorem wm_newR {n : Int32} {t : Nat} {C : String} {k : Nat → M α} (ht : (t = 3 ∧ C = "OneBitLoop$Reel") ∨ (t = 4 ∧ C = "OneBitLoop$Twin")) (N : Nat) (hX : Cx X own cc nL rm) (hz : Zx X true) (hw : Cond.classLink own idx C ∈ lw_g) (hd : decode cc pc = .ok (.anewarray idx, 3)) (hn : ¬ n < 0) (hN : n.toNatClampNeg = N) (hB : N * 4 ≤ 536870912) (hroom : nc + 1 ≤ rm.cells ∧ ns + N ≤ rm.slots) (kk : ∀ q, 0 < q → WM X (pc + 3) lo (.ref q :: st) (nc + 1) (ns + N) (k q)) : WM X pc lo (.int n :: st) nc ns (bd (nw (.inl (t, N, .inr (.inr (.inr (.inr (fun _ => none))))))) k) := by
  obtain ⟨p, l, e, R, s, m, args, below, meth, c, d, b, base, z, Q, r0, h0⟩ := X
  intro h hk H locs ls hH hS hl
  obtain ⟨x1, x2, x3, x4, x5, x6, x7, x8⟩ := id hX
  subst x4
  have hz : z = true := hz
  have hsz := hH.1 hz
  subst hN
  have hover : va_AO C s := by
    rcases ht with ⟨rfl, rfl⟩ | ⟨rfl, rfl⟩
    · exact x7.2.1
    · exact x7.2.2.1
  refine W.anew x1 x2 x5 (x6 _ hw) (va_AO.use hover) rfl hd rfl hn hB hroom.1 hroom.2 (fun cA kA comp f1 f2 f3 f4 => ?_)
  have hcA : cA = d.2.2 t := by
    rcases ht with ⟨rfl, rfl⟩ | ⟨rfl, rfl⟩
    · obtain ⟨kA', comp', k1, k2, k3, k4⟩ := (x7.1.2 3 _ rfl).2
      exact Option.some.inj (f1.symm.trans k4)
    · obtain ⟨kA', comp', k1, k2, k3, k4⟩ := (x7.1.2 4 _ rfl).2
      exact Option.some.inj (f1.symm.trans k4)
  subst hcA
  generalize hH1 : H.push ({ cls := d.2.2 t, slots := Array.replicate n.toNatClampNeg .null, vm := .none } : Cell) = H1
  have w2 : H1.size = H.size + 1 := by rw [← hH1, Array.size_push]
  have w1 : H1[H.size]? = some (arrV (d.2.2 t) n.toNatClampNeg (fun _ => .null)) := by rw [← hH1, Array.getElem?_push_size, ← arrV_new]
  have w3 : ∀ q : Nat, q < H.size → H1[q]? = H[q]? := fun q hq => by rw [← hH1, Array.getElem?_push, if_neg (Nat.ne_of_lt hq)]
  have key := kk (h.1 + 1) (Nat.succ_pos _) _ hk H1 locs ls (hH.push hsz _ (by rw [w2]) w3 ?_) ⟨Nat.le_trans hS.1 (by omega), fun q h1 h2 => (w3 q (Nat.lt_of_lt_of_le h1 hS.1)).trans (hS.2.1 q h1 h2), hS.2.2⟩ hl
  · rw [hsz]
    exact key
  · show H1[base + h.1]? = some (arrV (d.2.2 t) n.toNatClampNeg (fun _ => .null))
    rw [← hsz]
    exact w1
theorem wm_new {ci : Nat} {C : String} {T : u_T} {N : Nat} {ty : Nat → FieldType} {k : Nat → M α} (hX : Cx X own cc nL rm) (hz : Zx X true) (hcf : CF ci C T N) (hty : ∀ k, k < N → parseFieldDescriptor (T k).2.2.1 = some (ty k)) (hl1 : Cond.classLink own idx C ∈ lw_g) (hl2 : Cond.instantiable C N ∈ lw_g) (hl3 : Cond.initialized C ∈ lw_g) (hd : decode cc pc = .ok (.new idx, 3)) (hroom : nc + 1 ≤ rm.cells ∧ ns + N ≤ rm.slots) (kk : ∀ q, 0 < q → WM X (pc + 3) lo (.ref q :: st) (nc + 1) (ns + N) (k q)) : WM X pc lo st nc ns (bd (nw (.inr (ci, fun j => defaultValue (ty j)))) k) := by
  obtain ⟨p, l, e, R, s, m, args, below, meth, c, d, b, base, z, Q, r0, h0⟩ := X
  intro h hk H locs ls hH hS hl
  obtain ⟨x1, x2, x3, x4, x5, x6, x7, x8⟩ := id hX
  subst x4
  have hz : z = true := hz
  have hsz := hH.1 hz
  obtain ⟨c1, c2, c3, c4⟩ := hcf
  have hKn := x7.1.1 ci _ c1
  refine W.newcK x1 x2 x5 (x6 _ hl1) (x6 _ hl2) (x6 _ hl3) rfl hd hroom.1 hroom.2 hKn.2.1 rfl (fun H1 kC hkC w1 w2 w3 => ?_)
  have key := kk (h.1 + 1) (Nat.succ_pos _) _ hk H1 locs ls (hH.push hsz _ (by rw [w2]) w3 ?_) ⟨Nat.le_trans hS.1 (by omega), fun q h1 h2 => (w3 q (Nat.lt_of_lt_of_le h1 hS.1)).trans (hS.2.1 q h1 h2), hS.2.2⟩ hl
  · rw [hsz]
    exact key
  · refine ⟨_, c1, ?_⟩
    show t_OB (base + h.1) _ _ _ _ _
    rw [← hsz]
    refine (u_born ty x6 c2 hKn hkC w1 hty).to (fun j hj => ?_)
    rw [vp_V_range _ (by rw [nF_eq c1]; exact hj)]
    show defaultValue (ty j) = sv b base (defaultValue (ty j))
    generalize ty j = t
    cases t <;> rfl
end RowsC
