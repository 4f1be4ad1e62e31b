/-! The machine under a small picture of the heap: cells that were made since the law began, by numbers from 1 on. -/
abbrev AE : Type := (Nat × vp_A) ⊕ (Nat × (Nat → Value))
abbrev AH : Type := Nat × (Nat → AE)
abbrev AD : Type := (Nat → ClassId) × (Nat → Nat → Nat) × (Nat → ClassId)
abbrev M (α : Type) : Type := AH → Option (α × AH)
def sa (b base : Nat) : Nat → Nat
  | 0 => b
  | k + 1 => base + k
def sv (b base : Nat) (v : Value) : Value := match v with
  | .ref k => .ref (sa b base k)
  | v => v
def sA (b base : Nat) (a : vp_A) : vp_A := (a.1, match a.2 with
  | .inr (.inr (.inr (.inr f))) => .inr (.inr (.inr (.inr (fun j => (f j).map (sa b base)))))
  | x => x)
def nF (ci : Nat) : Nat := match vwCl[ci]? with
  | some r => r.2.2
  | none => 0
def se (d : AD) (b base : Nat) (e : AE) : va_E := match e with
  | .inl (t, a) => .inl (d.2.2 t, sA b base a)
  | .inr (ci, f) => .inr (ci, (List.range (nF ci)).map (fun k => sv b base (f k)))
def tw (d : AD) (b base : Nat) (h : AH) : va_W := (List.range h.1).map (fun k => (base + k, se d b base (h.2 (k + 1))))
def lk (h : AH) (o : Nat) : Option AE := if 0 < o ∧ o ≤ h.1 then some (h.2 o) else none
theorem lk_some {h : AH} {o : Nat} {e : AE} (q : lk h o = some e) : ∃ k, o = k + 1 ∧ k < h.1 ∧ h.2 (k + 1) = e := by
  unfold lk at q
  split at q
  · next c =>
    refine ⟨o - 1, by omega, by omega, ?_⟩
    rw [show o - 1 + 1 = o by omega]
    exact Option.some.inj q
  · cases q
theorem tw_get {d : AD} {b base : Nat} {h : AH} {k : Nat} (hk : k < h.1) : (tw d b base h)[k]? = some (base + k, se d b base (h.2 (k + 1))) := by
  simp [tw, hk]
theorem tw_inv {d : AD} {b base : Nat} {h : AH} {k : Nat} {q : Nat × va_E} (hk : (tw d b base h)[k]? = some q) : k < h.1 ∧ q = (base + k, se d b base (h.2 (k + 1))) := by
  by_cases hl : k < h.1
  · rw [tw_get hl] at hk
    exact ⟨hl, (Option.some.inj hk).symm⟩
  · simp [tw, hl] at hk
theorem tw_D {d : AD} {b base : Nat} {h : AH} : va_D (fun q => base ≤ q) (tw d b base h) := by
  refine ⟨fun i j p q hi hj e => ?_, fun k q hk => ?_⟩
  · obtain ⟨-, rfl⟩ := tw_inv hi
    obtain ⟨-, rfl⟩ := tw_inv hj
    have e : base + i = base + j := e
    omega
  · obtain ⟨-, rfl⟩ := tw_inv hk
    show base ≤ base + k
    omega
theorem tw_set {d : AD} {b base : Nat} {h : AH} {k : Nat} (hk : k < h.1) (e : AE) : (tw d b base h).set k (base + k, se d b base e) = tw d b base (h.1, va_up h.2 (k + 1) e) := by
  apply List.ext_getElem?
  intro i
  by_cases hik : i = k
  · subst hik
    rw [List.getElem?_set_self (by simp [tw, hk]), tw_get (h := (h.1, va_up h.2 (i + 1) e)) hk]
    simp [va_up]
  · rw [List.getElem?_set_ne (fun z => hik z.symm)]
    by_cases hl : i < h.1
    · rw [tw_get hl, tw_get (h := (h.1, va_up h.2 (k + 1) e)) hl]
      have : ¬ (i + 1 = k + 1) := by omega
      simp [va_up, hik]
    · simp [tw, hl]
theorem tw_push {d : AD} {b base : Nat} {h : AH} (e : AE) : tw d b base h ++ [(base + h.1, se d b base e)] = tw d b base (h.1 + 1, va_up h.2 (h.1 + 1) e) := by
  apply List.ext_getElem?
  intro i
  have hlen : (tw d b base h).length = h.1 := by simp [tw]
  by_cases hl : i < h.1
  · rw [List.getElem?_append_left (by rw [hlen]; exact hl), tw_get hl, tw_get (h := (h.1 + 1, va_up h.2 (h.1 + 1) e)) (show i < h.1 + 1 by omega)]
    have : ¬ (i = h.1) := by omega
    simp [va_up, this]
  · rw [List.getElem?_append_right (by rw [hlen]; omega), hlen]
    by_cases he : i = h.1
    · subst he
      rw [tw_get (h := (h.1 + 1, va_up h.2 (h.1 + 1) e)) (show h.1 < h.1 + 1 by omega)]
      simp [va_up]
    · have h1 : ¬ i < h.1 + 1 := by omega
      have h2 : i - h.1 ≠ 0 := by omega
      rw [show (tw d b base (h.1 + 1, va_up h.2 (h.1 + 1) e))[i]? = none by simp [tw, h1]]
      simp
      omega
theorem sv_cat (b base : Nat) (v : Value) : (sv b base v).category = v.category := by
  cases v <;> rfl
def tys (d : AD) : List (ClassId × FieldType) := [(d.2.2 0, .int), (d.2.2 1, .long), (d.2.2 2, .boolean), (d.2.2 3, .object "OneBitLoop$Reel"), (d.2.2 4, .object "OneBitLoop$Twin")]
def HR (z : Bool) (d : AD) (b base : Nat) (h : AH) (H : Heap) : Prop := (z = true → H.size = base + h.1) ∧ va_P (d.1, d.2.1) vwCl (tw d b base h) H
def nestW : List (String × Nat × MethodName × String) := [("OneBitLoop", 15, yX3_init, "OneBitLoop"), ("OneBitLoop", 25, yX1_init, "OneBitLoop"), ("OneBitLoop", 32, yX4_init, "OneBitLoop"), ("OneBitLoop$Reel", 32, yX8_isNoNumber, "OneBitLoop"), ("OneBitLoop$Reel", 36, yX8_cutToSample, "OneBitLoop")]
def KX (d : AD) (U : State) : Prop := va_K (d.1, d.2.1) vwCl (tys d) U ∧ va_AO "OneBitLoop$Reel" U ∧ va_AO "OneBitLoop$Twin" U ∧ ∀ q ∈ nestW, va_Nw (.methodLinkNest q.1 q.2.1 q.2.2.1 q.2.2.2) U
theorem KX.warm {d : AD} {s U : State} (hW : s.WarmedH U.vm) (h : KX d s) : KX d U := ⟨va_K.moved hW.alike h.1, h.2.1.moved hW.alike, h.2.2.1.moved hW.alike, fun q hq => va_Nw.warmM hW (h.2.2.2 q hq)⟩
theorem KX.same {d : AD} {s U : State} (hW : s.vm = U.vm) (h : KX d s) : KX d U := by
  have ha : s.vm.Alike U.vm := by rw [hW]; exact Vm.Alike.refl _
  exact ⟨va_K.moved ha h.1, h.2.1.moved ha, h.2.2.1.moved ha, fun q hq => va_Nw.same rfl hW (h.2.2.2 q hq)⟩
def lw_g : List Cond := lw_tbl.filter goodWord
theorem lw_g_mem {w : Cond} (h : w ∈ lw_tbl) (hg : goodWord w = true) : w ∈ lw_g := List.mem_filter.mpr ⟨h, hg⟩
theorem lw_g_good {w : Cond} (h : w ∈ lw_g) : (w.onTables && w.keeps) = true ∨ ∃ ty, w = .arrayClass ty := good_of_word (List.mem_filter.mp h).2
abbrev CX (α : Type) : Type := Program × Launch × Env × Room × State × MethodId × Array Value × List Frame × Method × Code × AD × Nat × Nat × Bool × (State → Prop) × α × AH
def WM {α : Type} (X : CX α) (pc : Nat) (lo : List (Nat × Value)) (st : List Value) (nc ns : Nat) (k : M α) : Prop := match X with
  | (p, l, e, R, s, m, args, below, meth, c, d, b, base, z, Q, r0, h0) =>
    ∀ (h : AH), k h = some (r0, h0) → ∀ (H : Heap) (locs : List Loc) (ls : Array Slot), HR z d b base h H → va_S (fun q => base ≤ q) s.heap H locs → lv_has ls c.maxLocals (lo.map fun q => (q.1, sv b base q.2)) →
      W p l e R s m args below meth c H locs nc ns Q (F0 m pc ls (st.map (sv b base)))
def Cx {α : Type} (X : CX α) (own : String) (cc : ByteArray) (nL : Nat) (rm : Room) : Prop := match X with
  | (p, l, e, R, s, m, args, below, meth, c, d, b, base, z, Q, r0, h0) =>
    p.tables.exec = Jvm.exec ∧ c.code = cc ∧ c.maxLocals = nL ∧ R = rm ∧ s.vm.findClass own = some m.cls ∧ (∀ w ∈ lw_g, w.before args s = true) ∧ KX d s ∧ base ≤ s.heap.size
def Qf (z : Bool) (d : AD) (b base : Nat) (v : Option Value) (h0 : AH) : Array Value → State → Outcome → State → Prop := fun _ st o t => o = .returned v ∧ HR z d b base h0 t.heap ∧ va_F (fun q => base ≤ q) st t
def Rt {α : Type} (X : CX α) (inj : α → Option Value) (ret : Option FieldType) (mc ms : Nat) : Prop := match X with
  | (p, l, e, R, s, m, args, below, meth, c, d, b, base, z, Q, r0, h0) =>
    Q = MQ below (Qf z d b base (inj r0) h0) args s mc ms (fun q => base ≤ q) ∧ meth.sig.returnType = ret ∧ meth.locks = false
def Nm {α : Type} (X : CX α) (n : String) : Prop := match X with
  | (p, l, e, R, s, m, args, below, meth, c, d, b, base, z, Q, r0, h0) => meth.name = n
def Zx {α : Type} (X : CX α) (z' : Bool) : Prop := match X with
  | (p, l, e, R, s, m, args, below, meth, c, d, b, base, z, Q, r0, h0) => z = z'
/-- a method of the machine runs as a program over the picture -/
def Im {α : Type} (z : Bool) (y : MethodName) (cc : ByteArray) (nL : Nat) (ret : Option FieldType) (rm : Room) (inj : α → Option Value) (av : List Value) (f : M α) : Prop :=
  ∀ (l : Launch) (d : AD) (b base : Nat) (h h' : AH) (r : α), f h = some (r, h') → Met l y (Cond.code y cc nL ret :: lw_g) rm (va_Pc (av.map (sv b base)) (fun U => HR z d b base h U.heap ∧ KX d U ∧ base ≤ U.heap.size)) (Qf z d b base (inj r) h') rm.cells rm.slots (fun q => base ≤ q)
theorem lg_sl_map (b base : Nat) : ∀ av : List Value, (lg_sl (av.map (sv b base))).length = (lg_sl av).length
  | [] => rfl
  | v :: av => by
    have ih := lg_sl_map b base av
    have hc := sv_cat b base v
    by_cases h : v.category = 2
    · simp [lg_sl, hc, h] at ih ⊢; exact ih
    · simp [lg_sl, hc, h] at ih ⊢; exact ih
theorem lv_args_map (b base : Nat) : ∀ (av : List Value) (i : Nat), lv_args i (av.map (sv b base)) = (lv_args i av).map (fun q => (q.1, sv b base q.2))
  | [], _ => rfl
  | v :: av, i => by
    simp only [List.map_cons, lv_args, sv_cat, lv_args_map b base av]
theorem Im.of {α : Type} {z : Bool} {y : MethodName} {cc : ByteArray} {nL : Nat} {ret : Option FieldType} {rm : Room} {inj : α → Option Value} {av : List Value} {f : M α} (own : String) (hy : plainName y.cls = true) (ho : y.cls = own) (hav : (lg_sl av).length ≤ nL)
    (hwm : ∀ X : CX α, Cx X own cc nL rm → Rt X inj ret rm.cells rm.slots → Nm X y.name → Zx X z → WM X 0 (lv_args 0 av) [] 0 0 f) : Im z y cc nL ret rm inj av f := by
  intro l d b base h h' r hf
  refine Met.ofW (cc := cc) (maxL := nL) (ret := ret) hy rfl ?_
  intro p e s m args below meth c s₁ B hml hv
  obtain ⟨rfl, hH, hK, hbs⟩ := hv
  have hts := atoms_spec (ws := Cond.code y cc nL ret :: lw_g) B.pre
  have hown : s.vm.findClass own = some m.cls := by rw [← ho]; exact findClass_of_methodNamed B.named
  have hl := lv_entry (av.map (sv b base)) (n := nL) (by rw [lg_sl_map]; exact hav)
  rw [lg_entry_eq]
  rw [lv_args_map] at hl
  rw [← hml] at hl
  have key := hwm (p, l, e, (headSpec (Cond.code y cc nL ret :: lw_g) rm).room, s, m, (av.map (sv b base)).toArray, below, meth, c, d, b, base, z, MQ below (Qf z d b base (inj r) h') (av.map (sv b base)).toArray s rm.cells rm.slots (fun q => base ≤ q), r, h')
    ⟨B.exec, B.bytes, hml, rfl, hown, fun w hw => hts w (List.mem_cons_of_mem _ hw), hK, hbs⟩ ⟨rfl, B.returns, B.notSynchronized⟩ (name_of_methodNamed B.named B.method).1 rfl
  rw [← hml]
  exact key h hf s.heap [] _ hH va_S.rf hl
