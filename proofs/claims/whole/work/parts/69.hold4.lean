/-! hold: a step of the reference, both together, the call. -/
theorem r_hold {τ : SS} {P : SH} {t m n : Nat} {u sd : Int64} {N : Nat → Int64} (hP : AllP P) (h : RH τ P u N sd t) (ht : t < m) (hm : m ≤ 400) :
    ∃ τ1, Mod (rwL ++ [99]) τ τ1 ∧ Z30 (τ1.2.1 95) ∧
      ((¬ (pOut nR P u (hq P u N sd t).1 (hq P u N sd t).2.1).1 = true ∧ l_Md_hold_34 (n + 1) 81 u (nI m) (nI (t + 1)) (lay τ) = some (-6, lay τ1))
      ∨ ((pOut nR P u (hq P u N sd t).1 (hq P u N sd t).2.1).1 = true ∧ RH τ1 P u N sd (t + 1) ∧ l_Md_hold_34 (n + 1) 81 u (nI m) (nI (t + 1)) (lay τ) = l_Md_hold_60 (l_Md_hold_34 n) FU 81 u (nI m) (nI (t + 1)) (nI 0) (lay τ1))) := by
  obtain ⟨g1, g2, g3, g4, g5⟩ := h
  have hF : FitP P := hP.1.1
  obtain ⟨τ2, e2, m2, n2, mk, sd2, td2⟩ := s_tries (u := u) g1 hP.1
  rw [g2, g3] at e2 n2 td2
  rw [g3] at sd2
  have s2 : RShp τ2 P := g1.mod2 m2 (by decide)
  have hz2 : Z30 (τ2.2.1 95) := by rw [n2]; exact Z30.out hF g4
  have hq' : ¬ m < t + 1 := by omega
  have start : l_Md_hold_34 (n + 1) 81 u (nI m) (nI (t + 1)) (lay τ) = (fun v1 : Int32 => if v1 = 0 then (rt (-6 : Int32)) else (bd (m_Md_stands 81 (nI (t + 1))) (fun _ => l_Md_hold_60 (l_Md_hold_34 n) FU 81 u (nI m) (nI (t + 1)) (0 : Int32)))) (bi ((pOut nR P u (hq P u N sd t).1 (hq P u N sd t).2.1).1 = true)) (lay τ2) := by
    show b_Md_hold_34 (l_Md_hold_34 n) 81 u (nI m) (nI (t + 1)) (lay τ) = _
    unfold b_Md_hold_34
    rw [ap_ite, if_neg (fun w => hq' ((lt_nn (by omega) (by omega)).mp w)), bd_eq e2]
  by_cases ho : (pOut nR P u (hq P u N sd t).1 (hq P u N sd t).2.1).1 = true
  · have htl := told_lt (u := u) (sd := (hq P u N sd t).2.1) (N := (hq P u N sd t).1) hF
    have h16 := hF.2.2.1
    obtain ⟨τ3, e3, m3, k3, o3⟩ := s_standsGo (σ0 := τ2) (t := t + 1) s2 hF (by omega) (fun _ => td2) (by omega) 5 0 FU τ2 (by omega) (by unfold FU; omega) Mod.rf (fun k hk => by omega) (fun q _ => rfl)
    have es : m_Md_stands 81 (nI (t + 1)) (lay τ2) = some ((), lay τ3) := by
      unfold m_Md_stands
      rw [ckd_lay (ci := 9) (o := 81) rfl (by decide)]
      exact e3
    have q1 : (hq P u N sd (t + 1)).1 = (pOut nR P u (hq P u N sd t).1 (hq P u N sd t).2.1).2.1 := by rw [hq_s]
    have q2 : (hq P u N sd (t + 1)).2.1 = (pLot P.2.2.2.2.2.2 (hq P u N sd t).2.1).2 := by rw [hq_s]
    have q4 : (hq P u N sd (t + 1)).2.2.2 = P.2.2.2.2.1 (pTold nR P u (hq P u N sd t).1 (hq P u N sd t).2.1) := by rw [hq_s]
    rw [n2, sd2, if_neg (by omega), ← q1, ← q2, ← q4] at k3
    refine ⟨τ3, (m2.mono (by decide)).tr (m3.mono (by decide)), by rw [m3.l (by decide)]; exact hz2, Or.inr ⟨ho, ⟨s2.mod2 m3 (by decide), ?_, ?_, ?_, ?_⟩, ?_⟩⟩
    · rw [m3.l (by decide), n2, q1]
    · rw [m3.l (by decide), sd2, q2]
    · rw [q1]; exact Z30.out hF g4
    · intro e he k hk
      by_cases z : e = t + 1
      · rw [z]; exact k3 k hk
      · rw [o3 _ (by omega), m2.l (by decide)]; exact g5 e (by omega) k hk
    · rw [start]
      show (if bi ((pOut nR P u (hq P u N sd t).1 (hq P u N sd t).2.1).1 = true) = 0 then (rt (-6 : Int32)) else (bd (m_Md_stands 81 (nI (t + 1))) (fun _ => l_Md_hold_60 (l_Md_hold_34 n) FU 81 u (nI m) (nI (t + 1)) (0 : Int32)))) (lay τ2) = _
      rw [ap_ite, if_neg (by rw [bi_0]; exact fun q => q ho), bd_eq es]
      rfl
  · refine ⟨τ2, m2.mono (by decide), hz2, Or.inl ⟨ho, ?_⟩⟩
    rw [start]
    show (if bi ((pOut nR P u (hq P u N sd t).1 (hq P u N sd t).2.1).1 = true) = 0 then (rt (-6 : Int32)) else (bd (m_Md_stands 81 (nI (t + 1))) (fun _ => l_Md_hold_60 (l_Md_hold_34 n) FU 81 u (nI m) (nI (t + 1)) (0 : Int32)))) (lay τ2) = _
    rw [ap_ite, if_pos (by rw [bi_0]; exact ho), ap_rt]
theorem RH.same {τ : SS} {P : SH} {t e : Nat} {u sd : Int64} {N : Nat → Int64} (hF : FitP P) (h : RH τ P u N sd t) (he : e ≤ t) : alk τ e t ↔ lik P u N sd e t := by
  obtain ⟨g1, g2, g3, g4, g5⟩ := h
  unfold alk
  rw [pEq_iff]
  have : (∀ i, 0 ≤ i → i < 0 + 11 → (fun q => τ.2.1 99 (12 * e + q)) i = (fun q => τ.2.1 99 (12 * t + q)) i) ↔ ∀ k, k < 11 → std12 P (hq P u N sd e).1 (hq P u N sd e).2.1 (hq P u N sd e).2.2.2 k = std12 P (hq P u N sd t).1 (hq P u N sd t).2.1 (hq P u N sd t).2.2.2 k := by
    constructor
    · intro h k hk
      have := h k (by omega) (by omega)
      have a : τ.2.1 99 (12 * e + k) = τ.2.1 99 (12 * t + k) := this
      rw [g5 e he k (by omega), g5 t (by omega) k (by omega)] at a
      exact a
    · intro h k _ hk
      show τ.2.1 99 (12 * e + k) = τ.2.1 99 (12 * t + k)
      rw [g5 e he k (by omega), g5 t (by omega) k (by omega)]
      exact h k (by omega)
  rw [this, std_alike hF]
  rfl
abbrev hdR (σ : SS) : Int64 × Int64 × Int64 := (σ.2.1 100 0, σ.2.1 100 1, σ.2.1 100 2)
def hdX (x : Int32 × Int32 × Int64) : Int64 × Int64 × Int64 := (x.1.toInt64, x.2.1.toInt64, x.2.2)
theorem s_hold {P : SH} {b m : Nat} {u sd : Int64} {N : Nat → Int64} (hT : IsTw b) (hP : AllP P) (hu : smp u) (hm : m ≤ 400) : ∀ (r t n : Nat) (σ : SS), t + r = m → r < n → CShp σ P → CH σ P b u N sd t → Z30 (σ.2.1 (b + 1)) →
    ∃ (v : Int32) (σ' : SS) (F : Option (Int32 × Int32 × Int64)), l_Hd_goRound_22 n 27 b u (nI m) (hq P u N sd t).2.2.1 (nI t) (lay σ) = some (v, lay σ') ∧ Mod (hcL b) σ σ' ∧ Z30 (σ'.2.1 (b + 1)) ∧ hdl σ' = F.getD (hdl σ) ∧
      ∀ τ : SS, RH τ P u N sd t → Z30 (τ.2.1 95) → ∃ υ, l_Md_hold_34 n 81 u (nI m) (nI (t + 1)) (lay τ) = some (v, lay υ) ∧ Mod hrL τ υ ∧ Z30 (υ.2.1 95) ∧ hdR υ = (F.map hdX).getD (hdR τ)
  | r, t, 0, σ, h, hn, hs, hc, hz => by omega
  | 0, t, n + 1, σ, h, hn, hs, hc, hz => by
    have hq1 : m ≤ t := by omega
    have hq2 : m < t + 1 := by omega
    refine ⟨-5, σ, none, ?_, Mod.rf, hz, rfl, fun τ g gz => ⟨τ, ?_, Mod.rf, gz, rfl⟩⟩
    · show b_Hd_goRound_22 (l_Hd_goRound_22 n) 27 b u (nI m) (hq P u N sd t).2.2.1 (nI t) (lay σ) = _
      unfold b_Hd_goRound_22
      rw [ap_ite, if_pos ((le_nn (by omega) (by omega)).mpr hq1), ap_rt]
    · show b_Md_hold_34 (l_Md_hold_34 n) 81 u (nI m) (nI (t + 1)) (lay τ) = _
      unfold b_Md_hold_34
      rw [ap_ite, if_pos ((lt_nn (by omega) (by omega)).mpr hq2), ap_rt]
  | r + 1, t, n + 1, σ, h, hn, hs, hc, hz => by
    have hF : FitP P := hP.1.1
    obtain ⟨σ1, m1, z1, s1, w⟩ := c_hold (n := n) hT hP hu hs hc (show t < m by omega) hm
    rcases w with ⟨ho, e1, d1⟩ | ⟨ho, e1, c1, d1⟩ | ⟨ho, e, he, e1, hl, hl2, d1⟩
    · refine ⟨-6, σ1, none, e1, m1, z1, d1, fun τ g gz => ?_⟩
      obtain ⟨τ1, m2, z2, w2⟩ := r_hold (n := n) hP g (show t < m by omega) hm
      rcases w2 with ⟨-, e2⟩ | ⟨ho2, -⟩
      · refine ⟨τ1, e2, m2.mono (by decide), z2, ?_⟩
        show (τ1.2.1 100 0, τ1.2.1 100 1, τ1.2.1 100 2) = _
        rw [m2.l (by decide)]
        rfl
      · exact absurd ho2 ho
    · obtain ⟨v, σ', F, f1, f2, f3, f4, f5⟩ := s_hold hT hP hu hm r (t + 1) n σ1 (by omega) (by omega) s1 c1 z1
      refine ⟨v, σ', F, e1.trans f1, m1.tr f2, f3, by rw [f4, d1], fun τ g gz => ?_⟩
      obtain ⟨τ1, m2, z2, w2⟩ := r_hold (n := n) hP g (show t < m by omega) hm
      rcases w2 with ⟨ho2, -⟩ | ⟨-, g1, e2⟩
      · exact absurd ho ho2
      · obtain ⟨υ, y1, y2, y3, y4⟩ := f5 τ1 g1 z2
        refine ⟨υ, ?_, (m2.mono (by decide)).tr y2, y3, ?_⟩
        · rw [e2, s_hold60n (T := t + 1) (by omega) (t + 1) 0 FU (by omega) (by unfold FU; omega) (fun e _ he => fun q => c1.none e he ((g1.same hF (by omega)).mp q))]
          exact y1
        · rw [y4]
          have : hdR τ1 = hdR τ := by
            show (τ1.2.1 100 0, τ1.2.1 100 1, τ1.2.1 100 2) = _
            rw [m2.l (by decide)]
          rw [this]
    · refine ⟨nI e, σ1, some (nI e, nI (t + 1 - e), (hq P u N sd (t + 1)).2.2.1 - (hq P u N sd e).2.2.1), e1, m1, z1, d1, fun τ g gz => ?_⟩
      obtain ⟨τ1, m2, z2, w2⟩ := r_hold (n := n) hP g (show t < m by omega) hm
      rcases w2 with ⟨ho2, -⟩ | ⟨-, g1, e2⟩
      · exact absurd ho ho2
      · obtain ⟨υ, y1, y2, y3, y4, y5⟩ := s_hold60y (σ := τ1) (k34 := l_Md_hold_34 n) (u := u) (m := nI m) (T := t + 1) (e0 := e) (by omega) he ((g1.same hF (by omega)).mpr hl) e 0 FU (by omega) (by unfold FU; omega) (fun e' _ he' q => absurd (hl2 e' (by omega) ((g1.same hF (by omega)).mp q)) (by omega))
        refine ⟨υ, e2.trans y1, (m2.mono (by decide)).tr (y2.mono (by decide)), by rw [y2.l (by decide)]; exact z2, ?_⟩
        show (υ.2.1 100 0, υ.2.1 100 1, υ.2.1 100 2) = ((nI e).toInt64, (nI (t + 1 - e)).toInt64, (hq P u N sd (t + 1)).2.2.1 - (hq P u N sd e).2.2.1)
        have es : hsum (fun q => τ1.2.1 99 (12 * q + 11)) (t + 1 - e) (e + 1) 0 = (hq P u N sd (t + 1)).2.2.1 - (hq P u N sd e).2.2.1 := by
          have key : ∀ (r k : Nat) (x : Int64), k + r = t + 2 → hsum (fun q => τ1.2.1 99 (12 * q + 11)) r k x = hsum (fun k => (hq P u N sd k).2.2.2) r k x := by
            intro r
            induction r with
            | zero => intro k x _; rfl
            | succ r ih =>
              intro k x hk
              show hsum _ r (k + 1) (x + τ1.2.1 99 (12 * k + 11)) = hsum _ r (k + 1) (x + (hq P u N sd k).2.2.2)
              rw [ih (k + 1) _ (by omega), g1.2.2.2.2 k (by omega) 11 (by omega)]
              unfold std12
              rw [if_neg (by decide), if_neg (by decide)]
          rw [key _ _ _ (by omega), hsum_add, show e + (t + 1 - e) = t + 1 by omega, Int64.zero_add]
        rw [y3, y4, y5, es]
theorem CI.next2 {σ τ : SS} {L : List Nat} {P : SH} {fs : Int64} {a b : Nat} {S : SG} (h : CI σ P fs a b S) (hM : Mod L σ τ) (hL : ∀ o ∈ [16, 17, 18, 19, fa 15 4, fa 15 5, fa 15 6, a + 1, a + 2, fa a 3, fa a 4, 21, 22, fa 15 7, fa 20 2], o ∉ L) (hz : Z30 (τ.2.1 (b + 1))) : CI τ P fs a b S := by
  obtain ⟨h1, ⟨k1, k2, k3, k4, k5, k6, k7⟩, h5, h7, h9, h11, h15, hm, hr, l2⟩ := id h
  refine ⟨h1.mod hM, ?_, ?_⟩
  · unfold CShp
    rw [hM.i (hL 16 (by simp)), hM.l (hL 17 (by simp)), hM.i (hL 18 (by simp)), hM.l (hL 19 (by simp)), hM.i (hL (fa 15 4) (by simp)), hM.i (hL (fa 15 5) (by simp)), hM.i (hL (fa 15 6) (by simp))]
    exact ⟨k1, k2, k3, k4, k5, k6, k7⟩
  · rw [hM.l (hL (a + 1) (by simp)), hM.l (hL (fa a 4) (by simp)), hM.l (hL 21 (by simp)), hM.l (hL 22 (by simp)), hM.l (hL (fa 15 7) (by simp)), hM.i (hL (fa 20 2) (by simp)), hM.i (hL (a + 2) (by simp)), hM.i (hL (fa a 3) (by simp))]
    exact ⟨h5, h7, h9, hz, h15, hm, hr, l2⟩
theorem RI.trial2 {σ τ : SS} {L : List Nat} {P : SH} {fs : Int64} {S : SG} (h : RI σ P fs S) (hM : Mod L σ τ) (hL : ∀ o ∈ [87, 88, 89, fa 81 6, 90, fa 81 10, fa 81 12, fa 81 13, fa 81 15, 91, fa 81 16, 92, 93, 94, fa 81 19], o ∉ L) (hz : Z30 (τ.2.1 95)) : RI τ P fs S := by
  obtain ⟨h2, h5, h7, h9, h11, h15, hm, hr, l2⟩ := h
  refine ⟨h2.mod hM (fun o ho => hL o (by revert ho; simp; omega)), ?_⟩
  rw [hM.l (hL (fa 81 13) (by simp)), hM.l (hL (fa 81 15) (by simp)), hM.l (hL 91 (by simp)), hM.i (hL (fa 81 16) (by simp)), hM.l (hL 92 (by simp)), hM.l (hL 93 (by simp)), hM.i (hL 94 (by simp)), hM.i (hL (fa 81 19) (by simp))]
  exact ⟨h5, h7, h9, hz, h15, hm, hr, l2⟩
