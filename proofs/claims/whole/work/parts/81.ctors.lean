/-! The constructors that make cells in a loop. -/
section Ctors
theorem wm_at {α : Type} {X : CX α} {pc : Nat} {lo : List (Nat × Value)} {st : List Value} {nc nc' ns ns' : Nat} {k : M α} (h1 : nc = nc') (h2 : ns = ns') (w : WM X pc lo st nc' ns' k) : WM X pc lo st nc ns k := by
  subst h1
  subst h2
  exact w
set_option maxRecDepth 20000 in
theorem wb_Ws_init_50a {X : CX Unit} (hX : Cx X RX7 cX7_init 3 rm_Ws_init) (hr : Rt X injV none rm_Ws_init.cells rm_Ws_init.slots) (hn : Nm X "<init>") (hz : Zx X true) {k50 : Nat → Nat → Int32 → M Unit} (j : Nat) (hj : j < 13) (h50 : ∀ (a0 : Nat) (a1 : Nat), WM X 50 [(0, .ref a0), (1, .ref a1), (2, .int (nI (j + 1)))] [] (1 + 3 * (j + 1)) (13 + 51 * (j + 1)) (k50 a0 a1 (nI (j + 1)))) (a0 : Nat) (a1 : Nat) : WM X 50 [(0, .ref a0), (1, .ref a1), (2, .int (nI j))] [] (1 + 3 * j) (13 + 51 * j) (b_Ws_init_50 k50 a0 a1 (nI j)) := by
  have hc : ¬ (12 : Int32) < nI j := fun w => absurd ((tn_12 (by omega)).mp w) (by omega)
  have e : b_Ws_init_50 k50 a0 a1 (nI j) = if (12 : Int32) < nI j then fl else (bd (gR 7 a0 1) (fun v1 => bd (nw (.inr (6, fun j => defaultValue (tyX6 j)))) (fun v2 => bd (m_Tw_init v2 a1) (fun _ => bd (stR 4 6 v1 (nI j) v2) (fun _ => k50 a0 a1 ((nI j) + 1)))))) := by
    unfold b_Ws_init_50
    rw [if_neg hc, if_neg hc]
  rw [e]
  refine wm_iload_n 2 hX dX7_init_50 rfl rfl ?_
  refine wm_bipush (12 : Int32) hX dX7_init_51 (by decide) ?_
  refine wm_icmp_gt 76 hX dX7_init_53 (by decide) ?_ ?_
  · exact wm_fl
  · skip
    refine wm_aload_n 0 hX dX7_init_56 rfl rfl ?_
    refine wm_gR hX fl_RX7_11 dX7_init_57 (fun v1 => ?_)
    refine wm_iload_n 2 hX dX7_init_60 rfl rfl ?_
    refine wm_new hX hz cf_X6 tyX6_ok wd_249 wd_251 wd_49 dX7_init_61 (by show 1 + 3 * j + 1 ≤ 40 ∧ 13 + 51 * j + 6 ≤ 676; omega) (fun v2 hq_v2 => ?_)
    refine wm_dup hX dX7_init_64 rfl ?_
    refine wm_aload_n 1 hX dX7_init_65 rfl rfl ?_
    refine wm_callI (st := [.ref v2, .int (nI j), .ref v1]) hX hz (i_Tw_init v2 a1) cal_Tw_init wd_252 rfl hq_v2 ⟨Nat.le_of_ble_eq_true rfl, Nat.le_of_ble_eq_true rfl⟩ (Nat.le_of_ble_eq_true rfl) (by show 1 + 3 * j + 1 + 2 ≤ 40 ∧ 13 + 51 * j + 6 + 45 ≤ 676; omega) dX7_init_66 ?_
    refine wm_stR (by decide) hX dX7_init_69 ?_
    refine wm_iinc ((nI j) + 1) 2 [(2, .int ((nI j) + 1)), (0, .ref a0), (1, .ref a1)] hX dX7_init_70 rfl rfl (by decide) rfl ?_
    refine wm_goto (tgt := 50) hX dX7_init_73 (by decide) ?_
    refine wm_sub [1, 2, 0] [(0, .ref a0), (1, .ref a1), (2, .int ((nI j) + 1))] rfl ?_
    rw [na_1]
    exact wm_at (by show 1 + 3 * j + 1 + 2 = 1 + 3 * (j + 1); omega) (by show 13 + 51 * j + 6 + 45 = 13 + 51 * (j + 1); omega) (h50 a0 a1)
theorem wb_Ws_init_50b {X : CX Unit} (hX : Cx X RX7 cX7_init 3 rm_Ws_init) (hr : Rt X injV none rm_Ws_init.cells rm_Ws_init.slots) (hn : Nm X "<init>") (hz : Zx X true) {k50 : Nat → Nat → Int32 → M Unit} (a0 : Nat) (a1 : Nat) : WM X 50 [(0, .ref a0), (1, .ref a1), (2, .int (nI 13))] [] 40 676 (b_Ws_init_50 k50 a0 a1 (nI 13)) := by
  have hc : (12 : Int32) < nI 13 := by decide
  have e : b_Ws_init_50 k50 a0 a1 (nI 13) = if (12 : Int32) < nI 13 then rt () else fl := by
    unfold b_Ws_init_50
    rw [if_pos hc, if_pos hc]
  rw [e]
  refine wm_iload_n 2 hX dX7_init_50 rfl rfl ?_
  refine wm_bipush (12 : Int32) hX dX7_init_51 (by decide) ?_
  refine wm_icmp_gt 76 hX dX7_init_53 (by decide) ?_ ?_
  · exact wm_vret hX hr dX7_init_76
  · exact wm_fl
theorem wl_Ws_init_50 {X : CX Unit} (hX : Cx X RX7 cX7_init 3 rm_Ws_init) (hr : Rt X injV none rm_Ws_init.cells rm_Ws_init.slots) (hn : Nm X "<init>") (hz : Zx X true) : ∀ (n j : Nat) (a0 : Nat) (a1 : Nat), j ≤ 13 → WM X 50 [(0, .ref a0), (1, .ref a1), (2, .int (nI j))] [] (1 + 3 * j) (13 + 51 * j) (l_Ws_init_50 n a0 a1 (nI j))
  | 0, _, _, _, _ => wm_fl
  | n + 1, j, a0, a1, hj => by
    show WM X 50 _ [] _ _ (b_Ws_init_50 (l_Ws_init_50 n) a0 a1 (nI j))
    by_cases q : j = 13
    · subst q
      exact wb_Ws_init_50b hX hr hn hz a0 a1
    · exact wb_Ws_init_50a hX hr hn hz j (by omega) (fun b0 b1 => wl_Ws_init_50 hX hr hn hz n (j + 1) b0 b1 (by omega)) a0 a1
set_option maxRecDepth 20000 in
theorem w_Ws_init {X : CX Unit} (hX : Cx X RX7 cX7_init 3 rm_Ws_init) (hr : Rt X injV none rm_Ws_init.cells rm_Ws_init.slots) (hn : Nm X "<init>") (hz : Zx X true) (a0 : Nat) (a1 : Nat) : WM X 0 [(0, .ref a0), (1, .ref a1)] [] 0 0 (m_Ws_init a0 a1) := by
  unfold m_Ws_init
  refine wm_aload_n 0 hX dX7_init_0 rfl rfl ?_
  refine wm_obj hX wd_248 wd_63 wd_64 dX7_init_1 ⟨Nat.le_of_ble_eq_true rfl, Nat.le_of_ble_eq_true rfl⟩ ?_
  refine wm_aload_n 0 hX dX7_init_4 rfl rfl ?_
  refine wm_bipush (13 : Int32) hX dX7_init_5 (by decide) ?_
  refine wm_newR (by decide) 13 hX hz wd_249 dX7_init_7 (by decide) (by decide) (by decide) (by decide) (fun v1 hq_v1 => ?_)
  refine wm_fA hX hn ff_RX7_11 dX7_init_10 ?_
  refine wm_aload_n 0 hX dX7_init_13 rfl rfl ?_
  refine wm_iconst (0 : Int32) hX dX7_init_14 (by decide) ?_
  refine wm_pI hX fp_RX7_17 dX7_init_15 ?_
  refine wm_aload_n 0 hX dX7_init_18 rfl rfl ?_
  refine wm_lconst (0 : Int64) hX dX7_init_19 (by decide) ?_
  refine wm_pL hX fp_RX7_21 dX7_init_20 ?_
  refine wm_aload_n 0 hX dX7_init_23 rfl rfl ?_
  refine wm_iconst (0 : Int32) hX dX7_init_24 (by decide) ?_
  refine wm_pI hX fp_RX7_25 dX7_init_25 ?_
  refine wm_aload_n 0 hX dX7_init_28 rfl rfl ?_
  refine wm_iconst (0 : Int32) hX dX7_init_29 (by decide) ?_
  refine wm_pI hX fp_RX7_28 dX7_init_30 ?_
  refine wm_aload_n 0 hX dX7_init_33 rfl rfl ?_
  refine wm_lconst (0 : Int64) hX dX7_init_34 (by decide) ?_
  refine wm_pL hX fp_RX7_31 dX7_init_35 ?_
  refine wm_aload_n 0 hX dX7_init_38 rfl rfl ?_
  refine wm_lconst (0 : Int64) hX dX7_init_39 (by decide) ?_
  refine wm_pL hX fp_RX7_34 dX7_init_40 ?_
  refine wm_aload_n 0 hX dX7_init_43 rfl rfl ?_
  refine wm_aload_n 1 hX dX7_init_44 rfl rfl ?_
  refine wm_fR hX hn ff_RX7_37 dX7_init_45 ?_
  refine wm_iconst (0 : Int32) hX dX7_init_48 (by decide) ?_
  refine wm_istore_n [(2, .int (0 : Int32)), (0, .ref a0), (1, .ref a1)] hX dX7_init_49 rfl (by decide) rfl ?_
  refine wm_sub [1, 2, 0] [(0, .ref a0), (1, .ref a1), (2, .int (0 : Int32))] rfl ?_
  exact wl_Ws_init_50 hX hr hn hz FU 0 a0 a1 (by omega)
theorem i_Ws_init (a0 : Nat) (a1 : Nat) : Im true yX7_init cX7_init 3 none rm_Ws_init injV [.ref a0, .ref a1] (m_Ws_init a0 a1) := Im.of RX7 (by decide) rfl (Nat.le_of_ble_eq_true rfl) (fun X hX hr hn hz => w_Ws_init hX hr hn hz a0 a1)
set_option maxRecDepth 20000 in
theorem wb_Ob_init_15a {X : CX Unit} (hX : Cx X RX8 cX8_init 2 rm_Ob_init) (hr : Rt X injV none rm_Ob_init.cells rm_Ob_init.slots) (hn : Nm X "<init>") (hz : Zx X true) {k15 : Nat → Int32 → M Unit} (j : Nat) (hj : j < 6) (h15 : ∀ (a0 : Nat), WM X 15 [(0, .ref a0), (1, .int (nI (j + 1)))] [] (1 + 2 * (j + 1)) (6 + 64 * (j + 1)) (k15 a0 (nI (j + 1)))) (a0 : Nat) : WM X 15 [(0, .ref a0), (1, .int (nI j))] [] (1 + 2 * j) (6 + 64 * j) (b_Ob_init_15 k15 a0 (nI j)) := by
  have hc : ¬ (6 : Int32) ≤ nI j := fun w => absurd ((ln_6 (by omega)).mp w) (by omega)
  have e : b_Ob_init_15 k15 a0 (nI j) = if (6 : Int32) ≤ nI j then fl else (bd (gR 8 a0 0) (fun v15 => bd (nw (.inr (3, fun j => defaultValue (tyX3 j)))) (fun v16 => bd (m_Rl_init v16) (fun _ => bd (stR 3 3 v15 (nI j) v16) (fun _ => k15 a0 ((nI j) + 1)))))) := by
    unfold b_Ob_init_15
    rw [if_neg hc, if_neg hc]
  rw [e]
  refine wm_iload_n 1 hX dX8_init_15 rfl rfl ?_
  refine wm_bipush (6 : Int32) hX dX8_init_16 (by decide) ?_
  refine wm_icmp_ge 40 hX dX8_init_18 (by decide) ?_ ?_
  · exact wm_fl
  · skip
    refine wm_aload_n 0 hX dX8_init_21 rfl rfl ?_
    refine wm_gR hX fl_RX8_11 dX8_init_22 (fun v15 => ?_)
    refine wm_iload_n 1 hX dX8_init_25 rfl rfl ?_
    refine wm_new hX hz cf_X3 tyX3_ok wd_65 wd_67 wd_42 dX8_init_26 (by show 1 + 2 * j + 1 ≤ 79 ∧ 6 + 64 * j + 4 ≤ 10979; omega) (fun v16 hq_v16 => ?_)
    refine wm_dup hX dX8_init_29 rfl ?_
    refine wm_callIN (host := "OneBitLoop") (st := [.ref v16, .int (nI j), .ref v15]) hX hz (i_Rl_init v16) cal_Rl_init (by decide +kernel) rfl hq_v16 ⟨Nat.le_of_ble_eq_true rfl, Nat.le_of_ble_eq_true rfl⟩ (Nat.le_of_ble_eq_true rfl) (by show 1 + 2 * j + 1 + 1 ≤ 79 ∧ 6 + 64 * j + 4 + 60 ≤ 10979; omega) dX8_init_30 ?_
    refine wm_stR (by decide) hX dX8_init_33 ?_
    refine wm_iinc ((nI j) + 1) 1 [(1, .int ((nI j) + 1)), (0, .ref a0)] hX dX8_init_34 rfl rfl (by decide) rfl ?_
    refine wm_goto (tgt := 15) hX dX8_init_37 (by decide) ?_
    refine wm_sub [1, 0] [(0, .ref a0), (1, .int ((nI j) + 1))] rfl ?_
    rw [na_1]
    exact wm_at (by show 1 + 2 * j + 1 + 1 = 1 + 2 * (j + 1); omega) (by show 6 + 64 * j + 4 + 60 = 6 + 64 * (j + 1); omega) (h15 a0)
set_option maxRecDepth 20000 in
theorem wb_Ob_init_15b {X : CX Unit} (hX : Cx X RX8 cX8_init 2 rm_Ob_init) (hr : Rt X injV none rm_Ob_init.cells rm_Ob_init.slots) (hn : Nm X "<init>") (hz : Zx X true) {k15 : Nat → Int32 → M Unit} (a0 : Nat) : WM X 15 [(0, .ref a0), (1, .int (nI 6))] [] 13 390 (b_Ob_init_15 k15 a0 (nI 6)) := by
  have hc : (6 : Int32) ≤ nI 6 := by decide
  have e : b_Ob_init_15 k15 a0 (nI 6) = if (6 : Int32) ≤ nI 6 then (bd (nw (.inr (5, fun j => defaultValue (tyX5 j)))) (fun v1 => bd (m_Sp_init v1) (fun _ => bd (pR 8 a0 1 v1) (fun _ => bd (nw (.inr (1, fun j => defaultValue (tyX1 j)))) (fun v2 => bd (m_Lg_init v2) (fun _ => bd (pR 8 a0 2 v2) (fun _ => bd (nw (.inr (4, fun j => defaultValue (tyX4 j)))) (fun v3 => bd (m_Sn_init v3) (fun _ => bd (nw (.inr (0, fun j => defaultValue (tyX0 j)))) (fun v4 => bd (gR 8 a0 1) (fun v5 => bd (m_Hd_init v4 v5 v3) (fun _ => bd (pR 8 a0 3 v4) (fun _ => bd (nw (.inr (2, fun j => defaultValue (tyX2 j)))) (fun v6 => bd (gR 8 a0 1) (fun v7 => bd (m_Rc_init v6 v7 v3) (fun _ => bd (pR 8 a0 4 v6) (fun _ => bd (nw (.inr (7, fun j => defaultValue (tyX7 j)))) (fun v8 => bd (gR 8 a0 1) (fun v9 => bd (m_Ws_init v8 v9) (fun _ => bd (pR 8 a0 5 v8) (fun _ => bd (nw (.inl (0, 8, .inl (fun _ => 0)))) (fun v10 => bd (pR 8 a0 6 v10) (fun _ => bd (nw (.inr (6, fun j => defaultValue (tyX6 j)))) (fun v11 => bd (gR 8 a0 1) (fun v12 => bd (m_Tw_init v11 v12) (fun _ => bd (pR 8 a0 7 v11) (fun _ => bd (nw (.inr (6, fun j => defaultValue (tyX6 j)))) (fun v13 => bd (gR 8 a0 1) (fun v14 => bd (m_Tw_init v13 v14) (fun _ => bd (pR 8 a0 8 v13) (fun _ => bd (pI 8 a0 9 (0 : Int32)) (fun _ => rt ())))))))))))))))))))))))))))))))) else fl := by
    unfold b_Ob_init_15
    rw [if_pos hc, if_pos hc]
  rw [e]
  refine wm_iload_n 1 hX dX8_init_15 rfl rfl ?_
  refine wm_bipush (6 : Int32) hX dX8_init_16 (by decide) ?_
  refine wm_icmp_ge 40 hX dX8_init_18 (by decide) ?_ ?_
  · refine wm_aload_n 0 hX dX8_init_40 rfl rfl ?_
    refine wm_new hX hz cf_X5 tyX5_ok wd_90 wd_91 wd_43 dX8_init_41 ⟨Nat.le_of_ble_eq_true rfl, Nat.le_of_ble_eq_true rfl⟩ (fun v1 hq_v1 => ?_)
    refine wm_dup hX dX8_init_44 rfl ?_
    refine wm_callI (st := [.ref v1, .ref a0]) hX hz (i_Sp_init v1) cal_Sp_init wd_92 rfl hq_v1 ⟨Nat.le_of_ble_eq_true rfl, Nat.le_of_ble_eq_true rfl⟩ (Nat.le_of_ble_eq_true rfl) ⟨Nat.le_of_ble_eq_true rfl, Nat.le_of_ble_eq_true rfl⟩ dX8_init_45 ?_
    refine wm_fR hX hn ff_RX8_19 dX8_init_48 ?_
    refine wm_aload_n 0 hX dX8_init_51 rfl rfl ?_
    refine wm_new hX hz cf_X1 tyX1_ok wd_143 wd_144 wd_44 dX8_init_52 ⟨Nat.le_of_ble_eq_true rfl, Nat.le_of_ble_eq_true rfl⟩ (fun v2 hq_v2 => ?_)
    refine wm_dup hX dX8_init_55 rfl ?_
    refine wm_callIN (host := "OneBitLoop") (st := [.ref v2, .ref a0]) hX hz (i_Lg_init v2) cal_Lg_init (by decide +kernel) rfl hq_v2 ⟨Nat.le_of_ble_eq_true rfl, Nat.le_of_ble_eq_true rfl⟩ (Nat.le_of_ble_eq_true rfl) ⟨Nat.le_of_ble_eq_true rfl, Nat.le_of_ble_eq_true rfl⟩ dX8_init_56 ?_
    refine wm_fR hX hn ff_RX8_26 dX8_init_59 ?_
    refine wm_new hX hz cf_X4 tyX4_ok wd_162 wd_163 wd_45 dX8_init_62 ⟨Nat.le_of_ble_eq_true rfl, Nat.le_of_ble_eq_true rfl⟩ (fun v3 hq_v3 => ?_)
    refine wm_dup hX dX8_init_65 rfl ?_
    refine wm_callIN (host := "OneBitLoop") (st := [.ref v3]) hX hz (i_Sn_init v3) cal_Sn_init (by decide +kernel) rfl hq_v3 ⟨Nat.le_of_ble_eq_true rfl, Nat.le_of_ble_eq_true rfl⟩ (Nat.le_of_ble_eq_true rfl) ⟨Nat.le_of_ble_eq_true rfl, Nat.le_of_ble_eq_true rfl⟩ dX8_init_66 ?_
    refine wm_astore_n [(1, .ref v3), (0, .ref a0)] hX dX8_init_69 rfl (by decide) rfl ?_
    refine wm_aload_n 1 hX dX8_init_70 rfl rfl ?_
    refine wm_new hX hz cf_X0 tyX0_ok wd_188 wd_189 wd_46 dX8_init_71 ⟨Nat.le_of_ble_eq_true rfl, Nat.le_of_ble_eq_true rfl⟩ (fun v4 hq_v4 => ?_)
    refine wm_dup hX dX8_init_74 rfl ?_
    refine wm_aload_n 1 hX dX8_init_75 rfl rfl ?_
    refine wm_gR hX fl_RX8_19 dX8_init_76 (fun v5 => ?_)
    refine wm_aload_n 0 hX dX8_init_79 rfl rfl ?_
    refine wm_callI (st := [.ref v4, .ref a0]) hX hz (i_Hd_init v4 v5 v3) cal_Hd_init wd_190 rfl hq_v4 ⟨Nat.le_of_ble_eq_true rfl, Nat.le_of_ble_eq_true rfl⟩ (Nat.le_of_ble_eq_true rfl) ⟨Nat.le_of_ble_eq_true rfl, Nat.le_of_ble_eq_true rfl⟩ dX8_init_80 ?_
    refine wm_fR hX hn ff_RX8_38 dX8_init_83 ?_
    refine wm_aload_n 1 hX dX8_init_86 rfl rfl ?_
    refine wm_new hX hz cf_X2 tyX2_ok wd_216 wd_217 wd_47 dX8_init_87 ⟨Nat.le_of_ble_eq_true rfl, Nat.le_of_ble_eq_true rfl⟩ (fun v6 hq_v6 => ?_)
    refine wm_dup hX dX8_init_90 rfl ?_
    refine wm_aload_n 1 hX dX8_init_91 rfl rfl ?_
    refine wm_gR hX fl_RX8_19 dX8_init_92 (fun v7 => ?_)
    refine wm_aload_n 0 hX dX8_init_95 rfl rfl ?_
    refine wm_callI (st := [.ref v6, .ref a0]) hX hz (i_Rc_init v6 v7 v3) cal_Rc_init wd_218 rfl hq_v6 ⟨Nat.le_of_ble_eq_true rfl, Nat.le_of_ble_eq_true rfl⟩ (Nat.le_of_ble_eq_true rfl) ⟨Nat.le_of_ble_eq_true rfl, Nat.le_of_ble_eq_true rfl⟩ dX8_init_96 ?_
    refine wm_fR hX hn ff_RX8_45 dX8_init_99 ?_
    refine wm_aload_n 1 hX dX8_init_102 rfl rfl ?_
    refine wm_new hX hz cf_X7 tyX7_ok wd_243 wd_244 wd_48 dX8_init_103 ⟨Nat.le_of_ble_eq_true rfl, Nat.le_of_ble_eq_true rfl⟩ (fun v8 hq_v8 => ?_)
    refine wm_dup hX dX8_init_106 rfl ?_
    refine wm_aload_n 1 hX dX8_init_107 rfl rfl ?_
    refine wm_gR hX fl_RX8_19 dX8_init_108 (fun v9 => ?_)
    refine wm_callI (st := [.ref v8, .ref a0]) hX hz (i_Ws_init v8 v9) cal_Ws_init wd_245 rfl hq_v8 ⟨Nat.le_of_ble_eq_true rfl, Nat.le_of_ble_eq_true rfl⟩ (Nat.le_of_ble_eq_true rfl) ⟨Nat.le_of_ble_eq_true rfl, Nat.le_of_ble_eq_true rfl⟩ dX8_init_111 ?_
    refine wm_fR hX hn ff_RX8_54 dX8_init_114 ?_
    refine wm_aload_n 1 hX dX8_init_117 rfl rfl ?_
    refine wm_bipush (8 : Int32) hX dX8_init_118 (by decide) ?_
    refine wm_newI 8 hX hz wd_142 dX8_init_120 (by decide) (by decide) (by decide) (by decide) (fun v10 hq_v10 => ?_)
    refine wm_fA hX hn ff_RX8_58 dX8_init_122 ?_
    refine wm_aload_n 1 hX dX8_init_125 rfl rfl ?_
    refine wm_new hX hz cf_X6 tyX6_ok wd_316 wd_251 wd_49 dX8_init_126 ⟨Nat.le_of_ble_eq_true rfl, Nat.le_of_ble_eq_true rfl⟩ (fun v11 hq_v11 => ?_)
    refine wm_dup hX dX8_init_129 rfl ?_
    refine wm_aload_n 1 hX dX8_init_130 rfl rfl ?_
    refine wm_gR hX fl_RX8_19 dX8_init_131 (fun v12 => ?_)
    refine wm_callI (st := [.ref v11, .ref a0]) hX hz (i_Tw_init v11 v12) cal_Tw_init wd_317 rfl hq_v11 ⟨Nat.le_of_ble_eq_true rfl, Nat.le_of_ble_eq_true rfl⟩ (Nat.le_of_ble_eq_true rfl) ⟨Nat.le_of_ble_eq_true rfl, Nat.le_of_ble_eq_true rfl⟩ dX8_init_134 ?_
    refine wm_pR hX fp_RX8_65 dX8_init_137 ?_
    refine wm_aload_n 1 hX dX8_init_140 rfl rfl ?_
    refine wm_new hX hz cf_X6 tyX6_ok wd_316 wd_251 wd_49 dX8_init_141 ⟨Nat.le_of_ble_eq_true rfl, Nat.le_of_ble_eq_true rfl⟩ (fun v13 hq_v13 => ?_)
    refine wm_dup hX dX8_init_144 rfl ?_
    refine wm_aload_n 1 hX dX8_init_145 rfl rfl ?_
    refine wm_gR hX fl_RX8_19 dX8_init_146 (fun v14 => ?_)
    refine wm_callI (st := [.ref v13, .ref a0]) hX hz (i_Tw_init v13 v14) cal_Tw_init wd_317 rfl hq_v13 ⟨Nat.le_of_ble_eq_true rfl, Nat.le_of_ble_eq_true rfl⟩ (Nat.le_of_ble_eq_true rfl) ⟨Nat.le_of_ble_eq_true rfl, Nat.le_of_ble_eq_true rfl⟩ dX8_init_149 ?_
    refine wm_pR hX fp_RX8_69 dX8_init_152 ?_
    refine wm_aload_n 1 hX dX8_init_155 rfl rfl ?_
    refine wm_iconst (0 : Int32) hX dX8_init_156 (by decide) ?_
    refine wm_pI hX fp_RX8_72 dX8_init_157 ?_
    exact wm_vret hX hr dX8_init_160
  · exact wm_fl
theorem wl_Ob_init_15 {X : CX Unit} (hX : Cx X RX8 cX8_init 2 rm_Ob_init) (hr : Rt X injV none rm_Ob_init.cells rm_Ob_init.slots) (hn : Nm X "<init>") (hz : Zx X true) : ∀ (n j : Nat) (a0 : Nat), j ≤ 6 → WM X 15 [(0, .ref a0), (1, .int (nI j))] [] (1 + 2 * j) (6 + 64 * j) (l_Ob_init_15 n a0 (nI j))
  | 0, _, _, _ => wm_fl
  | n + 1, j, a0, hj => by
    show WM X 15 _ [] _ _ (b_Ob_init_15 (l_Ob_init_15 n) a0 (nI j))
    by_cases q : j = 6
    · subst q
      exact wb_Ob_init_15b hX hr hn hz a0
    · exact wb_Ob_init_15a hX hr hn hz j (by omega) (fun b0 => wl_Ob_init_15 hX hr hn hz n (j + 1) b0 (by omega)) a0
set_option maxRecDepth 20000 in
theorem w_Ob_init {X : CX Unit} (hX : Cx X RX8 cX8_init 2 rm_Ob_init) (hr : Rt X injV none rm_Ob_init.cells rm_Ob_init.slots) (hn : Nm X "<init>") (hz : Zx X true) (a0 : Nat) : WM X 0 [(0, .ref a0)] [] 0 0 (m_Ob_init a0) := by
  unfold m_Ob_init
  refine wm_aload_n 0 hX dX8_init_0 rfl rfl ?_
  refine wm_obj hX wd_62 wd_63 wd_64 dX8_init_1 ⟨Nat.le_of_ble_eq_true rfl, Nat.le_of_ble_eq_true rfl⟩ ?_
  refine wm_aload_n 0 hX dX8_init_4 rfl rfl ?_
  refine wm_bipush (6 : Int32) hX dX8_init_5 (by decide) ?_
  refine wm_newR (by decide) 6 hX hz wd_65 dX8_init_7 (by decide) (by decide) (by decide) (by decide) (fun v1 hq_v1 => ?_)
  refine wm_fA hX hn ff_RX8_11 dX8_init_10 ?_
  refine wm_iconst (0 : Int32) hX dX8_init_13 (by decide) ?_
  refine wm_istore_n [(1, .int (0 : Int32)), (0, .ref a0)] hX dX8_init_14 rfl (by decide) rfl ?_
  refine wm_sub [1, 0] [(0, .ref a0), (1, .int (0 : Int32))] rfl ?_
  exact wl_Ob_init_15 hX hr hn hz FU 0 a0 (by omega)
theorem i_Ob_init (a0 : Nat) : Im true yX8_init cX8_init 2 none rm_Ob_init injV [.ref a0] (m_Ob_init a0) := Im.of RX8 (by decide) rfl (Nat.le_of_ble_eq_true rfl) (fun X hX hr hn hz => w_Ob_init hX hr hn hz a0)
end Ctors
