set_option maxRecDepth 20000 in
theorem w_Rl_init {X : CX Unit} (hX : Cx X RX3 cX3_init 1 rm_Rl_init) (hr : Rt X injV none rm_Rl_init.cells rm_Rl_init.slots) (hn : Nm X "<init>") (hz : Zx X true) (a0 : Nat) : WM X 0 [(0, .ref a0)] [] 0 0 (m_Rl_init a0) := by
  unfold m_Rl_init
  refine wm_aload_n 0 hX dX3_init_0 rfl rfl ?_
  refine wm_obj hX wd_71 wd_63 wd_64 dX3_init_1 ⟨Nat.le_of_ble_eq_true rfl, Nat.le_of_ble_eq_true rfl⟩ ?_
  refine wm_aload_n 0 hX dX3_init_4 rfl rfl ?_
  refine wm_bipush (60 : Int32) hX dX3_init_5 (by decide) ?_
  refine wm_newL 60 hX hz wd_89 dX3_init_7 (by decide) (by decide) (by decide) (by decide) (fun v1 hq_v1 => ?_)
  refine wm_fA hX hn ff_RX3_9 dX3_init_9 ?_
  refine wm_aload_n 0 hX dX3_init_12 rfl rfl ?_
  refine wm_iconst (1 : Int32) hX dX3_init_13 (by decide) ?_
  refine wm_pZ hX fp_RX3_15 dX3_init_14 ?_
  refine wm_aload_n 0 hX dX3_init_17 rfl rfl ?_
  refine wm_iconst (0 : Int32) hX dX3_init_18 (by decide) ?_
  refine wm_pI hX fp_RX3_19 dX3_init_19 ?_
  refine wm_aload_n 0 hX dX3_init_22 rfl rfl ?_
  refine wm_iconst (0 : Int32) hX dX3_init_23 (by decide) ?_
  refine wm_pI hX fp_RX3_23 dX3_init_24 ?_
  exact wm_vret hX hr dX3_init_27
theorem i_Rl_init (a0 : Nat) : Im true yX3_init cX3_init 1 none rm_Rl_init injV [.ref a0] (m_Rl_init a0) := Im.of RX3 (by decide) rfl (Nat.le_of_ble_eq_true rfl) (fun X hX hr hn hz => w_Rl_init hX hr hn hz a0)
set_option maxRecDepth 20000 in
theorem w_Sp_init {X : CX Unit} (hX : Cx X RX5 cX5_init 1 rm_Sp_init) (hr : Rt X injV none rm_Sp_init.cells rm_Sp_init.slots) (hn : Nm X "<init>") (hz : Zx X true) (a0 : Nat) : WM X 0 [(0, .ref a0)] [] 0 0 (m_Sp_init a0) := by
  unfold m_Sp_init
  refine wm_aload_n 0 hX dX5_init_0 rfl rfl ?_
  refine wm_obj hX wd_95 wd_63 wd_64 dX5_init_1 ⟨Nat.le_of_ble_eq_true rfl, Nat.le_of_ble_eq_true rfl⟩ ?_
  refine wm_aload_n 0 hX dX5_init_4 rfl rfl ?_
  refine wm_iconst (5 : Int32) hX dX5_init_5 (by decide) ?_
  refine wm_newI 5 hX hz wd_142 dX5_init_6 (by decide) (by decide) (by decide) (by decide) (fun v1 hq_v1 => ?_)
  refine wm_fA hX hn ff_RX5_9 dX5_init_8 ?_
  refine wm_aload_n 0 hX dX5_init_11 rfl rfl ?_
  refine wm_iconst (5 : Int32) hX dX5_init_12 (by decide) ?_
  refine wm_newL 5 hX hz wd_89 dX5_init_13 (by decide) (by decide) (by decide) (by decide) (fun v2 hq_v2 => ?_)
  refine wm_fA hX hn ff_RX5_15 dX5_init_15 ?_
  refine wm_aload_n 0 hX dX5_init_18 rfl rfl ?_
  refine wm_iconst (5 : Int32) hX dX5_init_19 (by decide) ?_
  refine wm_newI 5 hX hz wd_142 dX5_init_20 (by decide) (by decide) (by decide) (by decide) (fun v3 hq_v3 => ?_)
  refine wm_fA hX hn ff_RX5_19 dX5_init_22 ?_
  refine wm_aload_n 0 hX dX5_init_25 rfl rfl ?_
  refine wm_bipush (16 : Int32) hX dX5_init_26 (by decide) ?_
  refine wm_newL 16 hX hz wd_89 dX5_init_28 (by decide) (by decide) (by decide) (by decide) (fun v4 hq_v4 => ?_)
  refine wm_fA hX hn ff_RX5_22 dX5_init_30 ?_
  refine wm_aload_n 0 hX dX5_init_33 rfl rfl ?_
  refine wm_iconst (0 : Int32) hX dX5_init_34 (by decide) ?_
  refine wm_pI hX fp_RX5_25 dX5_init_35 ?_
  refine wm_aload_n 0 hX dX5_init_38 rfl rfl ?_
  refine wm_iconst (2 : Int32) hX dX5_init_39 (by decide) ?_
  refine wm_pI hX fp_RX5_29 dX5_init_40 ?_
  refine wm_aload_n 0 hX dX5_init_43 rfl rfl ?_
  refine wm_iconst (0 : Int32) hX dX5_init_44 (by decide) ?_
  refine wm_pI hX fp_RX5_32 dX5_init_45 ?_
  refine wm_aload_n 0 hX dX5_init_48 rfl rfl ?_
  refine wm_lconst (0 : Int64) hX dX5_init_49 (by decide) ?_
  refine wm_pL hX fp_RX5_35 dX5_init_50 ?_
  refine wm_aload_n 0 hX dX5_init_53 rfl rfl ?_
  refine wm_gR hX fl_RX5_22 dX5_init_54 (fun v5 => ?_)
  refine wm_iconst (0 : Int32) hX dX5_init_57 (by decide) ?_
  refine wm_ldc2 hX dX5_init_58 wd_96 ?_
  refine wm_stL hX dX5_init_61 ?_
  refine wm_aload_n 0 hX dX5_init_62 rfl rfl ?_
  refine wm_gR hX fl_RX5_22 dX5_init_63 (fun v6 => ?_)
  refine wm_iconst (1 : Int32) hX dX5_init_66 (by decide) ?_
  refine wm_lconst (1 : Int64) hX dX5_init_67 (by decide) ?_
  refine wm_stL hX dX5_init_68 ?_
  exact wm_vret hX hr dX5_init_69
theorem i_Sp_init (a0 : Nat) : Im true yX5_init cX5_init 1 none rm_Sp_init injV [.ref a0] (m_Sp_init a0) := Im.of RX5 (by decide) rfl (Nat.le_of_ble_eq_true rfl) (fun X hX hr hn hz => w_Sp_init hX hr hn hz a0)
set_option maxRecDepth 20000 in
theorem w_Lg_init {X : CX Unit} (hX : Cx X RX1 cX1_init 1 rm_Lg_init) (hr : Rt X injV none rm_Lg_init.cells rm_Lg_init.slots) (hn : Nm X "<init>") (hz : Zx X true) (a0 : Nat) : WM X 0 [(0, .ref a0)] [] 0 0 (m_Lg_init a0) := by
  unfold m_Lg_init
  refine wm_aload_n 0 hX dX1_init_0 rfl rfl ?_
  refine wm_obj hX wd_148 wd_63 wd_64 dX1_init_1 ⟨Nat.le_of_ble_eq_true rfl, Nat.le_of_ble_eq_true rfl⟩ ?_
  refine wm_aload_n 0 hX dX1_init_4 rfl rfl ?_
  refine wm_sipush (2100 : Int32) hX dX1_init_5 (by decide) ?_
  refine wm_newL 2100 hX hz wd_89 dX1_init_8 (by decide) (by decide) (by decide) (by decide) (fun v1 hq_v1 => ?_)
  refine wm_fA hX hn ff_RX1_9 dX1_init_10 ?_
  refine wm_aload_n 0 hX dX1_init_13 rfl rfl ?_
  refine wm_sipush (300 : Int32) hX dX1_init_14 (by decide) ?_
  refine wm_newL 300 hX hz wd_89 dX1_init_17 (by decide) (by decide) (by decide) (by decide) (fun v2 hq_v2 => ?_)
  refine wm_fA hX hn ff_RX1_15 dX1_init_19 ?_
  refine wm_aload_n 0 hX dX1_init_22 rfl rfl ?_
  refine wm_iconst (0 : Int32) hX dX1_init_23 (by decide) ?_
  refine wm_pI hX fp_RX1_18 dX1_init_24 ?_
  exact wm_vret hX hr dX1_init_27
theorem i_Lg_init (a0 : Nat) : Im true yX1_init cX1_init 1 none rm_Lg_init injV [.ref a0] (m_Lg_init a0) := Im.of RX1 (by decide) rfl (Nat.le_of_ble_eq_true rfl) (fun X hX hr hn hz => w_Lg_init hX hr hn hz a0)
set_option maxRecDepth 20000 in
theorem w_Sn_init {X : CX Unit} (hX : Cx X RX4 cX4_init 1 rm_Sn_init) (hr : Rt X injV none rm_Sn_init.cells rm_Sn_init.slots) (hn : Nm X "<init>") (hz : Zx X true) (a0 : Nat) : WM X 0 [(0, .ref a0)] [] 0 0 (m_Sn_init a0) := by
  unfold m_Sn_init
  refine wm_aload_n 0 hX dX4_init_0 rfl rfl ?_
  refine wm_obj hX wd_167 wd_63 wd_64 dX4_init_1 ⟨Nat.le_of_ble_eq_true rfl, Nat.le_of_ble_eq_true rfl⟩ ?_
  refine wm_aload_n 0 hX dX4_init_4 rfl rfl ?_
  refine wm_sipush (4400 : Int32) hX dX4_init_5 (by decide) ?_
  refine wm_newL 4400 hX hz wd_89 dX4_init_8 (by decide) (by decide) (by decide) (by decide) (fun v1 hq_v1 => ?_)
  refine wm_fA hX hn ff_RX4_9 dX4_init_10 ?_
  refine wm_aload_n 0 hX dX4_init_13 rfl rfl ?_
  refine wm_sipush (1024 : Int32) hX dX4_init_14 (by decide) ?_
  refine wm_newI 1024 hX hz wd_142 dX4_init_17 (by decide) (by decide) (by decide) (by decide) (fun v2 hq_v2 => ?_)
  refine wm_fA hX hn ff_RX4_15 dX4_init_19 ?_
  refine wm_aload_n 0 hX dX4_init_22 rfl rfl ?_
  refine wm_bipush (11 : Int32) hX dX4_init_23 (by decide) ?_
  refine wm_newL 11 hX hz wd_89 dX4_init_25 (by decide) (by decide) (by decide) (by decide) (fun v3 hq_v3 => ?_)
  refine wm_fA hX hn ff_RX4_19 dX4_init_27 ?_
  refine wm_aload_n 0 hX dX4_init_30 rfl rfl ?_
  refine wm_iconst (0 : Int32) hX dX4_init_31 (by decide) ?_
  refine wm_pI hX fp_RX4_22 dX4_init_32 ?_
  refine wm_aload_n 0 hX dX4_init_35 rfl rfl ?_
  refine wm_iconst (0 : Int32) hX dX4_init_36 (by decide) ?_
  refine wm_pI hX fp_RX4_26 dX4_init_37 ?_
  refine wm_aload_n 0 hX dX4_init_40 rfl rfl ?_
  refine wm_iconst (0 : Int32) hX dX4_init_41 (by decide) ?_
  refine wm_pI hX fp_RX4_29 dX4_init_42 ?_
  exact wm_vret hX hr dX4_init_45
theorem i_Sn_init (a0 : Nat) : Im true yX4_init cX4_init 1 none rm_Sn_init injV [.ref a0] (m_Sn_init a0) := Im.of RX4 (by decide) rfl (Nat.le_of_ble_eq_true rfl) (fun X hX hr hn hz => w_Sn_init hX hr hn hz a0)
set_option maxRecDepth 20000 in
theorem w_Hd_init {X : CX Unit} (hX : Cx X RX0 cX0_init 3 rm_Hd_init) (hr : Rt X injV none rm_Hd_init.cells rm_Hd_init.slots) (hn : Nm X "<init>") (hz : Zx X true) (a0 : Nat) (a1 : Nat) (a2 : Nat) : WM X 0 [(0, .ref a0), (1, .ref a1), (2, .ref a2)] [] 0 0 (m_Hd_init a0 a1 a2) := by
  unfold m_Hd_init
  refine wm_aload_n 0 hX dX0_init_0 rfl rfl ?_
  refine wm_obj hX wd_193 wd_63 wd_64 dX0_init_1 ⟨Nat.le_of_ble_eq_true rfl, Nat.le_of_ble_eq_true rfl⟩ ?_
  refine wm_aload_n 0 hX dX0_init_4 rfl rfl ?_
  refine wm_sipush (400 : Int32) hX dX0_init_5 (by decide) ?_
  refine wm_newL 400 hX hz wd_89 dX0_init_8 (by decide) (by decide) (by decide) (by decide) (fun v1 hq_v1 => ?_)
  refine wm_fA hX hn ff_RX0_9 dX0_init_10 ?_
  refine wm_aload_n 0 hX dX0_init_13 rfl rfl ?_
  refine wm_iconst (0 : Int32) hX dX0_init_14 (by decide) ?_
  refine wm_pI hX fp_RX0_15 dX0_init_15 ?_
  refine wm_aload_n 0 hX dX0_init_18 rfl rfl ?_
  refine wm_iconst (0 : Int32) hX dX0_init_19 (by decide) ?_
  refine wm_pI hX fp_RX0_19 dX0_init_20 ?_
  refine wm_aload_n 0 hX dX0_init_23 rfl rfl ?_
  refine wm_lconst (0 : Int64) hX dX0_init_24 (by decide) ?_
  refine wm_pL hX fp_RX0_22 dX0_init_25 ?_
  refine wm_aload_n 0 hX dX0_init_28 rfl rfl ?_
  refine wm_aload_n 1 hX dX0_init_29 rfl rfl ?_
  refine wm_fR hX hn ff_RX0_26 dX0_init_30 ?_
  refine wm_aload_n 0 hX dX0_init_33 rfl rfl ?_
  refine wm_aload_n 2 hX dX0_init_34 rfl rfl ?_
  refine wm_fR hX hn ff_RX0_30 dX0_init_35 ?_
  exact wm_vret hX hr dX0_init_38
theorem i_Hd_init (a0 : Nat) (a1 : Nat) (a2 : Nat) : Im true yX0_init cX0_init 3 none rm_Hd_init injV [.ref a0, .ref a1, .ref a2] (m_Hd_init a0 a1 a2) := Im.of RX0 (by decide) rfl (Nat.le_of_ble_eq_true rfl) (fun X hX hr hn hz => w_Hd_init hX hr hn hz a0 a1 a2)
set_option maxRecDepth 20000 in
theorem w_Rc_init {X : CX Unit} (hX : Cx X RX2 cX2_init 3 rm_Rc_init) (hr : Rt X injV none rm_Rc_init.cells rm_Rc_init.slots) (hn : Nm X "<init>") (hz : Zx X true) (a0 : Nat) (a1 : Nat) (a2 : Nat) : WM X 0 [(0, .ref a0), (1, .ref a1), (2, .ref a2)] [] 0 0 (m_Rc_init a0 a1 a2) := by
  unfold m_Rc_init
  refine wm_aload_n 0 hX dX2_init_0 rfl rfl ?_
  refine wm_obj hX wd_221 wd_63 wd_64 dX2_init_1 ⟨Nat.le_of_ble_eq_true rfl, Nat.le_of_ble_eq_true rfl⟩ ?_
  refine wm_aload_n 0 hX dX2_init_4 rfl rfl ?_
  refine wm_sipush (500 : Int32) hX dX2_init_5 (by decide) ?_
  refine wm_newI 500 hX hz wd_142 dX2_init_8 (by decide) (by decide) (by decide) (by decide) (fun v1 hq_v1 => ?_)
  refine wm_fA hX hn ff_RX2_9 dX2_init_10 ?_
  refine wm_aload_n 0 hX dX2_init_13 rfl rfl ?_
  refine wm_sipush (500 : Int32) hX dX2_init_14 (by decide) ?_
  refine wm_newL 500 hX hz wd_89 dX2_init_17 (by decide) (by decide) (by decide) (by decide) (fun v2 hq_v2 => ?_)
  refine wm_fA hX hn ff_RX2_15 dX2_init_19 ?_
  refine wm_aload_n 0 hX dX2_init_22 rfl rfl ?_
  refine wm_sipush (500 : Int32) hX dX2_init_23 (by decide) ?_
  refine wm_newL 500 hX hz wd_89 dX2_init_26 (by decide) (by decide) (by decide) (by decide) (fun v3 hq_v3 => ?_)
  refine wm_fA hX hn ff_RX2_19 dX2_init_28 ?_
  refine wm_aload_n 0 hX dX2_init_31 rfl rfl ?_
  refine wm_iconst (0 : Int32) hX dX2_init_32 (by decide) ?_
  refine wm_pI hX fp_RX2_22 dX2_init_33 ?_
  refine wm_aload_n 0 hX dX2_init_36 rfl rfl ?_
  refine wm_aload_n 1 hX dX2_init_37 rfl rfl ?_
  refine wm_fR hX hn ff_RX2_26 dX2_init_38 ?_
  refine wm_aload_n 0 hX dX2_init_41 rfl rfl ?_
  refine wm_aload_n 2 hX dX2_init_42 rfl rfl ?_
  refine wm_fR hX hn ff_RX2_30 dX2_init_43 ?_
  exact wm_vret hX hr dX2_init_46
theorem i_Rc_init (a0 : Nat) (a1 : Nat) (a2 : Nat) : Im true yX2_init cX2_init 3 none rm_Rc_init injV [.ref a0, .ref a1, .ref a2] (m_Rc_init a0 a1 a2) := Im.of RX2 (by decide) rfl (Nat.le_of_ble_eq_true rfl) (fun X hX hr hn hz => w_Rc_init hX hr hn hz a0 a1 a2)
set_option maxRecDepth 20000 in
theorem w_Tw_init {X : CX Unit} (hX : Cx X RX6 cX6_init 2 rm_Tw_init) (hr : Rt X injV none rm_Tw_init.cells rm_Tw_init.slots) (hn : Nm X "<init>") (hz : Zx X true) (a0 : Nat) (a1 : Nat) : WM X 0 [(0, .ref a0), (1, .ref a1)] [] 0 0 (m_Tw_init a0 a1) := by
  unfold m_Tw_init
  refine wm_aload_n 0 hX dX6_init_0 rfl rfl ?_
  refine wm_obj hX wd_255 wd_63 wd_64 dX6_init_1 ⟨Nat.le_of_ble_eq_true rfl, Nat.le_of_ble_eq_true rfl⟩ ?_
  refine wm_aload_n 0 hX dX6_init_4 rfl rfl ?_
  refine wm_bipush (30 : Int32) hX dX6_init_5 (by decide) ?_
  refine wm_newL 30 hX hz wd_89 dX6_init_7 (by decide) (by decide) (by decide) (by decide) (fun v1 hq_v1 => ?_)
  refine wm_fA hX hn ff_RX6_9 dX6_init_9 ?_
  refine wm_aload_n 0 hX dX6_init_12 rfl rfl ?_
  refine wm_bipush (15 : Int32) hX dX6_init_13 (by decide) ?_
  refine wm_newI 15 hX hz wd_142 dX6_init_15 (by decide) (by decide) (by decide) (by decide) (fun v2 hq_v2 => ?_)
  refine wm_fA hX hn ff_RX6_15 dX6_init_17 ?_
  refine wm_aload_n 0 hX dX6_init_20 rfl rfl ?_
  refine wm_iconst (0 : Int32) hX dX6_init_21 (by decide) ?_
  refine wm_pI hX fp_RX6_19 dX6_init_22 ?_
  refine wm_aload_n 0 hX dX6_init_25 rfl rfl ?_
  refine wm_lconst (0 : Int64) hX dX6_init_26 (by decide) ?_
  refine wm_pL hX fp_RX6_23 dX6_init_27 ?_
  refine wm_aload_n 0 hX dX6_init_30 rfl rfl ?_
  refine wm_iconst (0 : Int32) hX dX6_init_31 (by decide) ?_
  refine wm_pI hX fp_RX6_27 dX6_init_32 ?_
  refine wm_aload_n 0 hX dX6_init_35 rfl rfl ?_
  refine wm_aload_n 1 hX dX6_init_36 rfl rfl ?_
  refine wm_fR hX hn ff_RX6_30 dX6_init_37 ?_
  exact wm_vret hX hr dX6_init_40
theorem i_Tw_init (a0 : Nat) (a1 : Nat) : Im true yX6_init cX6_init 2 none rm_Tw_init injV [.ref a0, .ref a1] (m_Tw_init a0 a1) := Im.of RX6 (by decide) rfl (Nat.le_of_ble_eq_true rfl) (fun X hX hr hn hz => w_Tw_init hX hr hn hz a0 a1)
set_option maxRecDepth 20000 in
theorem w_Md_init {X : CX Unit} (hX : Cx X RX9 cX9_init 1 rm_Md_init) (hr : Rt X injV none rm_Md_init.cells rm_Md_init.slots) (hn : Nm X "<init>") (hz : Zx X true) (a0 : Nat) : WM X 0 [(0, .ref a0)] [] 0 0 (m_Md_init a0) := by
  unfold m_Md_init
  refine wm_aload_n 0 hX dX9_init_0 rfl rfl ?_
  refine wm_obj hX wd_764 wd_63 wd_64 dX9_init_1 ⟨Nat.le_of_ble_eq_true rfl, Nat.le_of_ble_eq_true rfl⟩ ?_
  refine wm_aload_n 0 hX dX9_init_4 rfl rfl ?_
  refine wm_bipush (6 : Int32) hX dX9_init_5 (by decide) ?_
  refine wm_newZ 6 hX hz wd_887 dX9_init_7 (by decide) (by decide) (by decide) (by decide) (fun v1 hq_v1 => ?_)
  refine wm_fA hX hn ff_RX9_7 dX9_init_9 ?_
  refine wm_aload_n 0 hX dX9_init_12 rfl rfl ?_
  refine wm_bipush (6 : Int32) hX dX9_init_13 (by decide) ?_
  refine wm_newI 6 hX hz wd_142 dX9_init_15 (by decide) (by decide) (by decide) (by decide) (fun v2 hq_v2 => ?_)
  refine wm_fA hX hn ff_RX9_13 dX9_init_17 ?_
  refine wm_aload_n 0 hX dX9_init_20 rfl rfl ?_
  refine wm_bipush (6 : Int32) hX dX9_init_21 (by decide) ?_
  refine wm_newI 6 hX hz wd_142 dX9_init_23 (by decide) (by decide) (by decide) (by decide) (fun v3 hq_v3 => ?_)
  refine wm_fA hX hn ff_RX9_17 dX9_init_25 ?_
  refine wm_aload_n 0 hX dX9_init_28 rfl rfl ?_
  refine wm_sipush (360 : Int32) hX dX9_init_29 (by decide) ?_
  refine wm_newL 360 hX hz wd_89 dX9_init_32 (by decide) (by decide) (by decide) (by decide) (fun v4 hq_v4 => ?_)
  refine wm_fA hX hn ff_RX9_20 dX9_init_34 ?_
  refine wm_aload_n 0 hX dX9_init_37 rfl rfl ?_
  refine wm_bipush (60 : Int32) hX dX9_init_38 (by decide) ?_
  refine wm_newL 60 hX hz wd_89 dX9_init_40 (by decide) (by decide) (by decide) (by decide) (fun v5 hq_v5 => ?_)
  refine wm_fA hX hn ff_RX9_24 dX9_init_42 ?_
  refine wm_aload_n 0 hX dX9_init_45 rfl rfl ?_
  refine wm_iconst (5 : Int32) hX dX9_init_46 (by decide) ?_
  refine wm_newI 5 hX hz wd_142 dX9_init_47 (by decide) (by decide) (by decide) (by decide) (fun v6 hq_v6 => ?_)
  refine wm_fA hX hn ff_RX9_27 dX9_init_49 ?_
  refine wm_aload_n 0 hX dX9_init_52 rfl rfl ?_
  refine wm_iconst (5 : Int32) hX dX9_init_53 (by decide) ?_
  refine wm_newL 5 hX hz wd_89 dX9_init_54 (by decide) (by decide) (by decide) (by decide) (fun v7 hq_v7 => ?_)
  refine wm_fA hX hn ff_RX9_30 dX9_init_56 ?_
  refine wm_aload_n 0 hX dX9_init_59 rfl rfl ?_
  refine wm_iconst (5 : Int32) hX dX9_init_60 (by decide) ?_
  refine wm_newI 5 hX hz wd_142 dX9_init_61 (by decide) (by decide) (by decide) (by decide) (fun v8 hq_v8 => ?_)
  refine wm_fA hX hn ff_RX9_33 dX9_init_63 ?_
  refine wm_aload_n 0 hX dX9_init_66 rfl rfl ?_
  refine wm_bipush (16 : Int32) hX dX9_init_67 (by decide) ?_
  refine wm_newL 16 hX hz wd_89 dX9_init_69 (by decide) (by decide) (by decide) (by decide) (fun v9 hq_v9 => ?_)
  refine wm_fA hX hn ff_RX9_36 dX9_init_71 ?_
  refine wm_aload_n 0 hX dX9_init_74 rfl rfl ?_
  refine wm_bipush (30 : Int32) hX dX9_init_75 (by decide) ?_
  refine wm_newL 30 hX hz wd_89 dX9_init_77 (by decide) (by decide) (by decide) (by decide) (fun v10 hq_v10 => ?_)
  refine wm_fA hX hn ff_RX9_39 dX9_init_79 ?_
  refine wm_aload_n 0 hX dX9_init_82 rfl rfl ?_
  refine wm_sipush (300 : Int32) hX dX9_init_83 (by decide) ?_
  refine wm_newL 300 hX hz wd_89 dX9_init_86 (by decide) (by decide) (by decide) (by decide) (fun v11 hq_v11 => ?_)
  refine wm_fA hX hn ff_RX9_42 dX9_init_88 ?_
  refine wm_aload_n 0 hX dX9_init_91 rfl rfl ?_
  refine wm_sipush (2100 : Int32) hX dX9_init_92 (by decide) ?_
  refine wm_newL 2100 hX hz wd_89 dX9_init_95 (by decide) (by decide) (by decide) (by decide) (fun v12 hq_v12 => ?_)
  refine wm_fA hX hn ff_RX9_45 dX9_init_97 ?_
  refine wm_aload_n 0 hX dX9_init_100 rfl rfl ?_
  refine wm_bipush (40 : Int32) hX dX9_init_101 (by decide) ?_
  refine wm_newI 40 hX hz wd_142 dX9_init_103 (by decide) (by decide) (by decide) (by decide) (fun v13 hq_v13 => ?_)
  refine wm_fA hX hn ff_RX9_48 dX9_init_105 ?_
  refine wm_aload_n 0 hX dX9_init_108 rfl rfl ?_
  refine wm_bipush (30 : Int32) hX dX9_init_109 (by decide) ?_
  refine wm_newL 30 hX hz wd_89 dX9_init_111 (by decide) (by decide) (by decide) (by decide) (fun v14 hq_v14 => ?_)
  refine wm_fA hX hn ff_RX9_51 dX9_init_113 ?_
  refine wm_aload_n 0 hX dX9_init_116 rfl rfl ?_
  refine wm_bipush (40 : Int32) hX dX9_init_117 (by decide) ?_
  refine wm_newI 40 hX hz wd_142 dX9_init_119 (by decide) (by decide) (by decide) (by decide) (fun v15 hq_v15 => ?_)
  refine wm_fA hX hn ff_RX9_54 dX9_init_121 ?_
  refine wm_aload_n 0 hX dX9_init_124 rfl rfl ?_
  refine wm_bipush (8 : Int32) hX dX9_init_125 (by decide) ?_
  refine wm_newI 8 hX hz wd_142 dX9_init_127 (by decide) (by decide) (by decide) (by decide) (fun v16 hq_v16 => ?_)
  refine wm_fA hX hn ff_RX9_57 dX9_init_129 ?_
  refine wm_aload_n 0 hX dX9_init_132 rfl rfl ?_
  refine wm_iconst (5 : Int32) hX dX9_init_133 (by decide) ?_
  refine wm_newL 5 hX hz wd_89 dX9_init_134 (by decide) (by decide) (by decide) (by decide) (fun v17 hq_v17 => ?_)
  refine wm_fA hX hn ff_RX9_60 dX9_init_136 ?_
  refine wm_aload_n 0 hX dX9_init_139 rfl rfl ?_
  refine wm_sipush (4812 : Int32) hX dX9_init_140 (by decide) ?_
  refine wm_newL 4812 hX hz wd_89 dX9_init_143 (by decide) (by decide) (by decide) (by decide) (fun v18 hq_v18 => ?_)
  refine wm_fA hX hn ff_RX9_63 dX9_init_145 ?_
  refine wm_aload_n 0 hX dX9_init_148 rfl rfl ?_
  refine wm_iconst (3 : Int32) hX dX9_init_149 (by decide) ?_
  refine wm_newL 3 hX hz wd_89 dX9_init_150 (by decide) (by decide) (by decide) (by decide) (fun v19 hq_v19 => ?_)
  refine wm_fA hX hn ff_RX9_66 dX9_init_152 ?_
  refine wm_aload_n 0 hX dX9_init_155 rfl rfl ?_
  refine wm_sipush (500 : Int32) hX dX9_init_156 (by decide) ?_
  refine wm_newL 500 hX hz wd_89 dX9_init_159 (by decide) (by decide) (by decide) (by decide) (fun v20 hq_v20 => ?_)
  refine wm_fA hX hn ff_RX9_69 dX9_init_161 ?_
  refine wm_aload_n 0 hX dX9_init_164 rfl rfl ?_
  refine wm_sipush (500 : Int32) hX dX9_init_165 (by decide) ?_
  refine wm_newL 500 hX hz wd_89 dX9_init_168 (by decide) (by decide) (by decide) (by decide) (fun v21 hq_v21 => ?_)
  refine wm_fA hX hn ff_RX9_72 dX9_init_170 ?_
  refine wm_aload_n 0 hX dX9_init_173 rfl rfl ?_
  refine wm_sipush (500 : Int32) hX dX9_init_174 (by decide) ?_
  refine wm_newI 500 hX hz wd_142 dX9_init_177 (by decide) (by decide) (by decide) (by decide) (fun v22 hq_v22 => ?_)
  refine wm_fA hX hn ff_RX9_75 dX9_init_179 ?_
  refine wm_aload_n 0 hX dX9_init_182 rfl rfl ?_
  refine wm_sipush (500 : Int32) hX dX9_init_183 (by decide) ?_
  refine wm_newL 500 hX hz wd_89 dX9_init_186 (by decide) (by decide) (by decide) (by decide) (fun v23 hq_v23 => ?_)
  refine wm_fA hX hn ff_RX9_78 dX9_init_188 ?_
  refine wm_aload_n 0 hX dX9_init_191 rfl rfl ?_
  refine wm_sipush (501 : Int32) hX dX9_init_192 (by decide) ?_
  refine wm_newL 501 hX hz wd_89 dX9_init_195 (by decide) (by decide) (by decide) (by decide) (fun v24 hq_v24 => ?_)
  refine wm_fA hX hn ff_RX9_81 dX9_init_197 ?_
  refine wm_aload_n 0 hX dX9_init_200 rfl rfl ?_
  refine wm_bipush (12 : Int32) hX dX9_init_201 (by decide) ?_
  refine wm_newL 12 hX hz wd_89 dX9_init_203 (by decide) (by decide) (by decide) (by decide) (fun v25 hq_v25 => ?_)
  refine wm_fA hX hn ff_RX9_84 dX9_init_205 ?_
  refine wm_aload_n 0 hX dX9_init_208 rfl rfl ?_
  refine wm_iconst (2 : Int32) hX dX9_init_209 (by decide) ?_
  refine wm_pI hX fp_RX9_87 dX9_init_210 ?_
  refine wm_aload_n 0 hX dX9_init_213 rfl rfl ?_
  refine wm_gR hX fl_RX9_36 dX9_init_214 (fun v26 => ?_)
  refine wm_iconst (0 : Int32) hX dX9_init_217 (by decide) ?_
  refine wm_ldc2 hX dX9_init_218 wd_765 ?_
  refine wm_stL hX dX9_init_221 ?_
  refine wm_aload_n 0 hX dX9_init_222 rfl rfl ?_
  refine wm_gR hX fl_RX9_36 dX9_init_223 (fun v27 => ?_)
  refine wm_iconst (1 : Int32) hX dX9_init_226 (by decide) ?_
  refine wm_lconst (1 : Int64) hX dX9_init_227 (by decide) ?_
  refine wm_stL hX dX9_init_228 ?_
  exact wm_vret hX hr dX9_init_229
theorem i_Md_init (a0 : Nat) : Im true yX9_init cX9_init 1 none rm_Md_init injV [.ref a0] (m_Md_init a0) := Im.of RX9 (by decide) rfl (Nat.le_of_ble_eq_true rfl) (fun X hX hr hn hz => w_Md_init hX hr hn hz a0)
set_option maxRecDepth 20000 in
theorem w_Ob_isReel {X : CX Int32} (hX : Cx X RX8 cX8_isReel 1 rm_Ob_isReel) (hr : Rt X injI (some .boolean) rm_Ob_isReel.cells rm_Ob_isReel.slots) (hz : Zx X false) (i0 : Int32) : WM X 0 [(0, .int i0)] [] 0 0 (m_Ob_isReel i0) := by
  unfold m_Ob_isReel
  refine wm_iload_n 0 hX dX8_isReel_0 rfl rfl ?_
  refine wm_if_lt 14 hX dX8_isReel_1 (by decide) ?_ ?_
  · refine wm_iconst (0 : Int32) hX dX8_isReel_14 (by decide) ?_
    exact wm_zret hX hr dX8_isReel_15
  · refine wm_iload_n 0 hX dX8_isReel_4 rfl rfl ?_
    refine wm_bipush (6 : Int32) hX dX8_isReel_5 (by decide) ?_
    refine wm_icmp_ge 14 hX dX8_isReel_7 (by decide) ?_ ?_
    · refine wm_iconst (0 : Int32) hX dX8_isReel_14 (by decide) ?_
      exact wm_zret hX hr dX8_isReel_15
    · refine wm_iconst (1 : Int32) hX dX8_isReel_10 (by decide) ?_
      refine wm_goto (tgt := 15) hX dX8_isReel_11 (by decide) ?_
      exact wm_zret hX hr dX8_isReel_15
theorem i_Ob_isReel (i0 : Int32) : Im false yX8_isReel cX8_isReel 1 (some .boolean) rm_Ob_isReel injI [.int i0] (m_Ob_isReel i0) := Im.of RX8 (by decide) rfl (Nat.le_of_ble_eq_true rfl) (fun X hX hr hn hz => w_Ob_isReel hX hr hz i0)
set_option maxRecDepth 20000 in
theorem w_Ob_isForm {X : CX Int32} (hX : Cx X RX8 cX8_isForm 1 rm_Ob_isForm) (hr : Rt X injI (some .boolean) rm_Ob_isForm.cells rm_Ob_isForm.slots) (hz : Zx X false) (i0 : Int32) : WM X 0 [(0, .int i0)] [] 0 0 (m_Ob_isForm i0) := by
  unfold m_Ob_isForm
  refine wm_iload_n 0 hX dX8_isForm_0 rfl rfl ?_
  refine wm_if_lt 14 hX dX8_isForm_1 (by decide) ?_ ?_
  · refine wm_iconst (0 : Int32) hX dX8_isForm_14 (by decide) ?_
    exact wm_zret hX hr dX8_isForm_15
  · refine wm_iload_n 0 hX dX8_isForm_4 rfl rfl ?_
    refine wm_bipush (6 : Int32) hX dX8_isForm_5 (by decide) ?_
    refine wm_icmp_ge 14 hX dX8_isForm_7 (by decide) ?_ ?_
    · refine wm_iconst (0 : Int32) hX dX8_isForm_14 (by decide) ?_
      exact wm_zret hX hr dX8_isForm_15
    · refine wm_iconst (1 : Int32) hX dX8_isForm_10 (by decide) ?_
      refine wm_goto (tgt := 15) hX dX8_isForm_11 (by decide) ?_
      exact wm_zret hX hr dX8_isForm_15
theorem i_Ob_isForm (i0 : Int32) : Im false yX8_isForm cX8_isForm 1 (some .boolean) rm_Ob_isForm injI [.int i0] (m_Ob_isForm i0) := Im.of RX8 (by decide) rfl (Nat.le_of_ble_eq_true rfl) (fun X hX hr hn hz => w_Ob_isForm hX hr hz i0)
set_option maxRecDepth 20000 in
theorem w_Ob_found {X : CX Int32} (hX : Cx X RX8 cX8_found 2 rm_Ob_found) (hr : Rt X injI (some .int) rm_Ob_found.cells rm_Ob_found.slots) (hz : Zx X false) (a0 : Nat) (i1 : Int32) : WM X 0 [(0, .ref a0), (1, .int i1)] [] 0 0 (m_Ob_found a0 i1) := by
  unfold m_Ob_found
  refine wm_ckd ?_
  refine wm_aload_n 0 hX dX8_found_0 rfl rfl ?_
  refine wm_iload_n 1 hX dX8_found_1 rfl rfl ?_
  refine wm_pI hX fp_RX8_72 dX8_found_2 ?_
  refine wm_bipush (-10 : Int32) hX dX8_found_5 (by decide) ?_
  refine wm_iload_n 1 hX dX8_found_7 rfl rfl ?_
  refine wm_isub hX dX8_found_8 ?_
  exact wm_iret hX hr dX8_found_9
theorem i_Ob_found (a0 : Nat) (i1 : Int32) : Im false yX8_found cX8_found 2 (some .int) rm_Ob_found injI [.ref a0, .int i1] (m_Ob_found a0 i1) := Im.of RX8 (by decide) rfl (Nat.le_of_ble_eq_true rfl) (fun X hX hr hn hz => w_Ob_found hX hr hz a0 i1)
set_option maxRecDepth 20000 in
theorem wb_J7_fill_d0a16_6 {X : CX Unit} (hX : Cx X RJ7 cJ7_fill_d0a16 5 rm_J7_fill_d0a16) (hr : Rt X injV none rm_J7_fill_d0a16.cells rm_J7_fill_d0a16.slots) (hz : Zx X false) {k6 : Nat → Int64 → Int32 → Int32 → M Unit} (h6 : ∀ (a0 : Nat) (l1 : Int64) (i3 : Int32) (i4 : Int32), WM X 6 [(0, .ref a0), (1, .long l1), (3, .int i3), (4, .int i4)] [] 0 0 (k6 a0 l1 i3 i4)) (a0 : Nat) (l1 : Int64) (i3 : Int32) (i4 : Int32) : WM X 6 [(0, .ref a0), (1, .long l1), (3, .int i3), (4, .int i4)] [] 0 0 (b_J7_fill_d0a16_6 k6 a0 l1 i3 i4) := by
  unfold b_J7_fill_d0a16_6
  refine wm_iload_n 2 hX dJ7_fill_d0a16_6 rfl rfl ?_
  refine wm_iload 3 hX dJ7_fill_d0a16_7 rfl ?_
  refine wm_icmp_ge 22 hX dJ7_fill_d0a16_9 (by decide) ?_ ?_
  · exact wm_vret hX hr dJ7_fill_d0a16_22
  · refine wm_aload_n 0 hX dJ7_fill_d0a16_12 rfl rfl ?_
    refine wm_iload_n 2 hX dJ7_fill_d0a16_13 rfl rfl ?_
    refine wm_lload_n 1 hX dJ7_fill_d0a16_14 rfl rfl ?_
    refine wm_stL hX dJ7_fill_d0a16_15 ?_
    refine wm_iinc (i3 + 1) 2 [(3, .int (i3 + 1)), (0, .ref a0), (1, .long l1), (4, .int i4)] hX dJ7_fill_d0a16_16 rfl rfl (by decide) rfl ?_
    refine wm_goto (tgt := 6) hX dJ7_fill_d0a16_19 (by decide) ?_
    refine wm_sub [1, 2, 0, 3] [(0, .ref a0), (1, .long l1), (3, .int (i3 + 1)), (4, .int i4)] rfl ?_
    exact h6 a0 l1 (i3 + 1) i4
theorem wl_J7_fill_d0a16_6 {X : CX Unit} (hX : Cx X RJ7 cJ7_fill_d0a16 5 rm_J7_fill_d0a16) (hr : Rt X injV none rm_J7_fill_d0a16.cells rm_J7_fill_d0a16.slots) (hz : Zx X false) : ∀ (n : Nat) (a0 : Nat) (l1 : Int64) (i3 : Int32) (i4 : Int32), WM X 6 [(0, .ref a0), (1, .long l1), (3, .int i3), (4, .int i4)] [] 0 0 (l_J7_fill_d0a16_6 n a0 l1 i3 i4)
  | 0, _, _, _, _ => wm_fl
  | n + 1, a0, l1, i3, i4 => wb_J7_fill_d0a16_6 hX hr hz (wl_J7_fill_d0a16_6 hX hr hz n) a0 l1 i3 i4
set_option maxRecDepth 20000 in
theorem w_J7_fill_d0a16 {X : CX Unit} (hX : Cx X RJ7 cJ7_fill_d0a16 5 rm_J7_fill_d0a16) (hr : Rt X injV none rm_J7_fill_d0a16.cells rm_J7_fill_d0a16.slots) (hz : Zx X false) (a0 : Nat) (l1 : Int64) : WM X 0 [(0, .ref a0), (1, .long l1)] [] 0 0 (m_J7_fill_d0a16 a0 l1) := by
  unfold m_J7_fill_d0a16
  refine wm_iconst (0 : Int32) hX dJ7_fill_d0a16_0 (by decide) ?_
  refine wm_istore_n [(3, .int (0 : Int32)), (0, .ref a0), (1, .long l1)] hX dJ7_fill_d0a16_1 rfl (by decide) rfl ?_
  refine wm_aload_n 1 hX dJ7_fill_d0a16_2 rfl rfl ?_
  refine wm_alen (fun _ => rfl) hX dJ7_fill_d0a16_3 (fun v1 => ?_)
  refine wm_istore [(4, .int v1), (3, .int (0 : Int32)), (0, .ref a0), (1, .long l1)] hX dJ7_fill_d0a16_4 (by decide) rfl ?_
  refine wm_sub [2, 3, 1, 0] [(0, .ref a0), (1, .long l1), (3, .int (0 : Int32)), (4, .int v1)] rfl ?_
  exact wl_J7_fill_d0a16_6 hX hr hz FU a0 l1 (0 : Int32) v1
theorem i_J7_fill_d0a16 (a0 : Nat) (l1 : Int64) : Im false yJ7_fill_d0a16 cJ7_fill_d0a16 5 none rm_J7_fill_d0a16 injV [.ref a0, .long l1] (m_J7_fill_d0a16 a0 l1) := Im.of RJ7 (by decide) rfl (Nat.le_of_ble_eq_true rfl) (fun X hX hr hn hz => w_J7_fill_d0a16 hX hr hz a0 l1)
set_option maxRecDepth 20000 in
theorem w_Rl_renew {X : CX Unit} (hX : Cx X RX3 cX3_renew 3 rm_Rl_renew) (hr : Rt X injV none rm_Rl_renew.cells rm_Rl_renew.slots) (hz : Zx X false) (a0 : Nat) (i1 : Int32) (i2 : Int32) : WM X 0 [(0, .ref a0), (1, .int i1), (2, .int i2)] [] 0 0 (m_Rl_renew a0 i1 i2) := by
  unfold m_Rl_renew
  refine wm_ckd ?_
  refine wm_aload_n 0 hX dX3_renew_0 rfl rfl ?_
  refine wm_iconst (0 : Int32) hX dX3_renew_1 (by decide) ?_
  refine wm_pZ hX fp_RX3_15 dX3_renew_2 ?_
  refine wm_aload_n 0 hX dX3_renew_5 rfl rfl ?_
  refine wm_iload_n 1 hX dX3_renew_6 rfl rfl ?_
  refine wm_pI hX fp_RX3_19 dX3_renew_7 ?_
  refine wm_aload_n 0 hX dX3_renew_10 rfl rfl ?_
  refine wm_iload_n 2 hX dX3_renew_11 rfl rfl ?_
  refine wm_pI hX fp_RX3_23 dX3_renew_12 ?_
  refine wm_aload_n 0 hX dX3_renew_15 rfl rfl ?_
  refine wm_gR hX fl_RX3_9 dX3_renew_16 (fun v1 => ?_)
  refine wm_lconst (0 : Int64) hX dX3_renew_19 (by decide) ?_
  refine wm_cSv (st := []) hX hz (i_J7_fill_d0a16 v1 (0 : Int64)) cal_J7_fill_d0a16 wd_367 rfl (fits_Rl_renew_J7_fill_d0a16) (Nat.le_of_ble_eq_true rfl) dX3_renew_20 ?_
  exact wm_vret hX hr dX3_renew_23
theorem i_Rl_renew (a0 : Nat) (i1 : Int32) (i2 : Int32) : Im false yX3_renew cX3_renew 3 none rm_Rl_renew injV [.ref a0, .int i1, .int i2] (m_Rl_renew a0 i1 i2) := Im.of RX3 (by decide) rfl (Nat.le_of_ble_eq_true rfl) (fun X hX hr hn hz => w_Rl_renew hX hr hz a0 i1 i2)
set_option maxRecDepth 20000 in
theorem w_Ob_reel {X : CX Int32} (hX : Cx X RX8 cX8_reel 4 rm_Ob_reel) (hr : Rt X injI (some .int) rm_Ob_reel.cells rm_Ob_reel.slots) (hz : Zx X false) (a0 : Nat) (i1 : Int32) (i2 : Int32) (i3 : Int32) : WM X 0 [(0, .ref a0), (1, .int i1), (2, .int i2), (3, .int i3)] [] 0 0 (m_Ob_reel a0 i1 i2 i3) := by
  unfold m_Ob_reel
  refine wm_ckd ?_
  refine wm_iload_n 1 hX dX8_reel_0 rfl rfl ?_
  refine wm_cSi (st := []) hX hz (i_Ob_isReel i1) cal_Ob_isReel wd_353 rfl (fits_Ob_reel_Ob_isReel) (Nat.le_of_ble_eq_true rfl) dX8_reel_1 (fun v1 => ?_)
  refine wm_if_eq 20 hX dX8_reel_4 (by decide) ?_ ?_
  · refine wm_bipush (-2 : Int32) hX dX8_reel_20 (by decide) ?_
    exact wm_iret hX hr dX8_reel_22
  · refine wm_iload_n 2 hX dX8_reel_7 rfl rfl ?_
    refine wm_cSi (st := []) hX hz (i_Ob_isForm i2) cal_Ob_isForm wd_356 rfl (fits_Ob_reel_Ob_isForm) (Nat.le_of_ble_eq_true rfl) dX8_reel_8 (fun v2 => ?_)
    refine wm_if_eq 20 hX dX8_reel_11 (by decide) ?_ ?_
    · refine wm_bipush (-2 : Int32) hX dX8_reel_20 (by decide) ?_
      exact wm_iret hX hr dX8_reel_22
    · refine wm_iload_n 3 hX dX8_reel_14 rfl rfl ?_
      refine wm_bipush (60 : Int32) hX dX8_reel_15 (by decide) ?_
      refine wm_icmp_le 23 hX dX8_reel_17 (by decide) ?_ ?_
      · refine wm_iload_n 3 hX dX8_reel_23 rfl rfl ?_
        refine wm_if_ge 33 hX dX8_reel_24 (by decide) ?_ ?_
        · refine wm_aload_n 0 hX dX8_reel_33 rfl rfl ?_
          refine wm_gR hX fl_RX8_11 dX8_reel_34 (fun v3 => ?_)
          refine wm_iload_n 1 hX dX8_reel_37 rfl rfl ?_
          refine wm_ldR (by decide) hX dX8_reel_38 (fun v4 => ?_)
          refine wm_iload_n 2 hX dX8_reel_39 rfl rfl ?_
          refine wm_iload_n 3 hX dX8_reel_40 rfl rfl ?_
          refine wm_cVv (st := []) hX hz (i_Rl_renew v4 i2 i3) Ckd.of rfl cal_Rl_renew wd_363 rfl (fits_Ob_reel_Rl_renew) (Nat.le_of_ble_eq_true rfl) dX8_reel_41 ?_
          refine wm_iload_n 3 hX dX8_reel_44 rfl rfl ?_
          exact wm_iret hX hr dX8_reel_45
        · refine wm_aload_n 0 hX dX8_reel_27 rfl rfl ?_
          refine wm_iconst (5 : Int32) hX dX8_reel_28 (by decide) ?_
          refine wm_cVi (st := []) hX hz (i_Ob_found a0 (5 : Int32)) Ckd.of rfl cal_Ob_found wd_359 rfl (fits_Ob_reel_Ob_found) (Nat.le_of_ble_eq_true rfl) dX8_reel_29 (fun v5 => ?_)
          exact wm_iret hX hr dX8_reel_32
      · refine wm_bipush (-2 : Int32) hX dX8_reel_20 (by decide) ?_
        exact wm_iret hX hr dX8_reel_22
theorem i_Ob_reel (a0 : Nat) (i1 : Int32) (i2 : Int32) (i3 : Int32) : Im false yX8_reel cX8_reel 4 (some .int) rm_Ob_reel injI [.ref a0, .int i1, .int i2, .int i3] (m_Ob_reel a0 i1 i2 i3) := Im.of RX8 (by decide) rfl (Nat.le_of_ble_eq_true rfl) (fun X hX hr hn hz => w_Ob_reel hX hr hz a0 i1 i2 i3)
set_option maxRecDepth 20000 in
theorem w_Md_in {X : CX Int32} (hX : Cx X RX9 cX9_in 6 rm_Md_in) (hr : Rt X injI (some .boolean) rm_Md_in.cells rm_Md_in.slots) (hz : Zx X false) (l0 : Int64) (l2 : Int64) (l4 : Int64) : WM X 0 [(0, .long l0), (2, .long l2), (4, .long l4)] [] 0 0 (m_Md_in l0 l2 l4) := by
  unfold m_Md_in
  refine wm_lload_n 0 hX dX9_in_0 rfl rfl ?_
  refine wm_lload_n 1 hX dX9_in_1 rfl rfl ?_
  refine wm_lif_lt 17 hX dX9_in_2 dX9_in_3 (by decide) ?_ ?_
  · refine wm_iconst (0 : Int32) hX dX9_in_17 (by decide) ?_
    exact wm_zret hX hr dX9_in_18
  · refine wm_lload_n 0 hX dX9_in_6 rfl rfl ?_
    refine wm_lload 2 hX dX9_in_7 rfl ?_
    refine wm_lif_gt 17 hX dX9_in_9 dX9_in_10 (by decide) ?_ ?_
    · refine wm_iconst (0 : Int32) hX dX9_in_17 (by decide) ?_
      exact wm_zret hX hr dX9_in_18
    · refine wm_iconst (1 : Int32) hX dX9_in_13 (by decide) ?_
      refine wm_goto (tgt := 18) hX dX9_in_14 (by decide) ?_
      exact wm_zret hX hr dX9_in_18
theorem i_Md_in (l0 : Int64) (l2 : Int64) (l4 : Int64) : Im false yX9_in cX9_in 6 (some .boolean) rm_Md_in injI [.long l0, .long l2, .long l4] (m_Md_in l0 l2 l4) := Im.of RX9 (by decide) rfl (Nat.le_of_ble_eq_true rfl) (fun X hX hr hn hz => w_Md_in hX hr hz l0 l2 l4)
set_option maxRecDepth 20000 in
theorem w_Md_isReel {X : CX Int32} (hX : Cx X RX9 cX9_isReel 1 rm_Md_isReel) (hr : Rt X injI (some .boolean) rm_Md_isReel.cells rm_Md_isReel.slots) (hz : Zx X false) (i0 : Int32) : WM X 0 [(0, .int i0)] [] 0 0 (m_Md_isReel i0) := by
  unfold m_Md_isReel
  refine wm_iload_n 0 hX dX9_isReel_0 rfl rfl ?_
  refine wm_i2l hX dX9_isReel_1 ?_
  refine wm_lconst (0 : Int64) hX dX9_isReel_2 (by decide) ?_
  refine wm_ldc2 hX dX9_isReel_3 wd_895 ?_
  refine wm_cSi (st := []) hX hz (i_Md_in (i0.toInt64) (0 : Int64) (5 : Int64)) cal_Md_in wd_896 rfl (fits_Md_isReel_Md_in) (Nat.le_of_ble_eq_true rfl) dX9_isReel_6 (fun v1 => ?_)
  exact wm_zret hX hr dX9_isReel_9
theorem i_Md_isReel (i0 : Int32) : Im false yX9_isReel cX9_isReel 1 (some .boolean) rm_Md_isReel injI [.int i0] (m_Md_isReel i0) := Im.of RX9 (by decide) rfl (Nat.le_of_ble_eq_true rfl) (fun X hX hr hn hz => w_Md_isReel hX hr hz i0)
set_option maxRecDepth 20000 in
theorem w_Md_meets {X : CX Int32} (hX : Cx X RX9 cX9_meets 2 rm_Md_meets) (hr : Rt X injI (some .int) rm_Md_meets.cells rm_Md_meets.slots) (hz : Zx X false) (a0 : Nat) (i1 : Int32) : WM X 0 [(0, .ref a0), (1, .int i1)] [] 0 0 (m_Md_meets a0 i1) := by
  unfold m_Md_meets
  refine wm_ckd ?_
  refine wm_aload_n 0 hX dX9_meets_0 rfl rfl ?_
  refine wm_iload_n 1 hX dX9_meets_1 rfl rfl ?_
  refine wm_pI hX fp_RX9_93 dX9_meets_2 ?_
  refine wm_bipush (-10 : Int32) hX dX9_meets_5 (by decide) ?_
  refine wm_iload_n 1 hX dX9_meets_7 rfl rfl ?_
  refine wm_isub hX dX9_meets_8 ?_
  exact wm_iret hX hr dX9_meets_9
theorem i_Md_meets (a0 : Nat) (i1 : Int32) : Im false yX9_meets cX9_meets 2 (some .int) rm_Md_meets injI [.ref a0, .int i1] (m_Md_meets a0 i1) := Im.of RX9 (by decide) rfl (Nat.le_of_ble_eq_true rfl) (fun X hX hr hn hz => w_Md_meets hX hr hz a0 i1)
set_option maxRecDepth 20000 in
theorem wb_Md_reel_62 {X : CX Int32} (hX : Cx X RX9 cX9_reel 5 rm_Md_reel) (hr : Rt X injI (some .int) rm_Md_reel.cells rm_Md_reel.slots) (hz : Zx X false) {k62 : Nat → Int32 → Int32 → Int32 → M Int32} (h62 : ∀ (a0 : Nat) (i1 : Int32) (i3 : Int32) (i4 : Int32), WM X 62 [(0, .ref a0), (1, .int i1), (3, .int i3), (4, .int i4)] [] 0 0 (k62 a0 i1 i3 i4)) (a0 : Nat) (i1 : Int32) (i3 : Int32) (i4 : Int32) : WM X 62 [(0, .ref a0), (1, .int i1), (3, .int i3), (4, .int i4)] [] 0 0 (b_Md_reel_62 k62 a0 i1 i3 i4) := by
  unfold b_Md_reel_62
  refine wm_iload 3 hX dX9_reel_62 rfl ?_
  refine wm_bipush (60 : Int32) hX dX9_reel_64 (by decide) ?_
  refine wm_icmp_ge 88 hX dX9_reel_66 (by decide) ?_ ?_
  · refine wm_iload_n 2 hX dX9_reel_88 rfl rfl ?_
    exact wm_iret hX hr dX9_reel_89
  · refine wm_aload_n 0 hX dX9_reel_69 rfl rfl ?_
    refine wm_gR hX fl_RX9_20 dX9_reel_70 (fun v1 => ?_)
    refine wm_bipush (60 : Int32) hX dX9_reel_73 (by decide) ?_
    refine wm_iload_n 1 hX dX9_reel_75 rfl rfl ?_
    refine wm_imul hX dX9_reel_76 ?_
    refine wm_iload 3 hX dX9_reel_77 rfl ?_
    refine wm_iadd hX dX9_reel_79 ?_
    refine wm_lconst (0 : Int64) hX dX9_reel_80 (by decide) ?_
    refine wm_stL hX dX9_reel_81 ?_
    refine wm_iinc (i4 + 1) 3 [(4, .int (i4 + 1)), (0, .ref a0), (1, .int i1), (3, .int i3)] hX dX9_reel_82 rfl rfl (by decide) rfl ?_
    refine wm_goto (tgt := 62) hX dX9_reel_85 (by decide) ?_
    refine wm_sub [1, 2, 3, 0] [(0, .ref a0), (1, .int i1), (3, .int i3), (4, .int (i4 + 1))] rfl ?_
    exact h62 a0 i1 i3 (i4 + 1)
theorem wl_Md_reel_62 {X : CX Int32} (hX : Cx X RX9 cX9_reel 5 rm_Md_reel) (hr : Rt X injI (some .int) rm_Md_reel.cells rm_Md_reel.slots) (hz : Zx X false) : ∀ (n : Nat) (a0 : Nat) (i1 : Int32) (i3 : Int32) (i4 : Int32), WM X 62 [(0, .ref a0), (1, .int i1), (3, .int i3), (4, .int i4)] [] 0 0 (l_Md_reel_62 n a0 i1 i3 i4)
  | 0, _, _, _, _ => wm_fl
  | n + 1, a0, i1, i3, i4 => wb_Md_reel_62 hX hr hz (wl_Md_reel_62 hX hr hz n) a0 i1 i3 i4
set_option maxRecDepth 20000 in
theorem w_Md_reel {X : CX Int32} (hX : Cx X RX9 cX9_reel 5 rm_Md_reel) (hr : Rt X injI (some .int) rm_Md_reel.cells rm_Md_reel.slots) (hz : Zx X false) (a0 : Nat) (i1 : Int32) (i2 : Int32) (i3 : Int32) : WM X 0 [(0, .ref a0), (1, .int i1), (2, .int i2), (3, .int i3)] [] 0 0 (m_Md_reel a0 i1 i2 i3) := by
  unfold m_Md_reel
  refine wm_ckd ?_
  refine wm_iload_n 1 hX dX9_reel_0 rfl rfl ?_
  refine wm_cSi (st := []) hX hz (i_Md_isReel i1) cal_Md_isReel wd_892 rfl (fits_Md_reel_Md_isReel) (Nat.le_of_ble_eq_true rfl) dX9_reel_1 (fun v1 => ?_)
  refine wm_if_eq 25 hX dX9_reel_4 (by decide) ?_ ?_
  · refine wm_bipush (-2 : Int32) hX dX9_reel_25 (by decide) ?_
    exact wm_iret hX hr dX9_reel_27
  · refine wm_iload_n 2 hX dX9_reel_7 rfl rfl ?_
    refine wm_i2l hX dX9_reel_8 ?_
    refine wm_lconst (0 : Int64) hX dX9_reel_9 (by decide) ?_
    refine wm_ldc2 hX dX9_reel_10 wd_895 ?_
    refine wm_cSi (st := []) hX hz (i_Md_in (i2.toInt64) (0 : Int64) (5 : Int64)) cal_Md_in wd_896 rfl (fits_Md_reel_Md_in) (Nat.le_of_ble_eq_true rfl) dX9_reel_13 (fun v2 => ?_)
    refine wm_if_eq 25 hX dX9_reel_16 (by decide) ?_ ?_
    · refine wm_bipush (-2 : Int32) hX dX9_reel_25 (by decide) ?_
      exact wm_iret hX hr dX9_reel_27
    · refine wm_iload_n 3 hX dX9_reel_19 rfl rfl ?_
      refine wm_bipush (60 : Int32) hX dX9_reel_20 (by decide) ?_
      refine wm_icmp_le 28 hX dX9_reel_22 (by decide) ?_ ?_
      · refine wm_iload_n 3 hX dX9_reel_28 rfl rfl ?_
        refine wm_if_ge 38 hX dX9_reel_29 (by decide) ?_ ?_
        · refine wm_aload_n 0 hX dX9_reel_38 rfl rfl ?_
          refine wm_gR hX fl_RX9_7 dX9_reel_39 (fun v3 => ?_)
          refine wm_iload_n 1 hX dX9_reel_42 rfl rfl ?_
          refine wm_iconst (1 : Int32) hX dX9_reel_43 (by decide) ?_
          refine wm_stZ hX dX9_reel_44 ?_
          refine wm_aload_n 0 hX dX9_reel_45 rfl rfl ?_
          refine wm_gR hX fl_RX9_13 dX9_reel_46 (fun v4 => ?_)
          refine wm_iload_n 1 hX dX9_reel_49 rfl rfl ?_
          refine wm_iload_n 2 hX dX9_reel_50 rfl rfl ?_
          refine wm_stI hX dX9_reel_51 ?_
          refine wm_aload_n 0 hX dX9_reel_52 rfl rfl ?_
          refine wm_gR hX fl_RX9_17 dX9_reel_53 (fun v5 => ?_)
          refine wm_iload_n 1 hX dX9_reel_56 rfl rfl ?_
          refine wm_iload_n 3 hX dX9_reel_57 rfl rfl ?_
          refine wm_stI hX dX9_reel_58 ?_
          refine wm_iconst (0 : Int32) hX dX9_reel_59 (by decide) ?_
          refine wm_istore [(4, .int (0 : Int32)), (0, .ref a0), (1, .int i1), (2, .int i2), (3, .int i3)] hX dX9_reel_60 (by decide) rfl ?_
          refine wm_sub [1, 2, 4, 0] [(0, .ref a0), (1, .int i1), (3, .int i3), (4, .int (0 : Int32))] rfl ?_
          exact wl_Md_reel_62 hX hr hz FU a0 i1 i3 (0 : Int32)
        · refine wm_aload_n 0 hX dX9_reel_32 rfl rfl ?_
          refine wm_iconst (5 : Int32) hX dX9_reel_33 (by decide) ?_
          refine wm_cVi (st := []) hX hz (i_Md_meets a0 (5 : Int32)) Ckd.of rfl cal_Md_meets wd_899 rfl (fits_Md_reel_Md_meets) (Nat.le_of_ble_eq_true rfl) dX9_reel_34 (fun v6 => ?_)
          exact wm_iret hX hr dX9_reel_37
      · refine wm_bipush (-2 : Int32) hX dX9_reel_25 (by decide) ?_
        exact wm_iret hX hr dX9_reel_27
theorem i_Md_reel (a0 : Nat) (i1 : Int32) (i2 : Int32) (i3 : Int32) : Im false yX9_reel cX9_reel 5 (some .int) rm_Md_reel injI [.ref a0, .int i1, .int i2, .int i3] (m_Md_reel a0 i1 i2 i3) := Im.of RX9 (by decide) rfl (Nat.le_of_ble_eq_true rfl) (fun X hX hr hn hz => w_Md_reel hX hr hz a0 i1 i2 i3)
set_option maxRecDepth 20000 in
theorem w_Ob_lose {X : CX Int32} (hX : Cx X RX8 cX8_lose 2 rm_Ob_lose) (hr : Rt X injI (some .int) rm_Ob_lose.cells rm_Ob_lose.slots) (hz : Zx X false) (a0 : Nat) (i1 : Int32) : WM X 0 [(0, .ref a0), (1, .int i1)] [] 0 0 (m_Ob_lose a0 i1) := by
  unfold m_Ob_lose
  refine wm_ckd ?_
  refine wm_iload_n 1 hX dX8_lose_0 rfl rfl ?_
  refine wm_cSi (st := []) hX hz (i_Ob_isReel i1) cal_Ob_isReel wd_353 rfl (fits_Ob_lose_Ob_isReel) (Nat.le_of_ble_eq_true rfl) dX8_lose_1 (fun v1 => ?_)
  refine wm_if_ne 10 hX dX8_lose_4 (by decide) ?_ ?_
  · refine wm_aload_n 0 hX dX8_lose_10 rfl rfl ?_
    refine wm_gR hX fl_RX8_11 dX8_lose_11 (fun v2 => ?_)
    refine wm_iload_n 1 hX dX8_lose_14 rfl rfl ?_
    refine wm_ldR (by decide) hX dX8_lose_15 (fun v3 => ?_)
    refine wm_gI hX fl_RX8_91 dX8_lose_16 (fun v4 => ?_)
    refine wm_if_eq 28 hX dX8_lose_19 (by decide) ?_ ?_
    · refine wm_aload_n 0 hX dX8_lose_28 rfl rfl ?_
      refine wm_gR hX fl_RX8_11 dX8_lose_29 (fun v5 => ?_)
      refine wm_iload_n 1 hX dX8_lose_32 rfl rfl ?_
      refine wm_ldR (by decide) hX dX8_lose_33 (fun v6 => ?_)
      refine wm_iconst (1 : Int32) hX dX8_lose_34 (by decide) ?_
      refine wm_pZ hX fp_RX8_91 dX8_lose_35 ?_
      refine wm_aload_n 0 hX dX8_lose_38 rfl rfl ?_
      refine wm_gR hX fl_RX8_11 dX8_lose_39 (fun v7 => ?_)
      refine wm_iload_n 1 hX dX8_lose_42 rfl rfl ?_
      refine wm_ldR (by decide) hX dX8_lose_43 (fun v8 => ?_)
      refine wm_gI hX fl_RX8_95 dX8_lose_44 (fun v9 => ?_)
      exact wm_iret hX hr dX8_lose_47
    · refine wm_aload_n 0 hX dX8_lose_22 rfl rfl ?_
      refine wm_iconst (1 : Int32) hX dX8_lose_23 (by decide) ?_
      refine wm_cVi (st := []) hX hz (i_Ob_found a0 (1 : Int32)) Ckd.of rfl cal_Ob_found wd_359 rfl (fits_Ob_lose_Ob_found) (Nat.le_of_ble_eq_true rfl) dX8_lose_24 (fun v10 => ?_)
      exact wm_iret hX hr dX8_lose_27
  · refine wm_bipush (-2 : Int32) hX dX8_lose_7 (by decide) ?_
    exact wm_iret hX hr dX8_lose_9
theorem i_Ob_lose (a0 : Nat) (i1 : Int32) : Im false yX8_lose cX8_lose 2 (some .int) rm_Ob_lose injI [.ref a0, .int i1] (m_Ob_lose a0 i1) := Im.of RX8 (by decide) rfl (Nat.le_of_ble_eq_true rfl) (fun X hX hr hn hz => w_Ob_lose hX hr hz a0 i1)
set_option maxRecDepth 20000 in
theorem w_Md_lose {X : CX Int32} (hX : Cx X RX9 cX9_lose 2 rm_Md_lose) (hr : Rt X injI (some .int) rm_Md_lose.cells rm_Md_lose.slots) (hz : Zx X false) (a0 : Nat) (i1 : Int32) : WM X 0 [(0, .ref a0), (1, .int i1)] [] 0 0 (m_Md_lose a0 i1) := by
  unfold m_Md_lose
  refine wm_ckd ?_
  refine wm_iload_n 1 hX dX9_lose_0 rfl rfl ?_
  refine wm_cSi (st := []) hX hz (i_Md_isReel i1) cal_Md_isReel wd_892 rfl (fits_Md_lose_Md_isReel) (Nat.le_of_ble_eq_true rfl) dX9_lose_1 (fun v1 => ?_)
  refine wm_if_ne 10 hX dX9_lose_4 (by decide) ?_ ?_
  · refine wm_aload_n 0 hX dX9_lose_10 rfl rfl ?_
    refine wm_gR hX fl_RX9_7 dX9_lose_11 (fun v2 => ?_)
    refine wm_iload_n 1 hX dX9_lose_14 rfl rfl ?_
    refine wm_ldZ hX dX9_lose_15 (fun v3 => ?_)
    refine wm_if_ne 25 hX dX9_lose_16 (by decide) ?_ ?_
    · refine wm_aload_n 0 hX dX9_lose_25 rfl rfl ?_
      refine wm_gR hX fl_RX9_7 dX9_lose_26 (fun v4 => ?_)
      refine wm_iload_n 1 hX dX9_lose_29 rfl rfl ?_
      refine wm_iconst (0 : Int32) hX dX9_lose_30 (by decide) ?_
      refine wm_stZ hX dX9_lose_31 ?_
      refine wm_aload_n 0 hX dX9_lose_32 rfl rfl ?_
      refine wm_gR hX fl_RX9_17 dX9_lose_33 (fun v5 => ?_)
      refine wm_iload_n 1 hX dX9_lose_36 rfl rfl ?_
      refine wm_ldI hX dX9_lose_37 (fun v6 => ?_)
      exact wm_iret hX hr dX9_lose_38
    · refine wm_aload_n 0 hX dX9_lose_19 rfl rfl ?_
      refine wm_iconst (1 : Int32) hX dX9_lose_20 (by decide) ?_
      refine wm_cVi (st := []) hX hz (i_Md_meets a0 (1 : Int32)) Ckd.of rfl cal_Md_meets wd_899 rfl (fits_Md_lose_Md_meets) (Nat.le_of_ble_eq_true rfl) dX9_lose_21 (fun v7 => ?_)
      exact wm_iret hX hr dX9_lose_24
  · refine wm_bipush (-2 : Int32) hX dX9_lose_7 (by decide) ?_
    exact wm_iret hX hr dX9_lose_9
theorem i_Md_lose (a0 : Nat) (i1 : Int32) : Im false yX9_lose cX9_lose 2 (some .int) rm_Md_lose injI [.ref a0, .int i1] (m_Md_lose a0 i1) := Im.of RX9 (by decide) rfl (Nat.le_of_ble_eq_true rfl) (fun X hX hr hn hz => w_Md_lose hX hr hz a0 i1)
set_option maxRecDepth 20000 in
theorem w_Rl_hasItem {X : CX Int32} (hX : Cx X RX3 cX3_hasItem 3 rm_Rl_hasItem) (hr : Rt X injI (some .boolean) rm_Rl_hasItem.cells rm_Rl_hasItem.slots) (hz : Zx X false) (a0 : Nat) (l1 : Int64) : WM X 0 [(0, .ref a0), (1, .long l1)] [] 0 0 (m_Rl_hasItem a0 l1) := by
  unfold m_Rl_hasItem
  refine wm_ckd ?_
  refine wm_lload_n 1 hX dX3_hasItem_0 rfl rfl ?_
  refine wm_lconst (0 : Int64) hX dX3_hasItem_1 (by decide) ?_
  refine wm_lif_lt 20 hX dX3_hasItem_2 dX3_hasItem_3 (by decide) ?_ ?_
  · refine wm_iconst (0 : Int32) hX dX3_hasItem_20 (by decide) ?_
    exact wm_zret hX hr dX3_hasItem_21
  · refine wm_lload_n 1 hX dX3_hasItem_6 rfl rfl ?_
    refine wm_aload_n 0 hX dX3_hasItem_7 rfl rfl ?_
    refine wm_gI hX fl_RX3_23 dX3_hasItem_8 (fun v1 => ?_)
    refine wm_i2l hX dX3_hasItem_11 ?_
    refine wm_lif_ge 20 hX dX3_hasItem_12 dX3_hasItem_13 (by decide) ?_ ?_
    · refine wm_iconst (0 : Int32) hX dX3_hasItem_20 (by decide) ?_
      exact wm_zret hX hr dX3_hasItem_21
    · refine wm_iconst (1 : Int32) hX dX3_hasItem_16 (by decide) ?_
      refine wm_goto (tgt := 21) hX dX3_hasItem_17 (by decide) ?_
      exact wm_zret hX hr dX3_hasItem_21
theorem i_Rl_hasItem (a0 : Nat) (l1 : Int64) : Im false yX3_hasItem cX3_hasItem 3 (some .boolean) rm_Rl_hasItem injI [.ref a0, .long l1] (m_Rl_hasItem a0 l1) := Im.of RX3 (by decide) rfl (Nat.le_of_ble_eq_true rfl) (fun X hX hr hn hz => w_Rl_hasItem hX hr hz a0 l1)
set_option maxRecDepth 20000 in
theorem w_Ob_refuseItem {X : CX Int32} (hX : Cx X RX8 cX8_refuseItem 4 rm_Ob_refuseItem) (hr : Rt X injI (some .int) rm_Ob_refuseItem.cells rm_Ob_refuseItem.slots) (hz : Zx X false) (a0 : Nat) (i1 : Int32) (i2 : Int32) (i3 : Int32) : WM X 0 [(0, .ref a0), (1, .int i1), (2, .int i2), (3, .int i3)] [] 0 0 (m_Ob_refuseItem a0 i1 i2 i3) := by
  unfold m_Ob_refuseItem
  refine wm_ckd ?_
  refine wm_iload_n 1 hX dX8_refuseItem_0 rfl rfl ?_
  refine wm_cSi (st := []) hX hz (i_Ob_isReel i1) cal_Ob_isReel wd_353 rfl (fits_Ob_refuseItem_Ob_isReel) (Nat.le_of_ble_eq_true rfl) dX8_refuseItem_1 (fun v1 => ?_)
  refine wm_if_eq 14 hX dX8_refuseItem_4 (by decide) ?_ ?_
  · refine wm_bipush (-2 : Int32) hX dX8_refuseItem_14 (by decide) ?_
    exact wm_iret hX hr dX8_refuseItem_16
  · refine wm_iload_n 2 hX dX8_refuseItem_7 rfl rfl ?_
    refine wm_cSi (st := []) hX hz (i_Ob_isForm i2) cal_Ob_isForm wd_356 rfl (fits_Ob_refuseItem_Ob_isForm) (Nat.le_of_ble_eq_true rfl) dX8_refuseItem_8 (fun v2 => ?_)
    refine wm_if_ne 17 hX dX8_refuseItem_11 (by decide) ?_ ?_
    · refine wm_aload_n 0 hX dX8_refuseItem_17 rfl rfl ?_
      refine wm_gR hX fl_RX8_11 dX8_refuseItem_18 (fun v3 => ?_)
      refine wm_iload_n 1 hX dX8_refuseItem_21 rfl rfl ?_
      refine wm_ldR (by decide) hX dX8_refuseItem_22 (fun v4 => ?_)
      refine wm_gI hX fl_RX8_91 dX8_refuseItem_23 (fun v5 => ?_)
      refine wm_if_eq 35 hX dX8_refuseItem_26 (by decide) ?_ ?_
      · refine wm_aload_n 0 hX dX8_refuseItem_35 rfl rfl ?_
        refine wm_gR hX fl_RX8_11 dX8_refuseItem_36 (fun v6 => ?_)
        refine wm_iload_n 1 hX dX8_refuseItem_39 rfl rfl ?_
        refine wm_ldR (by decide) hX dX8_refuseItem_40 (fun v7 => ?_)
        refine wm_gI hX fl_RX8_110 dX8_refuseItem_41 (fun v8 => ?_)
        refine wm_iload_n 2 hX dX8_refuseItem_44 rfl rfl ?_
        refine wm_icmp_eq 54 hX dX8_refuseItem_45 (by decide) ?_ ?_
        · refine wm_aload_n 0 hX dX8_refuseItem_54 rfl rfl ?_
          refine wm_gR hX fl_RX8_11 dX8_refuseItem_55 (fun v9 => ?_)
          refine wm_iload_n 1 hX dX8_refuseItem_58 rfl rfl ?_
          refine wm_ldR (by decide) hX dX8_refuseItem_59 (fun v10 => ?_)
          refine wm_iload_n 3 hX dX8_refuseItem_60 rfl rfl ?_
          refine wm_i2l hX dX8_refuseItem_61 ?_
          refine wm_cVi (st := []) hX hz (i_Rl_hasItem v10 (i3.toInt64)) Ckd.of rfl cal_Rl_hasItem wd_382 rfl (fits_Ob_refuseItem_Rl_hasItem) (Nat.le_of_ble_eq_true rfl) dX8_refuseItem_62 (fun v11 => ?_)
          refine wm_if_eq 72 hX dX8_refuseItem_65 (by decide) ?_ ?_
          · refine wm_aload_n 0 hX dX8_refuseItem_72 rfl rfl ?_
            refine wm_iconst (2 : Int32) hX dX8_refuseItem_73 (by decide) ?_
            refine wm_cVi (st := []) hX hz (i_Ob_found a0 (2 : Int32)) Ckd.of rfl cal_Ob_found wd_359 rfl (fits_Ob_refuseItem_Ob_found) (Nat.le_of_ble_eq_true rfl) dX8_refuseItem_74 (fun v12 => ?_)
            exact wm_iret hX hr dX8_refuseItem_77
          · refine wm_iconst (0 : Int32) hX dX8_refuseItem_68 (by decide) ?_
            refine wm_goto (tgt := 77) hX dX8_refuseItem_69 (by decide) ?_
            exact wm_iret hX hr dX8_refuseItem_77
        · refine wm_aload_n 0 hX dX8_refuseItem_48 rfl rfl ?_
          refine wm_iconst (3 : Int32) hX dX8_refuseItem_49 (by decide) ?_
          refine wm_cVi (st := []) hX hz (i_Ob_found a0 (3 : Int32)) Ckd.of rfl cal_Ob_found wd_359 rfl (fits_Ob_refuseItem_Ob_found) (Nat.le_of_ble_eq_true rfl) dX8_refuseItem_50 (fun v13 => ?_)
          exact wm_iret hX hr dX8_refuseItem_53
      · refine wm_aload_n 0 hX dX8_refuseItem_29 rfl rfl ?_
        refine wm_iconst (1 : Int32) hX dX8_refuseItem_30 (by decide) ?_
        refine wm_cVi (st := []) hX hz (i_Ob_found a0 (1 : Int32)) Ckd.of rfl cal_Ob_found wd_359 rfl (fits_Ob_refuseItem_Ob_found) (Nat.le_of_ble_eq_true rfl) dX8_refuseItem_31 (fun v14 => ?_)
        exact wm_iret hX hr dX8_refuseItem_34
    · refine wm_bipush (-2 : Int32) hX dX8_refuseItem_14 (by decide) ?_
      exact wm_iret hX hr dX8_refuseItem_16
theorem i_Ob_refuseItem (a0 : Nat) (i1 : Int32) (i2 : Int32) (i3 : Int32) : Im false yX8_refuseItem cX8_refuseItem 4 (some .int) rm_Ob_refuseItem injI [.ref a0, .int i1, .int i2, .int i3] (m_Ob_refuseItem a0 i1 i2 i3) := Im.of RX8 (by decide) rfl (Nat.le_of_ble_eq_true rfl) (fun X hX hr hn hz => w_Ob_refuseItem hX hr hz a0 i1 i2 i3)
set_option maxRecDepth 20000 in
theorem w_Ob_isNoNumber {X : CX Int32} (hX : Cx X RX8 cX8_isNoNumber 3 rm_Ob_isNoNumber) (hr : Rt X injI (some .boolean) rm_Ob_isNoNumber.cells rm_Ob_isNoNumber.slots) (hz : Zx X false) (i0 : Int32) (l1 : Int64) : WM X 0 [(0, .int i0), (1, .long l1)] [] 0 0 (m_Ob_isNoNumber i0 l1) := by
  unfold m_Ob_isNoNumber
  refine wm_iload_n 0 hX dX8_isNoNumber_0 rfl rfl ?_
  refine wm_iconst (4 : Int32) hX dX8_isNoNumber_1 (by decide) ?_
  refine wm_icmp_ge 7 hX dX8_isNoNumber_2 (by decide) ?_ ?_
  · refine wm_iload_n 0 hX dX8_isNoNumber_7 rfl rfl ?_
    refine wm_iconst (4 : Int32) hX dX8_isNoNumber_8 (by decide) ?_
    refine wm_icmp_ne 30 hX dX8_isNoNumber_9 (by decide) ?_ ?_
    · refine wm_lload_n 1 hX dX8_isNoNumber_30 rfl rfl ?_
      refine wm_ldc2 hX dX8_isNoNumber_31 wd_394 ?_
      refine wm_land hX dX8_isNoNumber_34 ?_
      refine wm_ldc2 hX dX8_isNoNumber_35 wd_395 ?_
      refine wm_lif_le 46 hX dX8_isNoNumber_38 dX8_isNoNumber_39 (by decide) ?_ ?_
      · refine wm_iconst (0 : Int32) hX dX8_isNoNumber_46 (by decide) ?_
        exact wm_zret hX hr dX8_isNoNumber_47
      · refine wm_iconst (1 : Int32) hX dX8_isNoNumber_42 (by decide) ?_
        refine wm_goto (tgt := 47) hX dX8_isNoNumber_43 (by decide) ?_
        exact wm_zret hX hr dX8_isNoNumber_47
    · refine wm_lload_n 1 hX dX8_isNoNumber_12 rfl rfl ?_
      refine wm_ldc2 hX dX8_isNoNumber_13 wd_392 ?_
      refine wm_land hX dX8_isNoNumber_16 ?_
      refine wm_ldc2 hX dX8_isNoNumber_17 wd_393 ?_
      refine wm_lif_le 28 hX dX8_isNoNumber_20 dX8_isNoNumber_21 (by decide) ?_ ?_
      · refine wm_iconst (0 : Int32) hX dX8_isNoNumber_28 (by decide) ?_
        exact wm_zret hX hr dX8_isNoNumber_29
      · refine wm_iconst (1 : Int32) hX dX8_isNoNumber_24 (by decide) ?_
        refine wm_goto (tgt := 29) hX dX8_isNoNumber_25 (by decide) ?_
        exact wm_zret hX hr dX8_isNoNumber_29
  · refine wm_iconst (0 : Int32) hX dX8_isNoNumber_5 (by decide) ?_
    exact wm_zret hX hr dX8_isNoNumber_6
theorem i_Ob_isNoNumber (i0 : Int32) (l1 : Int64) : Im false yX8_isNoNumber cX8_isNoNumber 3 (some .boolean) rm_Ob_isNoNumber injI [.int i0, .long l1] (m_Ob_isNoNumber i0 l1) := Im.of RX8 (by decide) rfl (Nat.le_of_ble_eq_true rfl) (fun X hX hr hn hz => w_Ob_isNoNumber hX hr hz i0 l1)
set_option maxRecDepth 20000 in
theorem w_Ob_bitsAsHeld {X : CX Int64} (hX : Cx X RX8 cX8_bitsAsHeld 3 rm_Ob_bitsAsHeld) (hr : Rt X injL (some .long) rm_Ob_bitsAsHeld.cells rm_Ob_bitsAsHeld.slots) (hz : Zx X false) (i0 : Int32) (l1 : Int64) : WM X 0 [(0, .int i0), (1, .long l1)] [] 0 0 (m_Ob_bitsAsHeld i0 l1) := by
  unfold m_Ob_bitsAsHeld
  refine wm_iload_n 0 hX dX8_bitsAsHeld_0 rfl rfl ?_
  refine wm_tsw [36, 41, 46, 50, 52] 70 hX dX8_bitsAsHeld_1 (by decide) (by decide) (by decide) ⟨?_, ?_, ?_, ?_, ?_, trivial⟩ ?_
  · refine wm_lload_n 1 hX dX8_bitsAsHeld_36 rfl rfl ?_
    refine wm_l2i hX dX8_bitsAsHeld_37 ?_
    refine wm_i2b hX dX8_bitsAsHeld_38 ?_
    refine wm_i2l hX dX8_bitsAsHeld_39 ?_
    exact wm_lret hX hr dX8_bitsAsHeld_40
  · refine wm_lload_n 1 hX dX8_bitsAsHeld_41 rfl rfl ?_
    refine wm_l2i hX dX8_bitsAsHeld_42 ?_
    refine wm_i2s hX dX8_bitsAsHeld_43 ?_
    refine wm_i2l hX dX8_bitsAsHeld_44 ?_
    exact wm_lret hX hr dX8_bitsAsHeld_45
  · refine wm_lload_n 1 hX dX8_bitsAsHeld_46 rfl rfl ?_
    refine wm_l2i hX dX8_bitsAsHeld_47 ?_
    refine wm_i2l hX dX8_bitsAsHeld_48 ?_
    exact wm_lret hX hr dX8_bitsAsHeld_49
  · refine wm_lload_n 1 hX dX8_bitsAsHeld_50 rfl rfl ?_
    exact wm_lret hX hr dX8_bitsAsHeld_51
  · refine wm_iload_n 0 hX dX8_bitsAsHeld_52 rfl rfl ?_
    refine wm_lload_n 1 hX dX8_bitsAsHeld_53 rfl rfl ?_
    refine wm_cSi (st := []) hX hz (i_Ob_isNoNumber i0 l1) cal_Ob_isNoNumber wd_389 rfl (fits_Ob_bitsAsHeld_Ob_isNoNumber) (Nat.le_of_ble_eq_true rfl) dX8_bitsAsHeld_54 (fun v1 => ?_)
    refine wm_if_eq 66 hX dX8_bitsAsHeld_57 (by decide) ?_ ?_
    · refine wm_lload_n 1 hX dX8_bitsAsHeld_66 rfl rfl ?_
      refine wm_l2i hX dX8_bitsAsHeld_67 ?_
      refine wm_i2l hX dX8_bitsAsHeld_68 ?_
      exact wm_lret hX hr dX8_bitsAsHeld_69
    · refine wm_ldc2 hX dX8_bitsAsHeld_60 wd_396 ?_
      refine wm_goto (tgt := 69) hX dX8_bitsAsHeld_63 (by decide) ?_
      exact wm_lret hX hr dX8_bitsAsHeld_69
  · refine wm_iload_n 0 hX dX8_bitsAsHeld_70 rfl rfl ?_
    refine wm_lload_n 1 hX dX8_bitsAsHeld_71 rfl rfl ?_
    refine wm_cSi (st := []) hX hz (i_Ob_isNoNumber i0 l1) cal_Ob_isNoNumber wd_389 rfl (fits_Ob_bitsAsHeld_Ob_isNoNumber) (Nat.le_of_ble_eq_true rfl) dX8_bitsAsHeld_72 (fun v2 => ?_)
    refine wm_if_eq 84 hX dX8_bitsAsHeld_75 (by decide) ?_ ?_
    · refine wm_lload_n 1 hX dX8_bitsAsHeld_84 rfl rfl ?_
      exact wm_lret hX hr dX8_bitsAsHeld_85
    · refine wm_ldc2 hX dX8_bitsAsHeld_78 wd_397 ?_
      refine wm_goto (tgt := 85) hX dX8_bitsAsHeld_81 (by decide) ?_
      exact wm_lret hX hr dX8_bitsAsHeld_85
theorem i_Ob_bitsAsHeld (i0 : Int32) (l1 : Int64) : Im false yX8_bitsAsHeld cX8_bitsAsHeld 3 (some .long) rm_Ob_bitsAsHeld injL [.int i0, .long l1] (m_Ob_bitsAsHeld i0 l1) := Im.of RX8 (by decide) rfl (Nat.le_of_ble_eq_true rfl) (fun X hX hr hn hz => w_Ob_bitsAsHeld hX hr hz i0 l1)
set_option maxRecDepth 20000 in
theorem w_Ob_put {X : CX Int32} (hX : Cx X RX8 cX8_put 7 rm_Ob_put) (hr : Rt X injI (some .int) rm_Ob_put.cells rm_Ob_put.slots) (hz : Zx X false) (a0 : Nat) (i1 : Int32) (i2 : Int32) (i3 : Int32) (l4 : Int64) : WM X 0 [(0, .ref a0), (1, .int i1), (2, .int i2), (3, .int i3), (4, .long l4)] [] 0 0 (m_Ob_put a0 i1 i2 i3 l4) := by
  unfold m_Ob_put
  refine wm_ckd ?_
  refine wm_aload_n 0 hX dX8_put_0 rfl rfl ?_
  refine wm_iload_n 1 hX dX8_put_1 rfl rfl ?_
  refine wm_iload_n 2 hX dX8_put_2 rfl rfl ?_
  refine wm_iload_n 3 hX dX8_put_3 rfl rfl ?_
  refine wm_cVi (st := []) hX hz (i_Ob_refuseItem a0 i1 i2 i3) Ckd.of rfl cal_Ob_refuseItem wd_378 rfl (fits_Ob_put_Ob_refuseItem) (Nat.le_of_ble_eq_true rfl) dX8_put_4 (fun v1 => ?_)
  refine wm_istore [(6, .int v1), (0, .ref a0), (1, .int i1), (2, .int i2), (3, .int i3), (4, .long l4)] hX dX8_put_7 (by decide) rfl ?_
  refine wm_iload 0 hX dX8_put_9 rfl ?_
  refine wm_if_eq 17 hX dX8_put_11 (by decide) ?_ ?_
  · refine wm_aload_n 1 hX dX8_put_17 rfl rfl ?_
    refine wm_gR hX fl_RX8_11 dX8_put_18 (fun v2 => ?_)
    refine wm_iload_n 2 hX dX8_put_21 rfl rfl ?_
    refine wm_ldR (by decide) hX dX8_put_22 (fun v3 => ?_)
    refine wm_gR hX fl_RX8_102 dX8_put_23 (fun v4 => ?_)
    refine wm_iload_n 4 hX dX8_put_26 rfl rfl ?_
    refine wm_iload_n 3 hX dX8_put_27 rfl rfl ?_
    refine wm_lload 5 hX dX8_put_28 rfl ?_
    refine wm_cSl (st := [.int i3, .ref v4]) hX hz (i_Ob_bitsAsHeld i2 l4) cal_Ob_bitsAsHeld wd_386 rfl (fits_Ob_put_Ob_bitsAsHeld) (Nat.le_of_ble_eq_true rfl) dX8_put_30 (fun v5 => ?_)
    refine wm_stL hX dX8_put_33 ?_
    refine wm_iconst (1 : Int32) hX dX8_put_34 (by decide) ?_
    exact wm_iret hX hr dX8_put_35
  · refine wm_iload 0 hX dX8_put_14 rfl ?_
    exact wm_iret hX hr dX8_put_16
theorem i_Ob_put (a0 : Nat) (i1 : Int32) (i2 : Int32) (i3 : Int32) (l4 : Int64) : Im false yX8_put cX8_put 7 (some .int) rm_Ob_put injI [.ref a0, .int i1, .int i2, .int i3, .long l4] (m_Ob_put a0 i1 i2 i3 l4) := Im.of RX8 (by decide) rfl (Nat.le_of_ble_eq_true rfl) (fun X hX hr hn hz => w_Ob_put hX hr hz a0 i1 i2 i3 l4)
set_option maxRecDepth 20000 in
theorem w_Md_lacks {X : CX Int32} (hX : Cx X RX9 cX9_lacks 4 rm_Md_lacks) (hr : Rt X injI (some .int) rm_Md_lacks.cells rm_Md_lacks.slots) (hz : Zx X false) (a0 : Nat) (i1 : Int32) (i2 : Int32) (i3 : Int32) : WM X 0 [(0, .ref a0), (1, .int i1), (2, .int i2), (3, .int i3)] [] 0 0 (m_Md_lacks a0 i1 i2 i3) := by
  unfold m_Md_lacks
  refine wm_ckd ?_
  refine wm_aload_n 0 hX dX9_lacks_0 rfl rfl ?_
  refine wm_gR hX fl_RX9_7 dX9_lacks_1 (fun v1 => ?_)
  refine wm_iload_n 1 hX dX9_lacks_4 rfl rfl ?_
  refine wm_ldZ hX dX9_lacks_5 (fun v2 => ?_)
  refine wm_if_ne 13 hX dX9_lacks_6 (by decide) ?_ ?_
  · refine wm_aload_n 0 hX dX9_lacks_13 rfl rfl ?_
    refine wm_gR hX fl_RX9_13 dX9_lacks_14 (fun v3 => ?_)
    refine wm_iload_n 1 hX dX9_lacks_17 rfl rfl ?_
    refine wm_ldI hX dX9_lacks_18 (fun v4 => ?_)
    refine wm_iload_n 2 hX dX9_lacks_19 rfl rfl ?_
    refine wm_icmp_eq 27 hX dX9_lacks_20 (by decide) ?_ ?_
    · refine wm_iload_n 3 hX dX9_lacks_27 rfl rfl ?_
      refine wm_i2l hX dX9_lacks_28 ?_
      refine wm_lconst (0 : Int64) hX dX9_lacks_29 (by decide) ?_
      refine wm_aload_n 0 hX dX9_lacks_30 rfl rfl ?_
      refine wm_gR hX fl_RX9_17 dX9_lacks_31 (fun v5 => ?_)
      refine wm_iload_n 1 hX dX9_lacks_34 rfl rfl ?_
      refine wm_ldI hX dX9_lacks_35 (fun v6 => ?_)
      refine wm_iconst (1 : Int32) hX dX9_lacks_36 (by decide) ?_
      refine wm_isub hX dX9_lacks_37 ?_
      refine wm_i2l hX dX9_lacks_38 ?_
      refine wm_cSi (st := []) hX hz (i_Md_in (i3.toInt64) (0 : Int64) ((v6 - (1 : Int32)).toInt64)) cal_Md_in wd_896 rfl (fits_Md_lacks_Md_in) (Nat.le_of_ble_eq_true rfl) dX9_lacks_39 (fun v7 => ?_)
      refine wm_if_eq 49 hX dX9_lacks_42 (by decide) ?_ ?_
      · refine wm_iconst (2 : Int32) hX dX9_lacks_49 (by decide) ?_
        exact wm_iret hX hr dX9_lacks_50
      · refine wm_iconst (0 : Int32) hX dX9_lacks_45 (by decide) ?_
        refine wm_goto (tgt := 50) hX dX9_lacks_46 (by decide) ?_
        exact wm_iret hX hr dX9_lacks_50
    · refine wm_iconst (3 : Int32) hX dX9_lacks_23 (by decide) ?_
      refine wm_goto (tgt := 50) hX dX9_lacks_24 (by decide) ?_
      exact wm_iret hX hr dX9_lacks_50
  · refine wm_iconst (1 : Int32) hX dX9_lacks_9 (by decide) ?_
    refine wm_goto (tgt := 50) hX dX9_lacks_10 (by decide) ?_
    exact wm_iret hX hr dX9_lacks_50
theorem i_Md_lacks (a0 : Nat) (i1 : Int32) (i2 : Int32) (i3 : Int32) : Im false yX9_lacks cX9_lacks 4 (some .int) rm_Md_lacks injI [.ref a0, .int i1, .int i2, .int i3] (m_Md_lacks a0 i1 i2 i3) := Im.of RX9 (by decide) rfl (Nat.le_of_ble_eq_true rfl) (fun X hX hr hn hz => w_Md_lacks hX hr hz a0 i1 i2 i3)
set_option maxRecDepth 20000 in
theorem w_Md_laid {X : CX Int64} (hX : Cx X RX9 cX9_laid 3 rm_Md_laid) (hr : Rt X injL (some .long) rm_Md_laid.cells rm_Md_laid.slots) (hz : Zx X false) (i0 : Int32) (l1 : Int64) : WM X 0 [(0, .int i0), (1, .long l1)] [] 0 0 (m_Md_laid i0 l1) := by
  unfold m_Md_laid
  refine wm_iload_n 0 hX dX9_laid_0 rfl rfl ?_
  refine wm_tsw [40, 45, 50, 94, 54, 74] 94 hX dX9_laid_1 (by decide) (by decide) (by decide) ⟨?_, ?_, ?_, ?_, ?_, ?_, trivial⟩ ?_
  · refine wm_lload_n 1 hX dX9_laid_40 rfl rfl ?_
    refine wm_l2i hX dX9_laid_41 ?_
    refine wm_i2b hX dX9_laid_42 ?_
    refine wm_i2l hX dX9_laid_43 ?_
    exact wm_lret hX hr dX9_laid_44
  · refine wm_lload_n 1 hX dX9_laid_45 rfl rfl ?_
    refine wm_l2i hX dX9_laid_46 ?_
    refine wm_i2s hX dX9_laid_47 ?_
    refine wm_i2l hX dX9_laid_48 ?_
    exact wm_lret hX hr dX9_laid_49
  · refine wm_lload_n 1 hX dX9_laid_50 rfl rfl ?_
    refine wm_l2i hX dX9_laid_51 ?_
    refine wm_i2l hX dX9_laid_52 ?_
    exact wm_lret hX hr dX9_laid_53
  · refine wm_lload_n 1 hX dX9_laid_94 rfl rfl ?_
    exact wm_lret hX hr dX9_laid_95
  · refine wm_lload_n 1 hX dX9_laid_54 rfl rfl ?_
    refine wm_l2i hX dX9_laid_55 ?_
    refine wm_ldc hX dX9_laid_56 wd_918 ?_
    refine wm_iand hX dX9_laid_58 ?_
    refine wm_ldc hX dX9_laid_59 wd_919 ?_
    refine wm_icmp_le 70 hX dX9_laid_61 (by decide) ?_ ?_
    · refine wm_lload_n 1 hX dX9_laid_70 rfl rfl ?_
      refine wm_l2i hX dX9_laid_71 ?_
      refine wm_i2l hX dX9_laid_72 ?_
      exact wm_lret hX hr dX9_laid_73
    · refine wm_ldc2 hX dX9_laid_64 wd_920 ?_
      refine wm_goto (tgt := 73) hX dX9_laid_67 (by decide) ?_
      exact wm_lret hX hr dX9_laid_73
  · refine wm_lload_n 1 hX dX9_laid_74 rfl rfl ?_
    refine wm_ldc2 hX dX9_laid_75 wd_921 ?_
    refine wm_land hX dX9_laid_78 ?_
    refine wm_ldc2 hX dX9_laid_79 wd_922 ?_
    refine wm_lif_le 92 hX dX9_laid_82 dX9_laid_83 (by decide) ?_ ?_
    · refine wm_lload_n 1 hX dX9_laid_92 rfl rfl ?_
      exact wm_lret hX hr dX9_laid_93
    · refine wm_ldc2 hX dX9_laid_86 wd_923 ?_
      refine wm_goto (tgt := 93) hX dX9_laid_89 (by decide) ?_
      exact wm_lret hX hr dX9_laid_93
  · refine wm_lload_n 1 hX dX9_laid_94 rfl rfl ?_
    exact wm_lret hX hr dX9_laid_95
theorem i_Md_laid (i0 : Int32) (l1 : Int64) : Im false yX9_laid cX9_laid 3 (some .long) rm_Md_laid injL [.int i0, .long l1] (m_Md_laid i0 l1) := Im.of RX9 (by decide) rfl (Nat.le_of_ble_eq_true rfl) (fun X hX hr hn hz => w_Md_laid hX hr hz i0 l1)
set_option maxRecDepth 20000 in
theorem w_Md_put {X : CX Int32} (hX : Cx X RX9 cX9_put 7 rm_Md_put) (hr : Rt X injI (some .int) rm_Md_put.cells rm_Md_put.slots) (hz : Zx X false) (a0 : Nat) (i1 : Int32) (i2 : Int32) (i3 : Int32) (l4 : Int64) : WM X 0 [(0, .ref a0), (1, .int i1), (2, .int i2), (3, .int i3), (4, .long l4)] [] 0 0 (m_Md_put a0 i1 i2 i3 l4) := by
  unfold m_Md_put
  refine wm_ckd ?_
  refine wm_iload_n 1 hX dX9_put_0 rfl rfl ?_
  refine wm_cSi (st := []) hX hz (i_Md_isReel i1) cal_Md_isReel wd_892 rfl (fits_Md_put_Md_isReel) (Nat.le_of_ble_eq_true rfl) dX9_put_1 (fun v1 => ?_)
  refine wm_if_eq 19 hX dX9_put_4 (by decide) ?_ ?_
  · refine wm_bipush (-2 : Int32) hX dX9_put_19 (by decide) ?_
    exact wm_iret hX hr dX9_put_21
  · refine wm_iload_n 2 hX dX9_put_7 rfl rfl ?_
    refine wm_i2l hX dX9_put_8 ?_
    refine wm_lconst (0 : Int64) hX dX9_put_9 (by decide) ?_
    refine wm_ldc2 hX dX9_put_10 wd_895 ?_
    refine wm_cSi (st := []) hX hz (i_Md_in (i2.toInt64) (0 : Int64) (5 : Int64)) cal_Md_in wd_896 rfl (fits_Md_put_Md_in) (Nat.le_of_ble_eq_true rfl) dX9_put_13 (fun v2 => ?_)
    refine wm_if_ne 22 hX dX9_put_16 (by decide) ?_ ?_
    · refine wm_aload_n 0 hX dX9_put_22 rfl rfl ?_
      refine wm_iload_n 1 hX dX9_put_23 rfl rfl ?_
      refine wm_iload_n 2 hX dX9_put_24 rfl rfl ?_
      refine wm_iload_n 3 hX dX9_put_25 rfl rfl ?_
      refine wm_cVi (st := []) hX hz (i_Md_lacks a0 i1 i2 i3) Ckd.of rfl cal_Md_lacks wd_911 rfl (fits_Md_put_Md_lacks) (Nat.le_of_ble_eq_true rfl) dX9_put_26 (fun v3 => ?_)
      refine wm_istore [(6, .int v3), (0, .ref a0), (1, .int i1), (2, .int i2), (3, .int i3), (4, .long l4)] hX dX9_put_29 (by decide) rfl ?_
      refine wm_iload 0 hX dX9_put_31 rfl ?_
      refine wm_if_le 43 hX dX9_put_33 (by decide) ?_ ?_
      · refine wm_aload_n 1 hX dX9_put_43 rfl rfl ?_
        refine wm_gR hX fl_RX9_20 dX9_put_44 (fun v4 => ?_)
        refine wm_bipush (60 : Int32) hX dX9_put_47 (by decide) ?_
        refine wm_iload_n 2 hX dX9_put_49 rfl rfl ?_
        refine wm_imul hX dX9_put_50 ?_
        refine wm_iload_n 4 hX dX9_put_51 rfl rfl ?_
        refine wm_iadd hX dX9_put_52 ?_
        refine wm_iload_n 3 hX dX9_put_53 rfl rfl ?_
        refine wm_lload 5 hX dX9_put_54 rfl ?_
        refine wm_cSl (st := [.int (((60 : Int32) * i1) + i3), .ref v4]) hX hz (i_Md_laid i2 l4) cal_Md_laid wd_915 rfl (fits_Md_put_Md_laid) (Nat.le_of_ble_eq_true rfl) dX9_put_56 (fun v5 => ?_)
        refine wm_stL hX dX9_put_59 ?_
        refine wm_iconst (1 : Int32) hX dX9_put_60 (by decide) ?_
        exact wm_iret hX hr dX9_put_61
      · refine wm_aload_n 1 hX dX9_put_36 rfl rfl ?_
        refine wm_iload 0 hX dX9_put_37 rfl ?_
        refine wm_cVi (st := []) hX hz (i_Md_meets a0 v3) Ckd.of rfl cal_Md_meets wd_899 rfl (fits_Md_put_Md_meets) (Nat.le_of_ble_eq_true rfl) dX9_put_39 (fun v6 => ?_)
        exact wm_iret hX hr dX9_put_42
    · refine wm_bipush (-2 : Int32) hX dX9_put_19 (by decide) ?_
      exact wm_iret hX hr dX9_put_21
theorem i_Md_put (a0 : Nat) (i1 : Int32) (i2 : Int32) (i3 : Int32) (l4 : Int64) : Im false yX9_put cX9_put 7 (some .int) rm_Md_put injI [.ref a0, .int i1, .int i2, .int i3, .long l4] (m_Md_put a0 i1 i2 i3 l4) := Im.of RX9 (by decide) rfl (Nat.le_of_ble_eq_true rfl) (fun X hX hr hn hz => w_Md_put hX hr hz a0 i1 i2 i3 l4)
set_option maxRecDepth 20000 in
theorem w_Ob_get {X : CX Int64} (hX : Cx X RX8 cX8_get 4 rm_Ob_get) (hr : Rt X injL (some .long) rm_Ob_get.cells rm_Ob_get.slots) (hz : Zx X false) (a0 : Nat) (i1 : Int32) (i2 : Int32) (i3 : Int32) : WM X 0 [(0, .ref a0), (1, .int i1), (2, .int i2), (3, .int i3)] [] 0 0 (m_Ob_get a0 i1 i2 i3) := by
  unfold m_Ob_get
  refine wm_ckd ?_
  refine wm_aload_n 0 hX dX8_get_0 rfl rfl ?_
  refine wm_iload_n 1 hX dX8_get_1 rfl rfl ?_
  refine wm_iload_n 2 hX dX8_get_2 rfl rfl ?_
  refine wm_iload_n 3 hX dX8_get_3 rfl rfl ?_
  refine wm_cVi (st := []) hX hz (i_Ob_refuseItem a0 i1 i2 i3) Ckd.of rfl cal_Ob_refuseItem wd_378 rfl (fits_Ob_get_Ob_refuseItem) (Nat.le_of_ble_eq_true rfl) dX8_get_4 (fun v1 => ?_)
  refine wm_if_eq 12 hX dX8_get_7 (by decide) ?_ ?_
  · refine wm_aload_n 0 hX dX8_get_12 rfl rfl ?_
    refine wm_gR hX fl_RX8_11 dX8_get_13 (fun v2 => ?_)
    refine wm_iload_n 1 hX dX8_get_16 rfl rfl ?_
    refine wm_ldR (by decide) hX dX8_get_17 (fun v3 => ?_)
    refine wm_gR hX fl_RX8_102 dX8_get_18 (fun v4 => ?_)
    refine wm_iload_n 3 hX dX8_get_21 rfl rfl ?_
    refine wm_ldL hX dX8_get_22 (fun v5 => ?_)
    exact wm_lret hX hr dX8_get_23
  · refine wm_lconst (0 : Int64) hX dX8_get_10 (by decide) ?_
    exact wm_lret hX hr dX8_get_11
theorem i_Ob_get (a0 : Nat) (i1 : Int32) (i2 : Int32) (i3 : Int32) : Im false yX8_get cX8_get 4 (some .long) rm_Ob_get injL [.ref a0, .int i1, .int i2, .int i3] (m_Ob_get a0 i1 i2 i3) := Im.of RX8 (by decide) rfl (Nat.le_of_ble_eq_true rfl) (fun X hX hr hn hz => w_Ob_get hX hr hz a0 i1 i2 i3)
set_option maxRecDepth 20000 in
theorem w_Md_get {X : CX Int64} (hX : Cx X RX9 cX9_get 6 rm_Md_get) (hr : Rt X injL (some .long) rm_Md_get.cells rm_Md_get.slots) (hz : Zx X false) (a0 : Nat) (i1 : Int32) (i2 : Int32) (i3 : Int32) : WM X 0 [(0, .ref a0), (1, .int i1), (2, .int i2), (3, .int i3)] [] 0 0 (m_Md_get a0 i1 i2 i3) := by
  unfold m_Md_get
  refine wm_ckd ?_
  refine wm_iload_n 1 hX dX9_get_0 rfl rfl ?_
  refine wm_cSi (st := []) hX hz (i_Md_isReel i1) cal_Md_isReel wd_892 rfl (fits_Md_get_Md_isReel) (Nat.le_of_ble_eq_true rfl) dX9_get_1 (fun v1 => ?_)
  refine wm_if_eq 19 hX dX9_get_4 (by decide) ?_ ?_
  · refine wm_lconst (0 : Int64) hX dX9_get_19 (by decide) ?_
    exact wm_lret hX hr dX9_get_20
  · refine wm_iload_n 2 hX dX9_get_7 rfl rfl ?_
    refine wm_i2l hX dX9_get_8 ?_
    refine wm_lconst (0 : Int64) hX dX9_get_9 (by decide) ?_
    refine wm_ldc2 hX dX9_get_10 wd_895 ?_
    refine wm_cSi (st := []) hX hz (i_Md_in (i2.toInt64) (0 : Int64) (5 : Int64)) cal_Md_in wd_896 rfl (fits_Md_get_Md_in) (Nat.le_of_ble_eq_true rfl) dX9_get_13 (fun v2 => ?_)
    refine wm_if_ne 21 hX dX9_get_16 (by decide) ?_ ?_
    · refine wm_aload_n 0 hX dX9_get_21 rfl rfl ?_
      refine wm_iload_n 1 hX dX9_get_22 rfl rfl ?_
      refine wm_iload_n 2 hX dX9_get_23 rfl rfl ?_
      refine wm_iload_n 3 hX dX9_get_24 rfl rfl ?_
      refine wm_cVi (st := []) hX hz (i_Md_lacks a0 i1 i2 i3) Ckd.of rfl cal_Md_lacks wd_911 rfl (fits_Md_get_Md_lacks) (Nat.le_of_ble_eq_true rfl) dX9_get_25 (fun v3 => ?_)
      refine wm_istore [(4, .int v3), (0, .ref a0), (1, .int i1), (2, .int i2), (3, .int i3)] hX dX9_get_28 (by decide) rfl ?_
      refine wm_iload 0 hX dX9_get_30 rfl ?_
      refine wm_if_le 45 hX dX9_get_32 (by decide) ?_ ?_
      · refine wm_aload_n 1 hX dX9_get_45 rfl rfl ?_
        refine wm_gR hX fl_RX9_20 dX9_get_46 (fun v4 => ?_)
        refine wm_bipush (60 : Int32) hX dX9_get_49 (by decide) ?_
        refine wm_iload_n 2 hX dX9_get_51 rfl rfl ?_
        refine wm_imul hX dX9_get_52 ?_
        refine wm_iload_n 4 hX dX9_get_53 rfl rfl ?_
        refine wm_iadd hX dX9_get_54 ?_
        refine wm_ldL hX dX9_get_55 (fun v5 => ?_)
        exact wm_lret hX hr dX9_get_56
      · refine wm_aload_n 1 hX dX9_get_35 rfl rfl ?_
        refine wm_iload 0 hX dX9_get_36 rfl ?_
        refine wm_cVi (st := []) hX hz (i_Md_meets a0 v3) Ckd.of rfl cal_Md_meets wd_899 rfl (fits_Md_get_Md_meets) (Nat.le_of_ble_eq_true rfl) dX9_get_38 (fun v6 => ?_)
        refine wm_istore [(5, .int v6), (4, .int v3), (0, .ref a0), (1, .int i1), (2, .int i2), (3, .int i3)] hX dX9_get_41 (by decide) rfl ?_
        refine wm_lconst (0 : Int64) hX dX9_get_43 (by decide) ?_
        exact wm_lret hX hr dX9_get_44
    · refine wm_lconst (0 : Int64) hX dX9_get_19 (by decide) ?_
      exact wm_lret hX hr dX9_get_20
theorem i_Md_get (a0 : Nat) (i1 : Int32) (i2 : Int32) (i3 : Int32) : Im false yX9_get cX9_get 6 (some .long) rm_Md_get injL [.ref a0, .int i1, .int i2, .int i3] (m_Md_get a0 i1 i2 i3) := Im.of RX9 (by decide) rfl (Nat.le_of_ble_eq_true rfl) (fun X hX hr hn hz => w_Md_get hX hr hz a0 i1 i2 i3)
set_option maxRecDepth 20000 in
theorem w_Rl_hasRow {X : CX Int32} (hX : Cx X RX3 cX3_hasRow 3 rm_Rl_hasRow) (hr : Rt X injI (some .boolean) rm_Rl_hasRow.cells rm_Rl_hasRow.slots) (hz : Zx X false) (a0 : Nat) (i1 : Int32) (i2 : Int32) : WM X 0 [(0, .ref a0), (1, .int i1), (2, .int i2)] [] 0 0 (m_Rl_hasRow a0 i1 i2) := by
  unfold m_Rl_hasRow
  refine wm_ckd ?_
  refine wm_iload_n 1 hX dX3_hasRow_0 rfl rfl ?_
  refine wm_if_lt 30 hX dX3_hasRow_1 (by decide) ?_ ?_
  · refine wm_iconst (0 : Int32) hX dX3_hasRow_30 (by decide) ?_
    exact wm_zret hX hr dX3_hasRow_31
  · refine wm_iload_n 2 hX dX3_hasRow_4 rfl rfl ?_
    refine wm_if_lt 30 hX dX3_hasRow_5 (by decide) ?_ ?_
    · refine wm_iconst (0 : Int32) hX dX3_hasRow_30 (by decide) ?_
      exact wm_zret hX hr dX3_hasRow_31
    · refine wm_iload_n 1 hX dX3_hasRow_8 rfl rfl ?_
      refine wm_aload_n 0 hX dX3_hasRow_9 rfl rfl ?_
      refine wm_gI hX fl_RX3_23 dX3_hasRow_10 (fun v1 => ?_)
      refine wm_icmp_gt 30 hX dX3_hasRow_13 (by decide) ?_ ?_
      · refine wm_iconst (0 : Int32) hX dX3_hasRow_30 (by decide) ?_
        exact wm_zret hX hr dX3_hasRow_31
      · refine wm_iload_n 2 hX dX3_hasRow_16 rfl rfl ?_
        refine wm_aload_n 0 hX dX3_hasRow_17 rfl rfl ?_
        refine wm_gI hX fl_RX3_23 dX3_hasRow_18 (fun v2 => ?_)
        refine wm_iload_n 1 hX dX3_hasRow_21 rfl rfl ?_
        refine wm_isub hX dX3_hasRow_22 ?_
        refine wm_icmp_gt 30 hX dX3_hasRow_23 (by decide) ?_ ?_
        · refine wm_iconst (0 : Int32) hX dX3_hasRow_30 (by decide) ?_
          exact wm_zret hX hr dX3_hasRow_31
        · refine wm_iconst (1 : Int32) hX dX3_hasRow_26 (by decide) ?_
          refine wm_goto (tgt := 31) hX dX3_hasRow_27 (by decide) ?_
          exact wm_zret hX hr dX3_hasRow_31
theorem i_Rl_hasRow (a0 : Nat) (i1 : Int32) (i2 : Int32) : Im false yX3_hasRow cX3_hasRow 3 (some .boolean) rm_Rl_hasRow injI [.ref a0, .int i1, .int i2] (m_Rl_hasRow a0 i1 i2) := Im.of RX3 (by decide) rfl (Nat.le_of_ble_eq_true rfl) (fun X hX hr hn hz => w_Rl_hasRow hX hr hz a0 i1 i2)
set_option maxRecDepth 20000 in
theorem w_Ob_copy {X : CX Int32} (hX : Cx X RX8 cX8_copy 8 rm_Ob_copy) (hr : Rt X injI (some .int) rm_Ob_copy.cells rm_Ob_copy.slots) (hz : Zx X false) (a0 : Nat) (i1 : Int32) (i2 : Int32) (i3 : Int32) (i4 : Int32) (i5 : Int32) : WM X 0 [(0, .ref a0), (1, .int i1), (2, .int i2), (3, .int i3), (4, .int i4), (5, .int i5)] [] 0 0 (m_Ob_copy a0 i1 i2 i3 i4 i5) := by
  unfold m_Ob_copy
  refine wm_ckd ?_
  refine wm_iload_n 1 hX dX8_copy_0 rfl rfl ?_
  refine wm_cSi (st := []) hX hz (i_Ob_isReel i1) cal_Ob_isReel wd_353 rfl (fits_Ob_copy_Ob_isReel) (Nat.le_of_ble_eq_true rfl) dX8_copy_1 (fun v1 => ?_)
  refine wm_if_eq 14 hX dX8_copy_4 (by decide) ?_ ?_
  · refine wm_bipush (-2 : Int32) hX dX8_copy_14 (by decide) ?_
    exact wm_iret hX hr dX8_copy_16
  · refine wm_iload_n 3 hX dX8_copy_7 rfl rfl ?_
    refine wm_cSi (st := []) hX hz (i_Ob_isReel i3) cal_Ob_isReel wd_353 rfl (fits_Ob_copy_Ob_isReel) (Nat.le_of_ble_eq_true rfl) dX8_copy_8 (fun v2 => ?_)
    refine wm_if_ne 17 hX dX8_copy_11 (by decide) ?_ ?_
    · refine wm_aload_n 0 hX dX8_copy_17 rfl rfl ?_
      refine wm_gR hX fl_RX8_11 dX8_copy_18 (fun v3 => ?_)
      refine wm_iload_n 1 hX dX8_copy_21 rfl rfl ?_
      refine wm_ldR (by decide) hX dX8_copy_22 (fun v4 => ?_)
      refine wm_astore [(6, .ref v4), (0, .ref a0), (1, .int i1), (2, .int i2), (3, .int i3), (4, .int i4), (5, .int i5)] hX dX8_copy_23 (by decide) rfl ?_
      refine wm_aload_n 1 hX dX8_copy_25 rfl rfl ?_
      refine wm_gR hX fl_RX8_11 dX8_copy_26 (fun v5 => ?_)
      refine wm_iload_n 4 hX dX8_copy_29 rfl rfl ?_
      refine wm_ldR (by decide) hX dX8_copy_30 (fun v6 => ?_)
      refine wm_astore [(7, .ref v6), (6, .ref v4), (0, .ref a0), (1, .int i1), (2, .int i2), (3, .int i3), (4, .int i4), (5, .int i5)] hX dX8_copy_31 (by decide) rfl ?_
      refine wm_aload 1 hX dX8_copy_33 rfl ?_
      refine wm_gI hX fl_RX8_91 dX8_copy_35 (fun v7 => ?_)
      refine wm_if_ne 49 hX dX8_copy_38 (by decide) ?_ ?_
      · refine wm_aload_n 2 hX dX8_copy_49 rfl rfl ?_
        refine wm_iconst (1 : Int32) hX dX8_copy_50 (by decide) ?_
        refine wm_cVi (st := []) hX hz (i_Ob_found a0 (1 : Int32)) Ckd.of rfl cal_Ob_found wd_359 rfl (fits_Ob_copy_Ob_found) (Nat.le_of_ble_eq_true rfl) dX8_copy_51 (fun v8 => ?_)
        exact wm_iret hX hr dX8_copy_54
      · refine wm_aload 0 hX dX8_copy_41 rfl ?_
        refine wm_gI hX fl_RX8_91 dX8_copy_43 (fun v9 => ?_)
        refine wm_if_eq 55 hX dX8_copy_46 (by decide) ?_ ?_
        · refine wm_aload 1 hX dX8_copy_55 rfl ?_
          refine wm_gI hX fl_RX8_110 dX8_copy_57 (fun v10 => ?_)
          refine wm_aload 0 hX dX8_copy_60 rfl ?_
          refine wm_gI hX fl_RX8_110 dX8_copy_62 (fun v11 => ?_)
          refine wm_icmp_eq 74 hX dX8_copy_65 (by decide) ?_ ?_
          · refine wm_aload 1 hX dX8_copy_74 rfl ?_
            refine wm_iload_n 4 hX dX8_copy_76 rfl rfl ?_
            refine wm_iload 7 hX dX8_copy_77 rfl ?_
            refine wm_cVi (st := []) hX hz (i_Rl_hasRow v4 i2 i5) Ckd.of rfl cal_Rl_hasRow wd_406 rfl (fits_Ob_copy_Rl_hasRow) (Nat.le_of_ble_eq_true rfl) dX8_copy_79 (fun v12 => ?_)
            refine wm_if_eq 97 hX dX8_copy_82 (by decide) ?_ ?_
            · refine wm_aload_n 2 hX dX8_copy_97 rfl rfl ?_
              refine wm_iconst (2 : Int32) hX dX8_copy_98 (by decide) ?_
              refine wm_cVi (st := []) hX hz (i_Ob_found a0 (2 : Int32)) Ckd.of rfl cal_Ob_found wd_359 rfl (fits_Ob_copy_Ob_found) (Nat.le_of_ble_eq_true rfl) dX8_copy_99 (fun v13 => ?_)
              exact wm_iret hX hr dX8_copy_102
            · refine wm_aload 0 hX dX8_copy_85 rfl ?_
              refine wm_iload 6 hX dX8_copy_87 rfl ?_
              refine wm_iload 7 hX dX8_copy_89 rfl ?_
              refine wm_cVi (st := []) hX hz (i_Rl_hasRow v6 i4 i5) Ckd.of rfl cal_Rl_hasRow wd_406 rfl (fits_Ob_copy_Rl_hasRow) (Nat.le_of_ble_eq_true rfl) dX8_copy_91 (fun v14 => ?_)
              refine wm_if_ne 103 hX dX8_copy_94 (by decide) ?_ ?_
              · refine wm_aload 1 hX dX8_copy_103 rfl ?_
                refine wm_gR hX fl_RX8_102 dX8_copy_105 (fun v15 => ?_)
                refine wm_iload_n 4 hX dX8_copy_108 rfl rfl ?_
                refine wm_aload 0 hX dX8_copy_109 rfl ?_
                refine wm_gR hX fl_RX8_102 dX8_copy_111 (fun v16 => ?_)
                refine wm_iload 6 hX dX8_copy_114 rfl ?_
                refine wm_iload 7 hX dX8_copy_116 rfl ?_
                refine wm_acp hX hz ⟨wd_410, wd_412, wd_411, wd_52⟩ ⟨Nat.le_of_ble_eq_true rfl, Nat.le_of_ble_eq_true rfl⟩ dX8_copy_118 ?_
                refine wm_iconst (1 : Int32) hX dX8_copy_121 (by decide) ?_
                exact wm_iret hX hr dX8_copy_122
              · refine wm_aload_n 2 hX dX8_copy_97 rfl rfl ?_
                refine wm_iconst (2 : Int32) hX dX8_copy_98 (by decide) ?_
                refine wm_cVi (st := []) hX hz (i_Ob_found a0 (2 : Int32)) Ckd.of rfl cal_Ob_found wd_359 rfl (fits_Ob_copy_Ob_found) (Nat.le_of_ble_eq_true rfl) dX8_copy_99 (fun v17 => ?_)
                exact wm_iret hX hr dX8_copy_102
          · refine wm_aload_n 2 hX dX8_copy_68 rfl rfl ?_
            refine wm_iconst (4 : Int32) hX dX8_copy_69 (by decide) ?_
            refine wm_cVi (st := []) hX hz (i_Ob_found a0 (4 : Int32)) Ckd.of rfl cal_Ob_found wd_359 rfl (fits_Ob_copy_Ob_found) (Nat.le_of_ble_eq_true rfl) dX8_copy_70 (fun v18 => ?_)
            exact wm_iret hX hr dX8_copy_73
        · refine wm_aload_n 2 hX dX8_copy_49 rfl rfl ?_
          refine wm_iconst (1 : Int32) hX dX8_copy_50 (by decide) ?_
          refine wm_cVi (st := []) hX hz (i_Ob_found a0 (1 : Int32)) Ckd.of rfl cal_Ob_found wd_359 rfl (fits_Ob_copy_Ob_found) (Nat.le_of_ble_eq_true rfl) dX8_copy_51 (fun v19 => ?_)
          exact wm_iret hX hr dX8_copy_54
    · refine wm_bipush (-2 : Int32) hX dX8_copy_14 (by decide) ?_
      exact wm_iret hX hr dX8_copy_16
theorem i_Ob_copy (a0 : Nat) (i1 : Int32) (i2 : Int32) (i3 : Int32) (i4 : Int32) (i5 : Int32) : Im false yX8_copy cX8_copy 8 (some .int) rm_Ob_copy injI [.ref a0, .int i1, .int i2, .int i3, .int i4, .int i5] (m_Ob_copy a0 i1 i2 i3 i4 i5) := Im.of RX8 (by decide) rfl (Nat.le_of_ble_eq_true rfl) (fun X hX hr hn hz => w_Ob_copy hX hr hz a0 i1 i2 i3 i4 i5)
set_option maxRecDepth 20000 in
theorem wb_Md_copy_157 {X : CX Int32} (hX : Cx X RX9 cX9_copy 7 rm_Md_copy) (hr : Rt X injI (some .int) rm_Md_copy.cells rm_Md_copy.slots) (hz : Zx X false) {k157 : Nat → Int32 → Int32 → Int32 → Int32 → M Int32} (h157 : ∀ (a0 : Nat) (i3 : Int32) (i4 : Int32) (i5 : Int32) (i6 : Int32), WM X 157 [(0, .ref a0), (3, .int i3), (4, .int i4), (5, .int i5), (6, .int i6)] [] 0 0 (k157 a0 i3 i4 i5 i6)) (a0 : Nat) (i3 : Int32) (i4 : Int32) (i5 : Int32) (i6 : Int32) : WM X 157 [(0, .ref a0), (3, .int i3), (4, .int i4), (5, .int i5), (6, .int i6)] [] 0 0 (b_Md_copy_157 k157 a0 i3 i4 i5 i6) := by
  unfold b_Md_copy_157
  refine wm_iload 4 hX dX9_copy_157 rfl ?_
  refine wm_iload 3 hX dX9_copy_159 rfl ?_
  refine wm_icmp_ge 192 hX dX9_copy_161 (by decide) ?_ ?_
  · refine wm_iconst (1 : Int32) hX dX9_copy_192 (by decide) ?_
    exact wm_iret hX hr dX9_copy_193
  · refine wm_aload_n 0 hX dX9_copy_164 rfl rfl ?_
    refine wm_gR hX fl_RX9_20 dX9_copy_165 (fun v1 => ?_)
    refine wm_bipush (60 : Int32) hX dX9_copy_168 (by decide) ?_
    refine wm_iload_n 1 hX dX9_copy_170 rfl rfl ?_
    refine wm_imul hX dX9_copy_171 ?_
    refine wm_iload 2 hX dX9_copy_172 rfl ?_
    refine wm_iadd hX dX9_copy_174 ?_
    refine wm_iload 4 hX dX9_copy_175 rfl ?_
    refine wm_iadd hX dX9_copy_177 ?_
    refine wm_aload_n 0 hX dX9_copy_178 rfl rfl ?_
    refine wm_gR hX fl_RX9_24 dX9_copy_179 (fun v2 => ?_)
    refine wm_iload 4 hX dX9_copy_182 rfl ?_
    refine wm_ldL hX dX9_copy_184 (fun v3 => ?_)
    refine wm_stL hX dX9_copy_185 ?_
    refine wm_iinc (i6 + 1) 4 [(6, .int (i6 + 1)), (0, .ref a0), (3, .int i3), (4, .int i4), (5, .int i5)] hX dX9_copy_186 rfl rfl (by decide) rfl ?_
    refine wm_goto (tgt := 157) hX dX9_copy_189 (by decide) ?_
    refine wm_sub [1, 2, 3, 4, 0] [(0, .ref a0), (3, .int i3), (4, .int i4), (5, .int i5), (6, .int (i6 + 1))] rfl ?_
    exact h157 a0 i3 i4 i5 (i6 + 1)
theorem wl_Md_copy_157 {X : CX Int32} (hX : Cx X RX9 cX9_copy 7 rm_Md_copy) (hr : Rt X injI (some .int) rm_Md_copy.cells rm_Md_copy.slots) (hz : Zx X false) : ∀ (n : Nat) (a0 : Nat) (i3 : Int32) (i4 : Int32) (i5 : Int32) (i6 : Int32), WM X 157 [(0, .ref a0), (3, .int i3), (4, .int i4), (5, .int i5), (6, .int i6)] [] 0 0 (l_Md_copy_157 n a0 i3 i4 i5 i6)
  | 0, _, _, _, _, _ => wm_fl
  | n + 1, a0, i3, i4, i5, i6 => wb_Md_copy_157 hX hr hz (wl_Md_copy_157 hX hr hz n) a0 i3 i4 i5 i6
set_option maxRecDepth 20000 in
theorem wb_Md_copy_120 {X : CX Int32} (hX : Cx X RX9 cX9_copy 7 rm_Md_copy) (hr : Rt X injI (some .int) rm_Md_copy.cells rm_Md_copy.slots) (hz : Zx X false) {k120 : Nat → Int32 → Int32 → Int32 → Int32 → Int32 → Int32 → M Int32} (h120 : ∀ (a0 : Nat) (i1 : Int32) (i2 : Int32) (i3 : Int32) (i4 : Int32) (i5 : Int32) (i6 : Int32), WM X 120 [(0, .ref a0), (1, .int i1), (2, .int i2), (3, .int i3), (4, .int i4), (5, .int i5), (6, .int i6)] [] 0 0 (k120 a0 i1 i2 i3 i4 i5 i6)) (a0 : Nat) (i1 : Int32) (i2 : Int32) (i3 : Int32) (i4 : Int32) (i5 : Int32) (i6 : Int32) : WM X 120 [(0, .ref a0), (1, .int i1), (2, .int i2), (3, .int i3), (4, .int i4), (5, .int i5), (6, .int i6)] [] 0 0 (b_Md_copy_120 k120 a0 i1 i2 i3 i4 i5 i6) := by
  unfold b_Md_copy_120
  refine wm_iload 6 hX dX9_copy_120 rfl ?_
  refine wm_iload 5 hX dX9_copy_122 rfl ?_
  refine wm_icmp_ge 154 hX dX9_copy_124 (by decide) ?_ ?_
  · refine wm_iconst (0 : Int32) hX dX9_copy_154 (by decide) ?_
    refine wm_istore [(6, .int (0 : Int32)), (0, .ref a0), (1, .int i1), (2, .int i2), (3, .int i3), (4, .int i4), (5, .int i5)] hX dX9_copy_155 (by decide) rfl ?_
    refine wm_sub [1, 4, 5, 6, 0] [(0, .ref a0), (3, .int i3), (4, .int i4), (5, .int i5), (6, .int (0 : Int32))] rfl ?_
    exact wl_Md_copy_157 hX hr hz FU a0 i3 i4 i5 (0 : Int32)
  · refine wm_aload_n 0 hX dX9_copy_127 rfl rfl ?_
    refine wm_gR hX fl_RX9_24 dX9_copy_128 (fun v1 => ?_)
    refine wm_iload 6 hX dX9_copy_131 rfl ?_
    refine wm_aload_n 0 hX dX9_copy_133 rfl rfl ?_
    refine wm_gR hX fl_RX9_20 dX9_copy_134 (fun v2 => ?_)
    refine wm_bipush (60 : Int32) hX dX9_copy_137 (by decide) ?_
    refine wm_iload_n 1 hX dX9_copy_139 rfl rfl ?_
    refine wm_imul hX dX9_copy_140 ?_
    refine wm_iload_n 2 hX dX9_copy_141 rfl rfl ?_
    refine wm_iadd hX dX9_copy_142 ?_
    refine wm_iload 6 hX dX9_copy_143 rfl ?_
    refine wm_iadd hX dX9_copy_145 ?_
    refine wm_ldL hX dX9_copy_146 (fun v3 => ?_)
    refine wm_stL hX dX9_copy_147 ?_
    refine wm_iinc (i6 + 1) 6 [(6, .int (i6 + 1)), (0, .ref a0), (1, .int i1), (2, .int i2), (3, .int i3), (4, .int i4), (5, .int i5)] hX dX9_copy_148 rfl rfl (by decide) rfl ?_
    refine wm_goto (tgt := 120) hX dX9_copy_151 (by decide) ?_
    refine wm_sub [1, 2, 3, 4, 5, 6, 0] [(0, .ref a0), (1, .int i1), (2, .int i2), (3, .int i3), (4, .int i4), (5, .int i5), (6, .int (i6 + 1))] rfl ?_
    exact h120 a0 i1 i2 i3 i4 i5 (i6 + 1)
theorem wl_Md_copy_120 {X : CX Int32} (hX : Cx X RX9 cX9_copy 7 rm_Md_copy) (hr : Rt X injI (some .int) rm_Md_copy.cells rm_Md_copy.slots) (hz : Zx X false) : ∀ (n : Nat) (a0 : Nat) (i1 : Int32) (i2 : Int32) (i3 : Int32) (i4 : Int32) (i5 : Int32) (i6 : Int32), WM X 120 [(0, .ref a0), (1, .int i1), (2, .int i2), (3, .int i3), (4, .int i4), (5, .int i5), (6, .int i6)] [] 0 0 (l_Md_copy_120 n a0 i1 i2 i3 i4 i5 i6)
  | 0, _, _, _, _, _, _, _ => wm_fl
  | n + 1, a0, i1, i2, i3, i4, i5, i6 => wb_Md_copy_120 hX hr hz (wl_Md_copy_120 hX hr hz n) a0 i1 i2 i3 i4 i5 i6
set_option maxRecDepth 20000 in
theorem w_Md_copy {X : CX Int32} (hX : Cx X RX9 cX9_copy 7 rm_Md_copy) (hr : Rt X injI (some .int) rm_Md_copy.cells rm_Md_copy.slots) (hz : Zx X false) (a0 : Nat) (i1 : Int32) (i2 : Int32) (i3 : Int32) (i4 : Int32) (i5 : Int32) : WM X 0 [(0, .ref a0), (1, .int i1), (2, .int i2), (3, .int i3), (4, .int i4), (5, .int i5)] [] 0 0 (m_Md_copy a0 i1 i2 i3 i4 i5) := by
  unfold m_Md_copy
  refine wm_ckd ?_
  refine wm_iload_n 1 hX dX9_copy_0 rfl rfl ?_
  refine wm_cSi (st := []) hX hz (i_Md_isReel i1) cal_Md_isReel wd_892 rfl (fits_Md_copy_Md_isReel) (Nat.le_of_ble_eq_true rfl) dX9_copy_1 (fun v1 => ?_)
  refine wm_if_eq 14 hX dX9_copy_4 (by decide) ?_ ?_
  · refine wm_bipush (-2 : Int32) hX dX9_copy_14 (by decide) ?_
    exact wm_iret hX hr dX9_copy_16
  · refine wm_iload_n 3 hX dX9_copy_7 rfl rfl ?_
    refine wm_cSi (st := []) hX hz (i_Md_isReel i3) cal_Md_isReel wd_892 rfl (fits_Md_copy_Md_isReel) (Nat.le_of_ble_eq_true rfl) dX9_copy_8 (fun v2 => ?_)
    refine wm_if_ne 17 hX dX9_copy_11 (by decide) ?_ ?_
    · refine wm_aload_n 0 hX dX9_copy_17 rfl rfl ?_
      refine wm_gR hX fl_RX9_7 dX9_copy_18 (fun v3 => ?_)
      refine wm_iload_n 1 hX dX9_copy_21 rfl rfl ?_
      refine wm_ldZ hX dX9_copy_22 (fun v4 => ?_)
      refine wm_if_eq 35 hX dX9_copy_23 (by decide) ?_ ?_
      · refine wm_aload_n 0 hX dX9_copy_35 rfl rfl ?_
        refine wm_iconst (1 : Int32) hX dX9_copy_36 (by decide) ?_
        refine wm_cVi (st := []) hX hz (i_Md_meets a0 (1 : Int32)) Ckd.of rfl cal_Md_meets wd_899 rfl (fits_Md_copy_Md_meets) (Nat.le_of_ble_eq_true rfl) dX9_copy_37 (fun v5 => ?_)
        exact wm_iret hX hr dX9_copy_40
      · refine wm_aload_n 0 hX dX9_copy_26 rfl rfl ?_
        refine wm_gR hX fl_RX9_7 dX9_copy_27 (fun v6 => ?_)
        refine wm_iload_n 3 hX dX9_copy_30 rfl rfl ?_
        refine wm_ldZ hX dX9_copy_31 (fun v7 => ?_)
        refine wm_if_ne 41 hX dX9_copy_32 (by decide) ?_ ?_
        · refine wm_aload_n 0 hX dX9_copy_41 rfl rfl ?_
          refine wm_gR hX fl_RX9_13 dX9_copy_42 (fun v8 => ?_)
          refine wm_iload_n 1 hX dX9_copy_45 rfl rfl ?_
          refine wm_ldI hX dX9_copy_46 (fun v9 => ?_)
          refine wm_aload_n 0 hX dX9_copy_47 rfl rfl ?_
          refine wm_gR hX fl_RX9_13 dX9_copy_48 (fun v10 => ?_)
          refine wm_iload_n 3 hX dX9_copy_51 rfl rfl ?_
          refine wm_ldI hX dX9_copy_52 (fun v11 => ?_)
          refine wm_icmp_eq 62 hX dX9_copy_53 (by decide) ?_ ?_
          · refine wm_iload_n 2 hX dX9_copy_62 rfl rfl ?_
            refine wm_if_lt 111 hX dX9_copy_63 (by decide) ?_ ?_
            · refine wm_aload_n 0 hX dX9_copy_111 rfl rfl ?_
              refine wm_iconst (2 : Int32) hX dX9_copy_112 (by decide) ?_
              refine wm_cVi (st := []) hX hz (i_Md_meets a0 (2 : Int32)) Ckd.of rfl cal_Md_meets wd_899 rfl (fits_Md_copy_Md_meets) (Nat.le_of_ble_eq_true rfl) dX9_copy_113 (fun v12 => ?_)
              exact wm_iret hX hr dX9_copy_116
            · refine wm_iload 4 hX dX9_copy_66 rfl ?_
              refine wm_if_lt 111 hX dX9_copy_68 (by decide) ?_ ?_
              · refine wm_aload_n 0 hX dX9_copy_111 rfl rfl ?_
                refine wm_iconst (2 : Int32) hX dX9_copy_112 (by decide) ?_
                refine wm_cVi (st := []) hX hz (i_Md_meets a0 (2 : Int32)) Ckd.of rfl cal_Md_meets wd_899 rfl (fits_Md_copy_Md_meets) (Nat.le_of_ble_eq_true rfl) dX9_copy_113 (fun v13 => ?_)
                exact wm_iret hX hr dX9_copy_116
              · refine wm_iload 5 hX dX9_copy_71 rfl ?_
                refine wm_if_lt 111 hX dX9_copy_73 (by decide) ?_ ?_
                · refine wm_aload_n 0 hX dX9_copy_111 rfl rfl ?_
                  refine wm_iconst (2 : Int32) hX dX9_copy_112 (by decide) ?_
                  refine wm_cVi (st := []) hX hz (i_Md_meets a0 (2 : Int32)) Ckd.of rfl cal_Md_meets wd_899 rfl (fits_Md_copy_Md_meets) (Nat.le_of_ble_eq_true rfl) dX9_copy_113 (fun v14 => ?_)
                  exact wm_iret hX hr dX9_copy_116
                · refine wm_iload_n 2 hX dX9_copy_76 rfl rfl ?_
                  refine wm_i2l hX dX9_copy_77 ?_
                  refine wm_iload 5 hX dX9_copy_78 rfl ?_
                  refine wm_i2l hX dX9_copy_80 ?_
                  refine wm_ladd hX dX9_copy_81 ?_
                  refine wm_aload_n 0 hX dX9_copy_82 rfl rfl ?_
                  refine wm_gR hX fl_RX9_17 dX9_copy_83 (fun v15 => ?_)
                  refine wm_iload_n 1 hX dX9_copy_86 rfl rfl ?_
                  refine wm_ldI hX dX9_copy_87 (fun v16 => ?_)
                  refine wm_i2l hX dX9_copy_88 ?_
                  refine wm_lif_gt 111 hX dX9_copy_89 dX9_copy_90 (by decide) ?_ ?_
                  · refine wm_aload_n 0 hX dX9_copy_111 rfl rfl ?_
                    refine wm_iconst (2 : Int32) hX dX9_copy_112 (by decide) ?_
                    refine wm_cVi (st := []) hX hz (i_Md_meets a0 (2 : Int32)) Ckd.of rfl cal_Md_meets wd_899 rfl (fits_Md_copy_Md_meets) (Nat.le_of_ble_eq_true rfl) dX9_copy_113 (fun v17 => ?_)
                    exact wm_iret hX hr dX9_copy_116
                  · refine wm_iload 4 hX dX9_copy_93 rfl ?_
                    refine wm_i2l hX dX9_copy_95 ?_
                    refine wm_iload 5 hX dX9_copy_96 rfl ?_
                    refine wm_i2l hX dX9_copy_98 ?_
                    refine wm_ladd hX dX9_copy_99 ?_
                    refine wm_aload_n 0 hX dX9_copy_100 rfl rfl ?_
                    refine wm_gR hX fl_RX9_17 dX9_copy_101 (fun v18 => ?_)
                    refine wm_iload_n 3 hX dX9_copy_104 rfl rfl ?_
                    refine wm_ldI hX dX9_copy_105 (fun v19 => ?_)
                    refine wm_i2l hX dX9_copy_106 ?_
                    refine wm_lif_le 117 hX dX9_copy_107 dX9_copy_108 (by decide) ?_ ?_
                    · refine wm_iconst (0 : Int32) hX dX9_copy_117 (by decide) ?_
                      refine wm_istore [(6, .int (0 : Int32)), (0, .ref a0), (1, .int i1), (2, .int i2), (3, .int i3), (4, .int i4), (5, .int i5)] hX dX9_copy_118 (by decide) rfl ?_
                      refine wm_sub [1, 2, 3, 4, 5, 6, 0] [(0, .ref a0), (1, .int i1), (2, .int i2), (3, .int i3), (4, .int i4), (5, .int i5), (6, .int (0 : Int32))] rfl ?_
                      exact wl_Md_copy_120 hX hr hz FU a0 i1 i2 i3 i4 i5 (0 : Int32)
                    · refine wm_aload_n 0 hX dX9_copy_111 rfl rfl ?_
                      refine wm_iconst (2 : Int32) hX dX9_copy_112 (by decide) ?_
                      refine wm_cVi (st := []) hX hz (i_Md_meets a0 (2 : Int32)) Ckd.of rfl cal_Md_meets wd_899 rfl (fits_Md_copy_Md_meets) (Nat.le_of_ble_eq_true rfl) dX9_copy_113 (fun v20 => ?_)
                      exact wm_iret hX hr dX9_copy_116
          · refine wm_aload_n 0 hX dX9_copy_56 rfl rfl ?_
            refine wm_iconst (4 : Int32) hX dX9_copy_57 (by decide) ?_
            refine wm_cVi (st := []) hX hz (i_Md_meets a0 (4 : Int32)) Ckd.of rfl cal_Md_meets wd_899 rfl (fits_Md_copy_Md_meets) (Nat.le_of_ble_eq_true rfl) dX9_copy_58 (fun v21 => ?_)
            exact wm_iret hX hr dX9_copy_61
        · refine wm_aload_n 0 hX dX9_copy_35 rfl rfl ?_
          refine wm_iconst (1 : Int32) hX dX9_copy_36 (by decide) ?_
          refine wm_cVi (st := []) hX hz (i_Md_meets a0 (1 : Int32)) Ckd.of rfl cal_Md_meets wd_899 rfl (fits_Md_copy_Md_meets) (Nat.le_of_ble_eq_true rfl) dX9_copy_37 (fun v22 => ?_)
          exact wm_iret hX hr dX9_copy_40
    · refine wm_bipush (-2 : Int32) hX dX9_copy_14 (by decide) ?_
      exact wm_iret hX hr dX9_copy_16
theorem i_Md_copy (a0 : Nat) (i1 : Int32) (i2 : Int32) (i3 : Int32) (i4 : Int32) (i5 : Int32) : Im false yX9_copy cX9_copy 7 (some .int) rm_Md_copy injI [.ref a0, .int i1, .int i2, .int i3, .int i4, .int i5] (m_Md_copy a0 i1 i2 i3 i4 i5) := Im.of RX9 (by decide) rfl (Nat.le_of_ble_eq_true rfl) (fun X hX hr hn hz => w_Md_copy hX hr hz a0 i1 i2 i3 i4 i5)
set_option maxRecDepth 20000 in
theorem w_Ob_refuseSample {X : CX Int32} (hX : Cx X RX8 cX8_refuseSample 4 rm_Ob_refuseSample) (hr : Rt X injI (some .int) rm_Ob_refuseSample.cells rm_Ob_refuseSample.slots) (hz : Zx X false) (a0 : Nat) (i1 : Int32) (l2 : Int64) : WM X 0 [(0, .ref a0), (1, .int i1), (2, .long l2)] [] 0 0 (m_Ob_refuseSample a0 i1 l2) := by
  unfold m_Ob_refuseSample
  refine wm_ckd ?_
  refine wm_aload_n 0 hX dX8_refuseSample_0 rfl rfl ?_
  refine wm_gR hX fl_RX8_11 dX8_refuseSample_1 (fun v1 => ?_)
  refine wm_iload_n 1 hX dX8_refuseSample_4 rfl rfl ?_
  refine wm_ldR (by decide) hX dX8_refuseSample_5 (fun v2 => ?_)
  refine wm_gI hX fl_RX8_91 dX8_refuseSample_6 (fun v3 => ?_)
  refine wm_if_eq 18 hX dX8_refuseSample_9 (by decide) ?_ ?_
  · refine wm_aload_n 0 hX dX8_refuseSample_18 rfl rfl ?_
    refine wm_gR hX fl_RX8_11 dX8_refuseSample_19 (fun v4 => ?_)
    refine wm_iload_n 1 hX dX8_refuseSample_22 rfl rfl ?_
    refine wm_ldR (by decide) hX dX8_refuseSample_23 (fun v5 => ?_)
    refine wm_lload_n 2 hX dX8_refuseSample_24 rfl rfl ?_
    refine wm_cVi (st := []) hX hz (i_Rl_hasItem v5 l2) Ckd.of rfl cal_Rl_hasItem wd_382 rfl (fits_Ob_refuseSample_Rl_hasItem) (Nat.le_of_ble_eq_true rfl) dX8_refuseSample_25 (fun v6 => ?_)
    refine wm_if_eq 35 hX dX8_refuseSample_28 (by decide) ?_ ?_
    · refine wm_aload_n 0 hX dX8_refuseSample_35 rfl rfl ?_
      refine wm_iconst (2 : Int32) hX dX8_refuseSample_36 (by decide) ?_
      refine wm_cVi (st := []) hX hz (i_Ob_found a0 (2 : Int32)) Ckd.of rfl cal_Ob_found wd_359 rfl (fits_Ob_refuseSample_Ob_found) (Nat.le_of_ble_eq_true rfl) dX8_refuseSample_37 (fun v7 => ?_)
      exact wm_iret hX hr dX8_refuseSample_40
    · refine wm_iconst (0 : Int32) hX dX8_refuseSample_31 (by decide) ?_
      refine wm_goto (tgt := 40) hX dX8_refuseSample_32 (by decide) ?_
      exact wm_iret hX hr dX8_refuseSample_40
  · refine wm_aload_n 0 hX dX8_refuseSample_12 rfl rfl ?_
    refine wm_iconst (1 : Int32) hX dX8_refuseSample_13 (by decide) ?_
    refine wm_cVi (st := []) hX hz (i_Ob_found a0 (1 : Int32)) Ckd.of rfl cal_Ob_found wd_359 rfl (fits_Ob_refuseSample_Ob_found) (Nat.le_of_ble_eq_true rfl) dX8_refuseSample_14 (fun v8 => ?_)
    exact wm_iret hX hr dX8_refuseSample_17
theorem i_Ob_refuseSample (a0 : Nat) (i1 : Int32) (l2 : Int64) : Im false yX8_refuseSample cX8_refuseSample 4 (some .int) rm_Ob_refuseSample injI [.ref a0, .int i1, .long l2] (m_Ob_refuseSample a0 i1 l2) := Im.of RX8 (by decide) rfl (Nat.le_of_ble_eq_true rfl) (fun X hX hr hn hz => w_Ob_refuseSample hX hr hz a0 i1 l2)
set_option maxRecDepth 20000 in
theorem w_Lg_latestMade {X : CX Int64} (hX : Cx X RX1 cX1_latestMade 1 rm_Lg_latestMade) (hr : Rt X injL (some .long) rm_Lg_latestMade.cells rm_Lg_latestMade.slots) (hz : Zx X false) (a0 : Nat) : WM X 0 [(0, .ref a0)] [] 0 0 (m_Lg_latestMade a0) := by
  unfold m_Lg_latestMade
  refine wm_ckd ?_
  refine wm_aload_n 0 hX dX1_latestMade_0 rfl rfl ?_
  refine wm_gI hX fl_RX1_18 dX1_latestMade_1 (fun v1 => ?_)
  refine wm_if_le 21 hX dX1_latestMade_4 (by decide) ?_ ?_
  · refine wm_lconst (0 : Int64) hX dX1_latestMade_21 (by decide) ?_
    exact wm_lret hX hr dX1_latestMade_22
  · refine wm_aload_n 0 hX dX1_latestMade_7 rfl rfl ?_
    refine wm_gR hX fl_RX1_15 dX1_latestMade_8 (fun v2 => ?_)
    refine wm_aload_n 0 hX dX1_latestMade_11 rfl rfl ?_
    refine wm_gI hX fl_RX1_18 dX1_latestMade_12 (fun v3 => ?_)
    refine wm_iconst (1 : Int32) hX dX1_latestMade_15 (by decide) ?_
    refine wm_isub hX dX1_latestMade_16 ?_
    refine wm_ldL hX dX1_latestMade_17 (fun v4 => ?_)
    refine wm_goto (tgt := 22) hX dX1_latestMade_18 (by decide) ?_
    exact wm_lret hX hr dX1_latestMade_22
theorem i_Lg_latestMade (a0 : Nat) : Im false yX1_latestMade cX1_latestMade 1 (some .long) rm_Lg_latestMade injL [.ref a0] (m_Lg_latestMade a0) := Im.of RX1 (by decide) rfl (Nat.le_of_ble_eq_true rfl) (fun X hX hr hn hz => w_Lg_latestMade hX hr hz a0)
set_option maxRecDepth 20000 in
theorem w_Ob_sizeOfParts {X : CX Int64} (hX : Cx X RX8 cX8_sizeOfParts 11 rm_Ob_sizeOfParts) (hr : Rt X injL (some .long) rm_Ob_sizeOfParts.cells rm_Ob_sizeOfParts.slots) (hz : Zx X false) (l0 : Int64) (l2 : Int64) (i4 : Int32) (i5 : Int32) : WM X 0 [(0, .long l0), (2, .long l2), (4, .int i4), (5, .int i5)] [] 0 0 (m_Ob_sizeOfParts l0 l2 i4 i5) := by
  unfold m_Ob_sizeOfParts
  refine wm_lload_n 0 hX dX8_sizeOfParts_0 rfl rfl ?_
  refine wm_l2i hX dX8_sizeOfParts_1 ?_
  refine wm_iload 3 hX dX8_sizeOfParts_2 rfl ?_
  refine wm_isub hX dX8_sizeOfParts_4 ?_
  refine wm_leti (fun v1 => ?_)
  refine wm_istore [(6, .int v1), (0, .long l0), (2, .long l2), (4, .int i4), (5, .int i5)] hX dX8_sizeOfParts_5 (by decide) rfl ?_
  refine wm_iload 0 hX dX8_sizeOfParts_7 rfl ?_
  refine wm_if_ge 14 hX dX8_sizeOfParts_9 (by decide) ?_ ?_
  · refine wm_iload 0 hX dX8_sizeOfParts_14 rfl ?_
    refine wm_bipush (40 : Int32) hX dX8_sizeOfParts_16 (by decide) ?_
    refine wm_icmp_lt 25 hX dX8_sizeOfParts_18 (by decide) ?_ ?_
    · refine wm_lload_n 2 hX dX8_sizeOfParts_25 rfl rfl ?_
      refine wm_lconst (1 : Int64) hX dX8_sizeOfParts_26 (by decide) ?_
      refine wm_iload 3 hX dX8_sizeOfParts_27 rfl ?_
      refine wm_lshl hX dX8_sizeOfParts_29 ?_
      refine wm_lor hX dX8_sizeOfParts_30 ?_
      refine wm_letl (fun v2 => ?_)
      refine wm_lstore [(7, .long v2), (6, .int v1), (0, .long l0), (2, .long l2), (4, .int i4), (5, .int i5)] hX dX8_sizeOfParts_31 (by decide) rfl ?_
      refine wm_iload 1 hX dX8_sizeOfParts_33 rfl ?_
      refine wm_iload 4 hX dX8_sizeOfParts_35 rfl ?_
      refine wm_icmp_lt 51 hX dX8_sizeOfParts_37 (by decide) ?_ ?_
      · refine wm_lload 0 hX dX8_sizeOfParts_51 rfl ?_
        refine wm_iload 4 hX dX8_sizeOfParts_53 rfl ?_
        refine wm_iload 1 hX dX8_sizeOfParts_55 rfl ?_
        refine wm_isub hX dX8_sizeOfParts_57 ?_
        refine wm_lushr hX dX8_sizeOfParts_58 ?_
        refine wm_letl (fun v3 => ?_)
        refine wm_lstore [(9, .long v3), (7, .long v2), (6, .int v1), (0, .long l0), (2, .long l2), (4, .int i4), (5, .int i5)] hX dX8_sizeOfParts_59 (by decide) rfl ?_
        refine wm_ldc2 hX dX8_sizeOfParts_61 wd_434 ?_
        refine wm_lload 0 hX dX8_sizeOfParts_64 rfl ?_
        refine wm_mmin hX wd_435 wd_436 wd_53 mc_min ⟨Nat.le_of_ble_eq_true rfl, Nat.le_of_ble_eq_true rfl⟩ ⟨Nat.le_of_ble_eq_true rfl, Nat.le_of_ble_eq_true rfl⟩ dX8_sizeOfParts_66 ?_
        exact wm_lret hX hr dX8_sizeOfParts_69
      · refine wm_lload 0 hX dX8_sizeOfParts_40 rfl ?_
        refine wm_iload 1 hX dX8_sizeOfParts_42 rfl ?_
        refine wm_iload 4 hX dX8_sizeOfParts_44 rfl ?_
        refine wm_isub hX dX8_sizeOfParts_46 ?_
        refine wm_lshl hX dX8_sizeOfParts_47 ?_
        refine wm_goto (tgt := 59) hX dX8_sizeOfParts_48 (by decide) ?_
        refine wm_letl (fun v4 => ?_)
        refine wm_lstore [(9, .long v4), (7, .long v2), (6, .int v1), (0, .long l0), (2, .long l2), (4, .int i4), (5, .int i5)] hX dX8_sizeOfParts_59 (by decide) rfl ?_
        refine wm_ldc2 hX dX8_sizeOfParts_61 wd_434 ?_
        refine wm_lload 0 hX dX8_sizeOfParts_64 rfl ?_
        refine wm_mmin hX wd_435 wd_436 wd_53 mc_min ⟨Nat.le_of_ble_eq_true rfl, Nat.le_of_ble_eq_true rfl⟩ ⟨Nat.le_of_ble_eq_true rfl, Nat.le_of_ble_eq_true rfl⟩ dX8_sizeOfParts_66 ?_
        exact wm_lret hX hr dX8_sizeOfParts_69
    · refine wm_ldc2 hX dX8_sizeOfParts_21 wd_434 ?_
      exact wm_lret hX hr dX8_sizeOfParts_24
  · refine wm_lconst (0 : Int64) hX dX8_sizeOfParts_12 (by decide) ?_
    exact wm_lret hX hr dX8_sizeOfParts_13
theorem i_Ob_sizeOfParts (l0 : Int64) (l2 : Int64) (i4 : Int32) (i5 : Int32) : Im false yX8_sizeOfParts cX8_sizeOfParts 11 (some .long) rm_Ob_sizeOfParts injL [.long l0, .long l2, .int i4, .int i5] (m_Ob_sizeOfParts l0 l2 i4 i5) := Im.of RX8 (by decide) rfl (Nat.le_of_ble_eq_true rfl) (fun X hX hr hn hz => w_Ob_sizeOfParts hX hr hz l0 l2 i4 i5)
set_option maxRecDepth 20000 in
theorem w_Ob_cutToSample_70 {X : CX Int64} (hX : Cx X RX8 cX8_cutToSample 5 rm_Ob_cutToSample) (hr : Rt X injL (some .long) rm_Ob_cutToSample.cells rm_Ob_cutToSample.slots) (hz : Zx X false) (l1 : Int64) (l3 : Int64) : WM X 70 [(1, .long l1), (3, .long l3)] [] 0 0 (m_Ob_cutToSample_70 l1 l3) := by
  unfold m_Ob_cutToSample_70
  refine wm_lload_n 0 hX dX8_cutToSample_70 rfl rfl ?_
  refine wm_lconst (0 : Int64) hX dX8_cutToSample_71 (by decide) ?_
  refine wm_lif_ge 81 hX dX8_cutToSample_72 dX8_cutToSample_73 (by decide) ?_ ?_
  · refine wm_lload_n 1 hX dX8_cutToSample_81 rfl rfl ?_
    exact wm_lret hX hr dX8_cutToSample_82
  · refine wm_lload_n 1 hX dX8_cutToSample_76 rfl rfl ?_
    refine wm_lneg hX dX8_cutToSample_77 ?_
    refine wm_goto (tgt := 82) hX dX8_cutToSample_78 (by decide) ?_
    exact wm_lret hX hr dX8_cutToSample_82
set_option maxRecDepth 20000 in
theorem w_Ob_cutToSample {X : CX Int64} (hX : Cx X RX8 cX8_cutToSample 5 rm_Ob_cutToSample) (hr : Rt X injL (some .long) rm_Ob_cutToSample.cells rm_Ob_cutToSample.slots) (hz : Zx X false) (i0 : Int32) (l1 : Int64) : WM X 0 [(0, .int i0), (1, .long l1)] [] 0 0 (m_Ob_cutToSample i0 l1) := by
  unfold m_Ob_cutToSample
  refine wm_iload_n 0 hX dX8_cutToSample_0 rfl rfl ?_
  refine wm_iconst (4 : Int32) hX dX8_cutToSample_1 (by decide) ?_
  refine wm_icmp_ge 19 hX dX8_cutToSample_2 (by decide) ?_ ?_
  · refine wm_iload_n 0 hX dX8_cutToSample_19 rfl rfl ?_
    refine wm_iconst (4 : Int32) hX dX8_cutToSample_20 (by decide) ?_
    refine wm_icmp_ne 48 hX dX8_cutToSample_21 (by decide) ?_ ?_
    · refine wm_lload_n 1 hX dX8_cutToSample_48 rfl rfl ?_
      refine wm_bipush (52 : Int32) hX dX8_cutToSample_49 (by decide) ?_
      refine wm_lushr hX dX8_cutToSample_51 ?_
      refine wm_ldc2 hX dX8_cutToSample_52 wd_446 ?_
      refine wm_land hX dX8_cutToSample_55 ?_
      refine wm_lload_n 1 hX dX8_cutToSample_56 rfl rfl ?_
      refine wm_ldc2 hX dX8_cutToSample_57 wd_447 ?_
      refine wm_land hX dX8_cutToSample_60 ?_
      refine wm_bipush (52 : Int32) hX dX8_cutToSample_61 (by decide) ?_
      refine wm_sipush (1023 : Int32) hX dX8_cutToSample_63 (by decide) ?_
      refine wm_cSl (st := []) hX hz (i_Ob_sizeOfParts (((l1.toUInt64 >>> ((52 : Int32).toInt64.toUInt64 &&& Int64.toUInt64 63)).toInt64) &&& (2047 : Int64)) (l1 &&& (4503599627370495 : Int64)) (52 : Int32) (1023 : Int32)) cal_Ob_sizeOfParts wd_443 rfl (fits_Ob_cutToSample_Ob_sizeOfParts) (Nat.le_of_ble_eq_true rfl) dX8_cutToSample_66 (fun v1 => ?_)
      refine wm_lstore_n [(3, .long v1), (0, .int i0), (1, .long l1)] hX dX8_cutToSample_69 rfl (by decide) rfl ?_
      refine wm_sub [2, 0] [(1, .long l1), (3, .long v1)] rfl ?_
      exact w_Ob_cutToSample_70 hX hr hz l1 v1
    · refine wm_lload_n 1 hX dX8_cutToSample_24 rfl rfl ?_
      refine wm_bipush (23 : Int32) hX dX8_cutToSample_25 (by decide) ?_
      refine wm_lushr hX dX8_cutToSample_27 ?_
      refine wm_ldc2 hX dX8_cutToSample_28 wd_441 ?_
      refine wm_land hX dX8_cutToSample_31 ?_
      refine wm_lload_n 1 hX dX8_cutToSample_32 rfl rfl ?_
      refine wm_ldc2 hX dX8_cutToSample_33 wd_442 ?_
      refine wm_land hX dX8_cutToSample_36 ?_
      refine wm_bipush (23 : Int32) hX dX8_cutToSample_37 (by decide) ?_
      refine wm_bipush (127 : Int32) hX dX8_cutToSample_39 (by decide) ?_
      refine wm_cSl (st := []) hX hz (i_Ob_sizeOfParts (((l1.toUInt64 >>> ((23 : Int32).toInt64.toUInt64 &&& Int64.toUInt64 63)).toInt64) &&& (255 : Int64)) (l1 &&& (8388607 : Int64)) (23 : Int32) (127 : Int32)) cal_Ob_sizeOfParts wd_443 rfl (fits_Ob_cutToSample_Ob_sizeOfParts) (Nat.le_of_ble_eq_true rfl) dX8_cutToSample_41 (fun v2 => ?_)
      refine wm_lstore_n [(3, .long v2), (0, .int i0), (1, .long l1)] hX dX8_cutToSample_44 rfl (by decide) rfl ?_
      refine wm_goto (tgt := 70) hX dX8_cutToSample_45 (by decide) ?_
      refine wm_sub [2, 0] [(1, .long l1), (3, .long v2)] rfl ?_
      exact w_Ob_cutToSample_70 hX hr hz l1 v2
  · refine wm_ldc2 hX dX8_cutToSample_5 wd_433 ?_
    refine wm_ldc2 hX dX8_cutToSample_8 wd_434 ?_
    refine wm_lload_n 1 hX dX8_cutToSample_11 rfl rfl ?_
    refine wm_mmin hX wd_435 wd_436 wd_53 mc_min ⟨Nat.le_of_ble_eq_true rfl, Nat.le_of_ble_eq_true rfl⟩ ⟨Nat.le_of_ble_eq_true rfl, Nat.le_of_ble_eq_true rfl⟩ dX8_cutToSample_12 ?_
    refine wm_mmax hX wd_438 wd_439 wd_53 mc_max ⟨Nat.le_of_ble_eq_true rfl, Nat.le_of_ble_eq_true rfl⟩ ⟨Nat.le_of_ble_eq_true rfl, Nat.le_of_ble_eq_true rfl⟩ dX8_cutToSample_15 ?_
    exact wm_lret hX hr dX8_cutToSample_18
theorem i_Ob_cutToSample (i0 : Int32) (l1 : Int64) : Im false yX8_cutToSample cX8_cutToSample 5 (some .long) rm_Ob_cutToSample injL [.int i0, .long l1] (m_Ob_cutToSample i0 l1) := Im.of RX8 (by decide) rfl (Nat.le_of_ble_eq_true rfl) (fun X hX hr hn hz => w_Ob_cutToSample hX hr hz i0 l1)
set_option maxRecDepth 20000 in
theorem w_Rl_sampleOf {X : CX Int64} (hX : Cx X RX3 cX3_sampleOf 4 rm_Rl_sampleOf) (hr : Rt X injL (some .long) rm_Rl_sampleOf.cells rm_Rl_sampleOf.slots) (hz : Zx X false) (a0 : Nat) (i1 : Int32) (l2 : Int64) : WM X 0 [(0, .ref a0), (1, .int i1), (2, .long l2)] [] 0 0 (m_Rl_sampleOf a0 i1 l2) := by
  unfold m_Rl_sampleOf
  refine wm_ckd ?_
  refine wm_aload_n 0 hX dX3_sampleOf_0 rfl rfl ?_
  refine wm_gI hX fl_RX3_19 dX3_sampleOf_1 (fun v1 => ?_)
  refine wm_aload_n 0 hX dX3_sampleOf_4 rfl rfl ?_
  refine wm_gR hX fl_RX3_9 dX3_sampleOf_5 (fun v2 => ?_)
  refine wm_iload_n 1 hX dX3_sampleOf_8 rfl rfl ?_
  refine wm_ldL hX dX3_sampleOf_9 (fun v3 => ?_)
  refine wm_cNi (host := "OneBitLoop") (st := []) hX hz (i_Ob_isNoNumber v1 v3) cal_Ob_isNoNumber (by decide +kernel) rfl (fits_Rl_sampleOf_Ob_isNoNumber) (Nat.le_of_ble_eq_true rfl) dX3_sampleOf_10 (fun v4 => ?_)
  refine wm_if_eq 20 hX dX3_sampleOf_13 (by decide) ?_ ?_
  · refine wm_aload_n 0 hX dX3_sampleOf_20 rfl rfl ?_
    refine wm_gI hX fl_RX3_19 dX3_sampleOf_21 (fun v5 => ?_)
    refine wm_aload_n 0 hX dX3_sampleOf_24 rfl rfl ?_
    refine wm_gR hX fl_RX3_9 dX3_sampleOf_25 (fun v6 => ?_)
    refine wm_iload_n 1 hX dX3_sampleOf_28 rfl rfl ?_
    refine wm_ldL hX dX3_sampleOf_29 (fun v7 => ?_)
    refine wm_cNl (host := "OneBitLoop") (st := []) hX hz (i_Ob_cutToSample v5 v7) cal_Ob_cutToSample (by decide +kernel) rfl (fits_Rl_sampleOf_Ob_cutToSample) (Nat.le_of_ble_eq_true rfl) dX3_sampleOf_30 (fun v8 => ?_)
    exact wm_lret hX hr dX3_sampleOf_33
  · refine wm_lload_n 2 hX dX3_sampleOf_16 rfl rfl ?_
    refine wm_goto (tgt := 33) hX dX3_sampleOf_17 (by decide) ?_
    exact wm_lret hX hr dX3_sampleOf_33
theorem i_Rl_sampleOf (a0 : Nat) (i1 : Int32) (l2 : Int64) : Im false yX3_sampleOf cX3_sampleOf 4 (some .long) rm_Rl_sampleOf injL [.ref a0, .int i1, .long l2] (m_Rl_sampleOf a0 i1 l2) := Im.of RX3 (by decide) rfl (Nat.le_of_ble_eq_true rfl) (fun X hX hr hn hz => w_Rl_sampleOf hX hr hz a0 i1 l2)
set_option maxRecDepth 20000 in
theorem w_Ob_sample {X : CX Int64} (hX : Cx X RX8 cX8_sample 3 rm_Ob_sample) (hr : Rt X injL (some .long) rm_Ob_sample.cells rm_Ob_sample.slots) (hz : Zx X false) (a0 : Nat) (i1 : Int32) (i2 : Int32) : WM X 0 [(0, .ref a0), (1, .int i1), (2, .int i2)] [] 0 0 (m_Ob_sample a0 i1 i2) := by
  unfold m_Ob_sample
  refine wm_ckd ?_
  refine wm_iload_n 1 hX dX8_sample_0 rfl rfl ?_
  refine wm_cSi (st := []) hX hz (i_Ob_isReel i1) cal_Ob_isReel wd_353 rfl (fits_Ob_sample_Ob_isReel) (Nat.le_of_ble_eq_true rfl) dX8_sample_1 (fun v1 => ?_)
  refine wm_if_ne 9 hX dX8_sample_4 (by decide) ?_ ?_
  · refine wm_aload_n 0 hX dX8_sample_9 rfl rfl ?_
    refine wm_iload_n 1 hX dX8_sample_10 rfl rfl ?_
    refine wm_iload_n 2 hX dX8_sample_11 rfl rfl ?_
    refine wm_i2l hX dX8_sample_12 ?_
    refine wm_cVi (st := []) hX hz (i_Ob_refuseSample a0 i1 (i2.toInt64)) Ckd.of rfl cal_Ob_refuseSample wd_417 rfl (fits_Ob_sample_Ob_refuseSample) (Nat.le_of_ble_eq_true rfl) dX8_sample_13 (fun v2 => ?_)
    refine wm_if_eq 21 hX dX8_sample_16 (by decide) ?_ ?_
    · refine wm_aload_n 0 hX dX8_sample_21 rfl rfl ?_
      refine wm_gR hX fl_RX8_11 dX8_sample_22 (fun v3 => ?_)
      refine wm_iload_n 1 hX dX8_sample_25 rfl rfl ?_
      refine wm_ldR (by decide) hX dX8_sample_26 (fun v4 => ?_)
      refine wm_iload_n 2 hX dX8_sample_27 rfl rfl ?_
      refine wm_aload_n 0 hX dX8_sample_28 rfl rfl ?_
      refine wm_gR hX fl_RX8_26 dX8_sample_29 (fun v5 => ?_)
      refine wm_cVl (st := [.int i2, .ref v4]) hX hz (i_Lg_latestMade v5) Ckd.of rfl cal_Lg_latestMade wd_421 rfl (fits_Ob_sample_Lg_latestMade) (Nat.le_of_ble_eq_true rfl) dX8_sample_32 (fun v6 => ?_)
      refine wm_cVl (st := []) hX hz (i_Rl_sampleOf v4 i2 v6) Ckd.of rfl cal_Rl_sampleOf wd_425 rfl (fits_Ob_sample_Rl_sampleOf) (Nat.le_of_ble_eq_true rfl) dX8_sample_35 (fun v7 => ?_)
      exact wm_lret hX hr dX8_sample_38
    · refine wm_lconst (0 : Int64) hX dX8_sample_19 (by decide) ?_
      exact wm_lret hX hr dX8_sample_20
  · refine wm_lconst (0 : Int64) hX dX8_sample_7 (by decide) ?_
    exact wm_lret hX hr dX8_sample_8
theorem i_Ob_sample (a0 : Nat) (i1 : Int32) (i2 : Int32) : Im false yX8_sample cX8_sample 3 (some .long) rm_Ob_sample injL [.ref a0, .int i1, .int i2] (m_Ob_sample a0 i1 i2) := Im.of RX8 (by decide) rfl (Nat.le_of_ble_eq_true rfl) (fun X hX hr hn hz => w_Ob_sample hX hr hz a0 i1 i2)
set_option maxRecDepth 20000 in
theorem w_Md_sampleOf_99 {X : CX Int64} (hX : Cx X RX9 cX9_sampleOf 7 rm_Md_sampleOf) (hr : Rt X injL (some .long) rm_Md_sampleOf.cells rm_Md_sampleOf.slots) (hz : Zx X false) (l5 : Int64) : WM X 99 [(5, .long l5)] [] 0 0 (m_Md_sampleOf_99 l5) := by
  unfold m_Md_sampleOf_99
  refine wm_lload 0 hX dX9_sampleOf_99 rfl ?_
  refine wm_ldc2 hX dX9_sampleOf_101 wd_947 ?_
  refine wm_lif_le 114 hX dX9_sampleOf_104 dX9_sampleOf_105 (by decide) ?_ ?_
  · refine wm_lload 0 hX dX9_sampleOf_114 rfl ?_
    refine wm_ldc2 hX dX9_sampleOf_116 wd_948 ?_
    refine wm_lif_ge 129 hX dX9_sampleOf_119 dX9_sampleOf_120 (by decide) ?_ ?_
    · refine wm_lload 0 hX dX9_sampleOf_129 rfl ?_
      exact wm_lret hX hr dX9_sampleOf_131
    · refine wm_ldc2 hX dX9_sampleOf_123 wd_948 ?_
      refine wm_goto (tgt := 131) hX dX9_sampleOf_126 (by decide) ?_
      exact wm_lret hX hr dX9_sampleOf_131
  · refine wm_ldc2 hX dX9_sampleOf_108 wd_947 ?_
    refine wm_goto (tgt := 131) hX dX9_sampleOf_111 (by decide) ?_
    exact wm_lret hX hr dX9_sampleOf_131
set_option maxRecDepth 20000 in
theorem w_Md_sampleOf {X : CX Int64} (hX : Cx X RX9 cX9_sampleOf 7 rm_Md_sampleOf) (hr : Rt X injL (some .long) rm_Md_sampleOf.cells rm_Md_sampleOf.slots) (hz : Zx X false) (a0 : Nat) (i1 : Int32) (i2 : Int32) : WM X 0 [(0, .ref a0), (1, .int i1), (2, .int i2)] [] 0 0 (m_Md_sampleOf a0 i1 i2) := by
  unfold m_Md_sampleOf
  refine wm_ckd ?_
  refine wm_aload_n 0 hX dX9_sampleOf_0 rfl rfl ?_
  refine wm_gR hX fl_RX9_20 dX9_sampleOf_1 (fun v1 => ?_)
  refine wm_iload_n 1 hX dX9_sampleOf_4 rfl rfl ?_
  refine wm_ldL hX dX9_sampleOf_5 (fun v2 => ?_)
  refine wm_lstore_n [(3, .long v2), (0, .ref a0), (1, .int i1), (2, .int i2)] hX dX9_sampleOf_6 rfl (by decide) rfl ?_
  refine wm_lload_n 0 hX dX9_sampleOf_7 rfl rfl ?_
  refine wm_lstore [(5, .long v2), (3, .long v2), (0, .ref a0), (1, .int i1), (2, .int i2)] hX dX9_sampleOf_8 (by decide) rfl ?_
  refine wm_iload_n 4 hX dX9_sampleOf_10 rfl rfl ?_
  refine wm_iconst (4 : Int32) hX dX9_sampleOf_11 (by decide) ?_
  refine wm_icmp_ne 56 hX dX9_sampleOf_12 (by decide) ?_ ?_
  · refine wm_iload_n 4 hX dX9_sampleOf_56 rfl rfl ?_
    refine wm_iconst (5 : Int32) hX dX9_sampleOf_57 (by decide) ?_
    refine wm_icmp_ne 99 hX dX9_sampleOf_58 (by decide) ?_ ?_
    · refine wm_sub [0] [(5, .long v2)] rfl ?_
      exact w_Md_sampleOf_99 hX hr hz v2
    · refine wm_lload_n 1 hX dX9_sampleOf_61 rfl rfl ?_
      refine wm_ldc2 hX dX9_sampleOf_62 wd_923 ?_
      refine wm_lif_ne 92 hX dX9_sampleOf_65 dX9_sampleOf_66 (by decide) ?_ ?_
      · refine wm_lload_n 1 hX dX9_sampleOf_92 rfl rfl ?_
        refine wm_lbd hX ⟨wd_944, wd_946, wd_945, wd_55⟩ ⟨Nat.le_of_ble_eq_true rfl, Nat.le_of_ble_eq_true rfl⟩ dX9_sampleOf_93 (fun v3 => ?_)
        refine wm_d2l hX dX9_sampleOf_96 ?_
        refine wm_letl (fun v4 => ?_)
        refine wm_lstore [(5, .long v4), (3, .long v2), (0, .ref a0), (1, .int i1), (2, .int i2)] hX dX9_sampleOf_97 (by decide) rfl ?_
        refine wm_sub [0] [(5, .long v4)] rfl ?_
        exact w_Md_sampleOf_99 hX hr hz v4
      · refine wm_aload_n 2 hX dX9_sampleOf_69 rfl rfl ?_
        refine wm_gI hX fl_RX9_129 dX9_sampleOf_70 (fun v5 => ?_)
        refine wm_if_ne 80 hX dX9_sampleOf_73 (by decide) ?_ ?_
        · refine wm_aload_n 2 hX dX9_sampleOf_80 rfl rfl ?_
          refine wm_gR hX fl_RX9_42 dX9_sampleOf_81 (fun v6 => ?_)
          refine wm_aload_n 2 hX dX9_sampleOf_84 rfl rfl ?_
          refine wm_gI hX fl_RX9_129 dX9_sampleOf_85 (fun v7 => ?_)
          refine wm_iconst (1 : Int32) hX dX9_sampleOf_88 (by decide) ?_
          refine wm_isub hX dX9_sampleOf_89 ?_
          refine wm_ldL hX dX9_sampleOf_90 (fun v8 => ?_)
          exact wm_lret hX hr dX9_sampleOf_91
        · refine wm_lconst (0 : Int64) hX dX9_sampleOf_76 (by decide) ?_
          refine wm_goto (tgt := 91) hX dX9_sampleOf_77 (by decide) ?_
          exact wm_lret hX hr dX9_sampleOf_91
  · refine wm_lload_n 1 hX dX9_sampleOf_15 rfl rfl ?_
    refine wm_l2i hX dX9_sampleOf_16 ?_
    refine wm_ldc hX dX9_sampleOf_17 wd_940 ?_
    refine wm_icmp_ne 45 hX dX9_sampleOf_19 (by decide) ?_ ?_
    · refine wm_lload_n 1 hX dX9_sampleOf_45 rfl rfl ?_
      refine wm_l2i hX dX9_sampleOf_46 ?_
      refine wm_ibf hX ⟨wd_941, wd_943, wd_942, wd_54⟩ ⟨Nat.le_of_ble_eq_true rfl, Nat.le_of_ble_eq_true rfl⟩ dX9_sampleOf_47 (fun v9 => ?_)
      refine wm_f2l hX dX9_sampleOf_50 ?_
      refine wm_letl (fun v10 => ?_)
      refine wm_lstore [(5, .long v10), (3, .long v2), (0, .ref a0), (1, .int i1), (2, .int i2)] hX dX9_sampleOf_51 (by decide) rfl ?_
      refine wm_goto (tgt := 99) hX dX9_sampleOf_53 (by decide) ?_
      refine wm_sub [0] [(5, .long v10)] rfl ?_
      exact w_Md_sampleOf_99 hX hr hz v10
    · refine wm_aload_n 2 hX dX9_sampleOf_22 rfl rfl ?_
      refine wm_gI hX fl_RX9_129 dX9_sampleOf_23 (fun v11 => ?_)
      refine wm_if_ne 33 hX dX9_sampleOf_26 (by decide) ?_ ?_
      · refine wm_aload_n 2 hX dX9_sampleOf_33 rfl rfl ?_
        refine wm_gR hX fl_RX9_42 dX9_sampleOf_34 (fun v12 => ?_)
        refine wm_aload_n 2 hX dX9_sampleOf_37 rfl rfl ?_
        refine wm_gI hX fl_RX9_129 dX9_sampleOf_38 (fun v13 => ?_)
        refine wm_iconst (1 : Int32) hX dX9_sampleOf_41 (by decide) ?_
        refine wm_isub hX dX9_sampleOf_42 ?_
        refine wm_ldL hX dX9_sampleOf_43 (fun v14 => ?_)
        exact wm_lret hX hr dX9_sampleOf_44
      · refine wm_lconst (0 : Int64) hX dX9_sampleOf_29 (by decide) ?_
        refine wm_goto (tgt := 44) hX dX9_sampleOf_30 (by decide) ?_
        exact wm_lret hX hr dX9_sampleOf_44
theorem i_Md_sampleOf (a0 : Nat) (i1 : Int32) (i2 : Int32) : Im false yX9_sampleOf cX9_sampleOf 7 (some .long) rm_Md_sampleOf injL [.ref a0, .int i1, .int i2] (m_Md_sampleOf a0 i1 i2) := Im.of RX9 (by decide) rfl (Nat.le_of_ble_eq_true rfl) (fun X hX hr hn hz => w_Md_sampleOf hX hr hz a0 i1 i2)
set_option maxRecDepth 20000 in
theorem w_Md_sample {X : CX Int64} (hX : Cx X RX9 cX9_sample 5 rm_Md_sample) (hr : Rt X injL (some .long) rm_Md_sample.cells rm_Md_sample.slots) (hz : Zx X false) (a0 : Nat) (i1 : Int32) (i2 : Int32) : WM X 0 [(0, .ref a0), (1, .int i1), (2, .int i2)] [] 0 0 (m_Md_sample a0 i1 i2) := by
  unfold m_Md_sample
  refine wm_ckd ?_
  refine wm_iload_n 1 hX dX9_sample_0 rfl rfl ?_
  refine wm_cSi (st := []) hX hz (i_Md_isReel i1) cal_Md_isReel wd_892 rfl (fits_Md_sample_Md_isReel) (Nat.le_of_ble_eq_true rfl) dX9_sample_1 (fun v1 => ?_)
  refine wm_if_ne 9 hX dX9_sample_4 (by decide) ?_ ?_
  · refine wm_aload_n 0 hX dX9_sample_9 rfl rfl ?_
    refine wm_iload_n 1 hX dX9_sample_10 rfl rfl ?_
    refine wm_aload_n 0 hX dX9_sample_11 rfl rfl ?_
    refine wm_gR hX fl_RX9_13 dX9_sample_12 (fun v2 => ?_)
    refine wm_iload_n 1 hX dX9_sample_15 rfl rfl ?_
    refine wm_ldI hX dX9_sample_16 (fun v3 => ?_)
    refine wm_iload_n 2 hX dX9_sample_17 rfl rfl ?_
    refine wm_cVi (st := []) hX hz (i_Md_lacks a0 i1 v3 i2) Ckd.of rfl cal_Md_lacks wd_911 rfl (fits_Md_sample_Md_lacks) (Nat.le_of_ble_eq_true rfl) dX9_sample_18 (fun v4 => ?_)
    refine wm_istore_n [(3, .int v4), (0, .ref a0), (1, .int i1), (2, .int i2)] hX dX9_sample_21 rfl (by decide) rfl ?_
    refine wm_iload_n 0 hX dX9_sample_22 rfl rfl ?_
    refine wm_if_le 35 hX dX9_sample_23 (by decide) ?_ ?_
    · refine wm_aload_n 1 hX dX9_sample_35 rfl rfl ?_
      refine wm_bipush (60 : Int32) hX dX9_sample_36 (by decide) ?_
      refine wm_iload_n 2 hX dX9_sample_38 rfl rfl ?_
      refine wm_imul hX dX9_sample_39 ?_
      refine wm_iload_n 3 hX dX9_sample_40 rfl rfl ?_
      refine wm_iadd hX dX9_sample_41 ?_
      refine wm_aload_n 1 hX dX9_sample_42 rfl rfl ?_
      refine wm_gR hX fl_RX9_13 dX9_sample_43 (fun v5 => ?_)
      refine wm_iload_n 2 hX dX9_sample_46 rfl rfl ?_
      refine wm_ldI hX dX9_sample_47 (fun v6 => ?_)
      refine wm_cVl (st := []) hX hz (i_Md_sampleOf a0 (((60 : Int32) * i1) + i2) v6) Ckd.of rfl cal_Md_sampleOf wd_936 rfl (fits_Md_sample_Md_sampleOf) (Nat.le_of_ble_eq_true rfl) dX9_sample_48 (fun v7 => ?_)
      exact wm_lret hX hr dX9_sample_51
    · refine wm_aload_n 1 hX dX9_sample_26 rfl rfl ?_
      refine wm_iload_n 0 hX dX9_sample_27 rfl rfl ?_
      refine wm_cVi (st := []) hX hz (i_Md_meets a0 v4) Ckd.of rfl cal_Md_meets wd_899 rfl (fits_Md_sample_Md_meets) (Nat.le_of_ble_eq_true rfl) dX9_sample_28 (fun v8 => ?_)
      refine wm_istore [(4, .int v8), (3, .int v4), (0, .ref a0), (1, .int i1), (2, .int i2)] hX dX9_sample_31 (by decide) rfl ?_
      refine wm_lconst (0 : Int64) hX dX9_sample_33 (by decide) ?_
      exact wm_lret hX hr dX9_sample_34
  · refine wm_lconst (0 : Int64) hX dX9_sample_7 (by decide) ?_
    exact wm_lret hX hr dX9_sample_8
theorem i_Md_sample (a0 : Nat) (i1 : Int32) (i2 : Int32) : Im false yX9_sample cX9_sample 5 (some .long) rm_Md_sample injL [.ref a0, .int i1, .int i2] (m_Md_sample a0 i1 i2) := Im.of RX9 (by decide) rfl (Nat.le_of_ble_eq_true rfl) (fun X hX hr hn hz => w_Md_sample hX hr hz a0 i1 i2)
set_option maxRecDepth 20000 in
theorem w_Ob_isStageAsTold_40 {X : CX Int32} (hX : Cx X RX8 cX8_isStageAsTold 6 rm_Ob_isStageAsTold) (hr : Rt X injI (some .boolean) rm_Ob_isStageAsTold.cells rm_Ob_isStageAsTold.slots) (hz : Zx X false) (i0 : Int32) (l1 : Int64) (i3 : Int32) (i4 : Int32) (s0 : Int32) : WM X 40 [(0, .int i0), (1, .long l1), (3, .int i3), (4, .int i4)] [.int s0] 0 0 (m_Ob_isStageAsTold_40 i0 l1 i3 i4 s0) := by
  unfold m_Ob_isStageAsTold_40
  refine wm_istore [(5, .int s0), (0, .int i0), (1, .long l1), (3, .int i3), (4, .int i4)] hX dX8_isStageAsTold_40 (by decide) rfl ?_
  refine wm_iload_n 1 hX dX8_isStageAsTold_42 rfl rfl ?_
  refine wm_tsw [76, 92, 107, 122, 146] 169 hX dX8_isStageAsTold_43 (by decide) (by decide) (by decide) ⟨?_, ?_, ?_, ?_, ?_, trivial⟩ ?_
  · refine wm_lload_n 2 hX dX8_isStageAsTold_76 rfl rfl ?_
    refine wm_lconst (0 : Int64) hX dX8_isStageAsTold_77 (by decide) ?_
    refine wm_lif_ne 90 hX dX8_isStageAsTold_78 dX8_isStageAsTold_79 (by decide) ?_ ?_
    · refine wm_iconst (0 : Int32) hX dX8_isStageAsTold_90 (by decide) ?_
      exact wm_zret hX hr dX8_isStageAsTold_91
    · refine wm_iload_n 3 hX dX8_isStageAsTold_82 rfl rfl ?_
      refine wm_if_ne 90 hX dX8_isStageAsTold_83 (by decide) ?_ ?_
      · refine wm_iconst (0 : Int32) hX dX8_isStageAsTold_90 (by decide) ?_
        exact wm_zret hX hr dX8_isStageAsTold_91
      · refine wm_iconst (1 : Int32) hX dX8_isStageAsTold_86 (by decide) ?_
        refine wm_goto (tgt := 91) hX dX8_isStageAsTold_87 (by decide) ?_
        exact wm_zret hX hr dX8_isStageAsTold_91
  · refine wm_iload 4 hX dX8_isStageAsTold_92 rfl ?_
    refine wm_if_eq 105 hX dX8_isStageAsTold_94 (by decide) ?_ ?_
    · refine wm_iconst (0 : Int32) hX dX8_isStageAsTold_105 (by decide) ?_
      exact wm_zret hX hr dX8_isStageAsTold_106
    · refine wm_iload_n 3 hX dX8_isStageAsTold_97 rfl rfl ?_
      refine wm_if_ne 105 hX dX8_isStageAsTold_98 (by decide) ?_ ?_
      · refine wm_iconst (0 : Int32) hX dX8_isStageAsTold_105 (by decide) ?_
        exact wm_zret hX hr dX8_isStageAsTold_106
      · refine wm_iconst (1 : Int32) hX dX8_isStageAsTold_101 (by decide) ?_
        refine wm_goto (tgt := 106) hX dX8_isStageAsTold_102 (by decide) ?_
        exact wm_zret hX hr dX8_isStageAsTold_106
  · refine wm_iload 0 hX dX8_isStageAsTold_107 rfl ?_
    refine wm_if_eq 120 hX dX8_isStageAsTold_109 (by decide) ?_ ?_
    · refine wm_iconst (0 : Int32) hX dX8_isStageAsTold_120 (by decide) ?_
      exact wm_zret hX hr dX8_isStageAsTold_121
    · refine wm_iload_n 3 hX dX8_isStageAsTold_112 rfl rfl ?_
      refine wm_if_ne 120 hX dX8_isStageAsTold_113 (by decide) ?_ ?_
      · refine wm_iconst (0 : Int32) hX dX8_isStageAsTold_120 (by decide) ?_
        exact wm_zret hX hr dX8_isStageAsTold_121
      · refine wm_iconst (1 : Int32) hX dX8_isStageAsTold_116 (by decide) ?_
        refine wm_goto (tgt := 121) hX dX8_isStageAsTold_117 (by decide) ?_
        exact wm_zret hX hr dX8_isStageAsTold_121
  · refine wm_iload 0 hX dX8_isStageAsTold_122 rfl ?_
    refine wm_if_eq 144 hX dX8_isStageAsTold_124 (by decide) ?_ ?_
    · refine wm_iconst (0 : Int32) hX dX8_isStageAsTold_144 (by decide) ?_
      exact wm_zret hX hr dX8_isStageAsTold_145
    · refine wm_iload_n 3 hX dX8_isStageAsTold_127 rfl rfl ?_
      refine wm_if_lt 144 hX dX8_isStageAsTold_128 (by decide) ?_ ?_
      · refine wm_iconst (0 : Int32) hX dX8_isStageAsTold_144 (by decide) ?_
        exact wm_zret hX hr dX8_isStageAsTold_145
      · refine wm_iload_n 3 hX dX8_isStageAsTold_131 rfl rfl ?_
        refine wm_i2l hX dX8_isStageAsTold_132 ?_
        refine wm_ldc2 hX dX8_isStageAsTold_133 wd_455 ?_
        refine wm_lif_gt 144 hX dX8_isStageAsTold_136 dX8_isStageAsTold_137 (by decide) ?_ ?_
        · refine wm_iconst (0 : Int32) hX dX8_isStageAsTold_144 (by decide) ?_
          exact wm_zret hX hr dX8_isStageAsTold_145
        · refine wm_iconst (1 : Int32) hX dX8_isStageAsTold_140 (by decide) ?_
          refine wm_goto (tgt := 145) hX dX8_isStageAsTold_141 (by decide) ?_
          exact wm_zret hX hr dX8_isStageAsTold_145
  · refine wm_iload 4 hX dX8_isStageAsTold_146 rfl ?_
    refine wm_if_eq 167 hX dX8_isStageAsTold_148 (by decide) ?_ ?_
    · refine wm_iconst (0 : Int32) hX dX8_isStageAsTold_167 (by decide) ?_
      exact wm_zret hX hr dX8_isStageAsTold_168
    · refine wm_iload_n 3 hX dX8_isStageAsTold_151 rfl rfl ?_
      refine wm_bipush (-100 : Int32) hX dX8_isStageAsTold_152 (by decide) ?_
      refine wm_icmp_lt 167 hX dX8_isStageAsTold_154 (by decide) ?_ ?_
      · refine wm_iconst (0 : Int32) hX dX8_isStageAsTold_167 (by decide) ?_
        exact wm_zret hX hr dX8_isStageAsTold_168
      · refine wm_iload_n 3 hX dX8_isStageAsTold_157 rfl rfl ?_
        refine wm_bipush (100 : Int32) hX dX8_isStageAsTold_158 (by decide) ?_
        refine wm_icmp_gt 167 hX dX8_isStageAsTold_160 (by decide) ?_ ?_
        · refine wm_iconst (0 : Int32) hX dX8_isStageAsTold_167 (by decide) ?_
          exact wm_zret hX hr dX8_isStageAsTold_168
        · refine wm_iconst (1 : Int32) hX dX8_isStageAsTold_163 (by decide) ?_
          refine wm_goto (tgt := 168) hX dX8_isStageAsTold_164 (by decide) ?_
          exact wm_zret hX hr dX8_isStageAsTold_168
  · refine wm_iconst (0 : Int32) hX dX8_isStageAsTold_169 (by decide) ?_
    exact wm_zret hX hr dX8_isStageAsTold_170
set_option maxRecDepth 20000 in
theorem w_Ob_isStageAsTold_19 {X : CX Int32} (hX : Cx X RX8 cX8_isStageAsTold 6 rm_Ob_isStageAsTold) (hr : Rt X injI (some .boolean) rm_Ob_isStageAsTold.cells rm_Ob_isStageAsTold.slots) (hz : Zx X false) (i0 : Int32) (l1 : Int64) (i3 : Int32) (s0 : Int32) : WM X 19 [(0, .int i0), (1, .long l1), (3, .int i3)] [.int s0] 0 0 (m_Ob_isStageAsTold_19 i0 l1 i3 s0) := by
  unfold m_Ob_isStageAsTold_19
  refine wm_istore [(4, .int s0), (0, .int i0), (1, .long l1), (3, .int i3)] hX dX8_isStageAsTold_19 (by decide) rfl ?_
  refine wm_lload_n 2 hX dX8_isStageAsTold_21 rfl rfl ?_
  refine wm_lconst (1 : Int64) hX dX8_isStageAsTold_22 (by decide) ?_
  refine wm_lif_lt 39 hX dX8_isStageAsTold_23 dX8_isStageAsTold_24 (by decide) ?_ ?_
  · refine wm_iconst (0 : Int32) hX dX8_isStageAsTold_39 (by decide) ?_
    refine wm_sub [1, 2, 3, 0] [(0, .int i0), (1, .long l1), (3, .int i3), (4, .int s0)] rfl ?_
    exact w_Ob_isStageAsTold_40 hX hr hz i0 l1 i3 s0 (0 : Int32)
  · refine wm_lload_n 2 hX dX8_isStageAsTold_27 rfl rfl ?_
    refine wm_ldc2 hX dX8_isStageAsTold_28 wd_456 ?_
    refine wm_lif_gt 39 hX dX8_isStageAsTold_31 dX8_isStageAsTold_32 (by decide) ?_ ?_
    · refine wm_iconst (0 : Int32) hX dX8_isStageAsTold_39 (by decide) ?_
      refine wm_sub [1, 2, 3, 0] [(0, .int i0), (1, .long l1), (3, .int i3), (4, .int s0)] rfl ?_
      exact w_Ob_isStageAsTold_40 hX hr hz i0 l1 i3 s0 (0 : Int32)
    · refine wm_iconst (1 : Int32) hX dX8_isStageAsTold_35 (by decide) ?_
      refine wm_goto (tgt := 40) hX dX8_isStageAsTold_36 (by decide) ?_
      refine wm_sub [1, 2, 3, 0] [(0, .int i0), (1, .long l1), (3, .int i3), (4, .int s0)] rfl ?_
      exact w_Ob_isStageAsTold_40 hX hr hz i0 l1 i3 s0 (1 : Int32)
set_option maxRecDepth 20000 in
theorem w_Ob_isStageAsTold {X : CX Int32} (hX : Cx X RX8 cX8_isStageAsTold 6 rm_Ob_isStageAsTold) (hr : Rt X injI (some .boolean) rm_Ob_isStageAsTold.cells rm_Ob_isStageAsTold.slots) (hz : Zx X false) (i0 : Int32) (l1 : Int64) (i3 : Int32) : WM X 0 [(0, .int i0), (1, .long l1), (3, .int i3)] [] 0 0 (m_Ob_isStageAsTold i0 l1 i3) := by
  unfold m_Ob_isStageAsTold
  refine wm_lload_n 1 hX dX8_isStageAsTold_0 rfl rfl ?_
  refine wm_lconst (0 : Int64) hX dX8_isStageAsTold_1 (by decide) ?_
  refine wm_lif_lt 18 hX dX8_isStageAsTold_2 dX8_isStageAsTold_3 (by decide) ?_ ?_
  · refine wm_iconst (0 : Int32) hX dX8_isStageAsTold_18 (by decide) ?_
    exact w_Ob_isStageAsTold_19 hX hr hz i0 l1 i3 (0 : Int32)
  · refine wm_lload_n 1 hX dX8_isStageAsTold_6 rfl rfl ?_
    refine wm_ldc2 hX dX8_isStageAsTold_7 wd_455 ?_
    refine wm_lif_gt 18 hX dX8_isStageAsTold_10 dX8_isStageAsTold_11 (by decide) ?_ ?_
    · refine wm_iconst (0 : Int32) hX dX8_isStageAsTold_18 (by decide) ?_
      exact w_Ob_isStageAsTold_19 hX hr hz i0 l1 i3 (0 : Int32)
    · refine wm_iconst (1 : Int32) hX dX8_isStageAsTold_14 (by decide) ?_
      refine wm_goto (tgt := 19) hX dX8_isStageAsTold_15 (by decide) ?_
      exact w_Ob_isStageAsTold_19 hX hr hz i0 l1 i3 (1 : Int32)
theorem i_Ob_isStageAsTold (i0 : Int32) (l1 : Int64) (i3 : Int32) : Im false yX8_isStageAsTold cX8_isStageAsTold 6 (some .boolean) rm_Ob_isStageAsTold injI [.int i0, .long l1, .int i3] (m_Ob_isStageAsTold i0 l1 i3) := Im.of RX8 (by decide) rfl (Nat.le_of_ble_eq_true rfl) (fun X hX hr hn hz => w_Ob_isStageAsTold hX hr hz i0 l1 i3)
set_option maxRecDepth 20000 in
theorem w_Sp_addStage {X : CX Int32} (hX : Cx X RX5 cX5_addStage 5 rm_Sp_addStage) (hr : Rt X injI (some .int) rm_Sp_addStage.cells rm_Sp_addStage.slots) (hz : Zx X false) (a0 : Nat) (i1 : Int32) (l2 : Int64) (i4 : Int32) : WM X 0 [(0, .ref a0), (1, .int i1), (2, .long l2), (4, .int i4)] [] 0 0 (m_Sp_addStage a0 i1 l2 i4) := by
  unfold m_Sp_addStage
  refine wm_ckd ?_
  refine wm_aload_n 0 hX dX5_addStage_0 rfl rfl ?_
  refine wm_gR hX fl_RX5_9 dX5_addStage_1 (fun v1 => ?_)
  refine wm_aload_n 0 hX dX5_addStage_4 rfl rfl ?_
  refine wm_gI hX fl_RX5_25 dX5_addStage_5 (fun v2 => ?_)
  refine wm_iload_n 1 hX dX5_addStage_8 rfl rfl ?_
  refine wm_stI hX dX5_addStage_9 ?_
  refine wm_aload_n 0 hX dX5_addStage_10 rfl rfl ?_
  refine wm_gR hX fl_RX5_15 dX5_addStage_11 (fun v3 => ?_)
  refine wm_aload_n 0 hX dX5_addStage_14 rfl rfl ?_
  refine wm_gI hX fl_RX5_25 dX5_addStage_15 (fun v4 => ?_)
  refine wm_lload_n 2 hX dX5_addStage_18 rfl rfl ?_
  refine wm_stL hX dX5_addStage_19 ?_
  refine wm_aload_n 0 hX dX5_addStage_20 rfl rfl ?_
  refine wm_gR hX fl_RX5_19 dX5_addStage_21 (fun v5 => ?_)
  refine wm_aload_n 0 hX dX5_addStage_24 rfl rfl ?_
  refine wm_gI hX fl_RX5_25 dX5_addStage_25 (fun v6 => ?_)
  refine wm_iload 3 hX dX5_addStage_28 rfl ?_
  refine wm_stI hX dX5_addStage_30 ?_
  refine wm_aload_n 0 hX dX5_addStage_31 rfl rfl ?_
  refine wm_dup hX dX5_addStage_32 rfl ?_
  refine wm_gI hX fl_RX5_25 dX5_addStage_33 (fun v7 => ?_)
  refine wm_iconst (1 : Int32) hX dX5_addStage_36 (by decide) ?_
  refine wm_iadd hX dX5_addStage_37 ?_
  refine wm_pI hX fp_RX5_25 dX5_addStage_38 ?_
  refine wm_aload_n 0 hX dX5_addStage_41 rfl rfl ?_
  refine wm_gI hX fl_RX5_25 dX5_addStage_42 (fun v8 => ?_)
  refine wm_iconst (1 : Int32) hX dX5_addStage_45 (by decide) ?_
  refine wm_isub hX dX5_addStage_46 ?_
  exact wm_iret hX hr dX5_addStage_47
theorem i_Sp_addStage (a0 : Nat) (i1 : Int32) (l2 : Int64) (i4 : Int32) : Im false yX5_addStage cX5_addStage 5 (some .int) rm_Sp_addStage injI [.ref a0, .int i1, .long l2, .int i4] (m_Sp_addStage a0 i1 l2 i4) := Im.of RX5 (by decide) rfl (Nat.le_of_ble_eq_true rfl) (fun X hX hr hn hz => w_Sp_addStage hX hr hz a0 i1 l2 i4)
set_option maxRecDepth 20000 in
theorem w_Ob_stage {X : CX Int32} (hX : Cx X RX8 cX8_stage 5 rm_Ob_stage) (hr : Rt X injI (some .int) rm_Ob_stage.cells rm_Ob_stage.slots) (hz : Zx X false) (a0 : Nat) (i1 : Int32) (l2 : Int64) (i4 : Int32) : WM X 0 [(0, .ref a0), (1, .int i1), (2, .long l2), (4, .int i4)] [] 0 0 (m_Ob_stage a0 i1 l2 i4) := by
  unfold m_Ob_stage
  refine wm_ckd ?_
  refine wm_iload_n 1 hX dX8_stage_0 rfl rfl ?_
  refine wm_lload_n 2 hX dX8_stage_1 rfl rfl ?_
  refine wm_iload 3 hX dX8_stage_2 rfl ?_
  refine wm_cSi (st := []) hX hz (i_Ob_isStageAsTold i1 l2 i4) cal_Ob_isStageAsTold wd_452 rfl (fits_Ob_stage_Ob_isStageAsTold) (Nat.le_of_ble_eq_true rfl) dX8_stage_4 (fun v1 => ?_)
  refine wm_if_ne 13 hX dX8_stage_7 (by decide) ?_ ?_
  · refine wm_aload_n 0 hX dX8_stage_13 rfl rfl ?_
    refine wm_gR hX fl_RX8_26 dX8_stage_14 (fun v2 => ?_)
    refine wm_gI hX fl_RX8_138 dX8_stage_17 (fun v3 => ?_)
    refine wm_if_le 26 hX dX8_stage_20 (by decide) ?_ ?_
    · refine wm_aload_n 0 hX dX8_stage_26 rfl rfl ?_
      refine wm_gR hX fl_RX8_19 dX8_stage_27 (fun v4 => ?_)
      refine wm_gI hX fl_RX8_141 dX8_stage_30 (fun v5 => ?_)
      refine wm_iconst (5 : Int32) hX dX8_stage_33 (by decide) ?_
      refine wm_icmp_lt 40 hX dX8_stage_34 (by decide) ?_ ?_
      · refine wm_aload_n 0 hX dX8_stage_40 rfl rfl ?_
        refine wm_gR hX fl_RX8_19 dX8_stage_41 (fun v6 => ?_)
        refine wm_iload_n 1 hX dX8_stage_44 rfl rfl ?_
        refine wm_lload_n 2 hX dX8_stage_45 rfl rfl ?_
        refine wm_iload 3 hX dX8_stage_46 rfl ?_
        refine wm_cVi (st := []) hX hz (i_Sp_addStage v6 i1 l2 i4) Ckd.of rfl cal_Sp_addStage wd_457 rfl (fits_Ob_stage_Sp_addStage) (Nat.le_of_ble_eq_true rfl) dX8_stage_48 (fun v7 => ?_)
        exact wm_iret hX hr dX8_stage_51
      · refine wm_bipush (-4 : Int32) hX dX8_stage_37 (by decide) ?_
        exact wm_iret hX hr dX8_stage_39
    · refine wm_bipush (-3 : Int32) hX dX8_stage_23 (by decide) ?_
      exact wm_iret hX hr dX8_stage_25
  · refine wm_bipush (-2 : Int32) hX dX8_stage_10 (by decide) ?_
    exact wm_iret hX hr dX8_stage_12
theorem i_Ob_stage (a0 : Nat) (i1 : Int32) (l2 : Int64) (i4 : Int32) : Im false yX8_stage cX8_stage 5 (some .int) rm_Ob_stage injI [.ref a0, .int i1, .long l2, .int i4] (m_Ob_stage a0 i1 l2 i4) := Im.of RX8 (by decide) rfl (Nat.le_of_ble_eq_true rfl) (fun X hX hr hn hz => w_Ob_stage hX hr hz a0 i1 l2 i4)
set_option maxRecDepth 20000 in
theorem wb_Md_stage_240 {X : CX Int32} (hX : Cx X RX9 cX9_stage 7 rm_Md_stage) (hr : Rt X injI (some .int) rm_Md_stage.cells rm_Md_stage.slots) (hz : Zx X false) {k240 : Nat → Int32 → M Int32} (h240 : ∀ (a0 : Nat) (i6 : Int32), WM X 240 [(0, .ref a0), (6, .int i6)] [] 0 0 (k240 a0 i6)) (a0 : Nat) (i6 : Int32) : WM X 240 [(0, .ref a0), (6, .int i6)] [] 0 0 (b_Md_stage_240 k240 a0 i6) := by
  unfold b_Md_stage_240
  refine wm_iload 1 hX dX9_stage_240 rfl ?_
  refine wm_bipush (6 : Int32) hX dX9_stage_242 (by decide) ?_
  refine wm_icmp_ge 269 hX dX9_stage_244 (by decide) ?_ ?_
  · refine wm_aload_n 0 hX dX9_stage_269 rfl rfl ?_
    refine wm_dup hX dX9_stage_270 rfl ?_
    refine wm_gI hX fl_RX9_160 dX9_stage_271 (fun v1 => ?_)
    refine wm_iconst (1 : Int32) hX dX9_stage_274 (by decide) ?_
    refine wm_iadd hX dX9_stage_275 ?_
    refine wm_pI hX fp_RX9_160 dX9_stage_276 ?_
    refine wm_aload_n 0 hX dX9_stage_279 rfl rfl ?_
    refine wm_gI hX fl_RX9_160 dX9_stage_280 (fun v2 => ?_)
    refine wm_iconst (1 : Int32) hX dX9_stage_283 (by decide) ?_
    refine wm_isub hX dX9_stage_284 ?_
    exact wm_iret hX hr dX9_stage_285
  · refine wm_aload_n 0 hX dX9_stage_247 rfl rfl ?_
    refine wm_gR hX fl_RX9_39 dX9_stage_248 (fun v3 => ?_)
    refine wm_bipush (6 : Int32) hX dX9_stage_251 (by decide) ?_
    refine wm_aload_n 0 hX dX9_stage_253 rfl rfl ?_
    refine wm_gI hX fl_RX9_160 dX9_stage_254 (fun v4 => ?_)
    refine wm_imul hX dX9_stage_257 ?_
    refine wm_iload 1 hX dX9_stage_258 rfl ?_
    refine wm_iadd hX dX9_stage_260 ?_
    refine wm_lconst (0 : Int64) hX dX9_stage_261 (by decide) ?_
    refine wm_stL hX dX9_stage_262 ?_
    refine wm_iinc (i6 + 1) 1 [(6, .int (i6 + 1)), (0, .ref a0)] hX dX9_stage_263 rfl rfl (by decide) rfl ?_
    refine wm_goto (tgt := 240) hX dX9_stage_266 (by decide) ?_
    refine wm_sub [1, 0] [(0, .ref a0), (6, .int (i6 + 1))] rfl ?_
    exact h240 a0 (i6 + 1)
theorem wl_Md_stage_240 {X : CX Int32} (hX : Cx X RX9 cX9_stage 7 rm_Md_stage) (hr : Rt X injI (some .int) rm_Md_stage.cells rm_Md_stage.slots) (hz : Zx X false) : ∀ (n : Nat) (a0 : Nat) (i6 : Int32), WM X 240 [(0, .ref a0), (6, .int i6)] [] 0 0 (l_Md_stage_240 n a0 i6)
  | 0, _, _ => wm_fl
  | n + 1, a0, i6 => wb_Md_stage_240 hX hr hz (wl_Md_stage_240 hX hr hz n) a0 i6
set_option maxRecDepth 20000 in
theorem w_Md_stage_177 {X : CX Int32} (hX : Cx X RX9 cX9_stage 7 rm_Md_stage) (hr : Rt X injI (some .int) rm_Md_stage.cells rm_Md_stage.slots) (hz : Zx X false) (a0 : Nat) (i1 : Int32) (l2 : Int64) (i4 : Int32) (i5 : Int32) : WM X 177 [(0, .ref a0), (1, .int i1), (2, .long l2), (4, .int i4), (5, .int i5)] [] 0 0 (m_Md_stage_177 a0 i1 l2 i4 i5) := by
  unfold m_Md_stage_177
  refine wm_iload 4 hX dX9_stage_177 rfl ?_
  refine wm_if_ne 185 hX dX9_stage_179 (by decide) ?_ ?_
  · refine wm_aload_n 0 hX dX9_stage_185 rfl rfl ?_
    refine wm_gI hX fl_RX9_129 dX9_stage_186 (fun v1 => ?_)
    refine wm_if_le 195 hX dX9_stage_189 (by decide) ?_ ?_
    · refine wm_aload_n 0 hX dX9_stage_195 rfl rfl ?_
      refine wm_gI hX fl_RX9_160 dX9_stage_196 (fun v2 => ?_)
      refine wm_iconst (5 : Int32) hX dX9_stage_199 (by decide) ?_
      refine wm_icmp_ne 206 hX dX9_stage_200 (by decide) ?_ ?_
      · refine wm_aload_n 0 hX dX9_stage_206 rfl rfl ?_
        refine wm_gR hX fl_RX9_27 dX9_stage_207 (fun v3 => ?_)
        refine wm_aload_n 0 hX dX9_stage_210 rfl rfl ?_
        refine wm_gI hX fl_RX9_160 dX9_stage_211 (fun v4 => ?_)
        refine wm_iload_n 1 hX dX9_stage_214 rfl rfl ?_
        refine wm_stI hX dX9_stage_215 ?_
        refine wm_aload_n 0 hX dX9_stage_216 rfl rfl ?_
        refine wm_gR hX fl_RX9_30 dX9_stage_217 (fun v5 => ?_)
        refine wm_aload_n 0 hX dX9_stage_220 rfl rfl ?_
        refine wm_gI hX fl_RX9_160 dX9_stage_221 (fun v6 => ?_)
        refine wm_lload_n 2 hX dX9_stage_224 rfl rfl ?_
        refine wm_stL hX dX9_stage_225 ?_
        refine wm_aload_n 0 hX dX9_stage_226 rfl rfl ?_
        refine wm_gR hX fl_RX9_33 dX9_stage_227 (fun v7 => ?_)
        refine wm_aload_n 0 hX dX9_stage_230 rfl rfl ?_
        refine wm_gI hX fl_RX9_160 dX9_stage_231 (fun v8 => ?_)
        refine wm_iload 3 hX dX9_stage_234 rfl ?_
        refine wm_stI hX dX9_stage_236 ?_
        refine wm_iconst (0 : Int32) hX dX9_stage_237 (by decide) ?_
        refine wm_istore [(6, .int (0 : Int32)), (0, .ref a0), (1, .int i1), (2, .long l2), (4, .int i4), (5, .int i5)] hX dX9_stage_238 (by decide) rfl ?_
        refine wm_sub [1, 0] [(0, .ref a0), (6, .int (0 : Int32))] rfl ?_
        exact wl_Md_stage_240 hX hr hz FU a0 (0 : Int32)
      · refine wm_bipush (-4 : Int32) hX dX9_stage_203 (by decide) ?_
        exact wm_iret hX hr dX9_stage_205
    · refine wm_bipush (-3 : Int32) hX dX9_stage_192 (by decide) ?_
      exact wm_iret hX hr dX9_stage_194
  · refine wm_bipush (-2 : Int32) hX dX9_stage_182 (by decide) ?_
    exact wm_iret hX hr dX9_stage_184
set_option maxRecDepth 20000 in
theorem w_Md_stage {X : CX Int32} (hX : Cx X RX9 cX9_stage 7 rm_Md_stage) (hr : Rt X injI (some .int) rm_Md_stage.cells rm_Md_stage.slots) (hz : Zx X false) (a0 : Nat) (i1 : Int32) (l2 : Int64) (i4 : Int32) : WM X 0 [(0, .ref a0), (1, .int i1), (2, .long l2), (4, .int i4)] [] 0 0 (m_Md_stage a0 i1 l2 i4) := by
  unfold m_Md_stage
  refine wm_ckd ?_
  refine wm_iload_n 1 hX dX9_stage_0 rfl rfl ?_
  refine wm_tsw [32, 53, 79, 105] 139 hX dX9_stage_1 (by decide) (by decide) (by decide) ⟨?_, ?_, ?_, ?_, trivial⟩ ?_
  · refine wm_lload_n 2 hX dX9_stage_32 rfl rfl ?_
    refine wm_lconst (0 : Int64) hX dX9_stage_33 (by decide) ?_
    refine wm_lif_ne 47 hX dX9_stage_34 dX9_stage_35 (by decide) ?_ ?_
    · refine wm_iconst (0 : Int32) hX dX9_stage_47 (by decide) ?_
      refine wm_istore [(5, .int (0 : Int32)), (0, .ref a0), (1, .int i1), (2, .long l2), (4, .int i4)] hX dX9_stage_48 (by decide) rfl ?_
      refine wm_goto (tgt := 177) hX dX9_stage_50 (by decide) ?_
      refine wm_sub [1, 2, 3, 4, 0] [(0, .ref a0), (1, .int i1), (2, .long l2), (4, .int i4), (5, .int (0 : Int32))] rfl ?_
      exact w_Md_stage_177 hX hr hz a0 i1 l2 i4 (0 : Int32)
    · refine wm_iload 3 hX dX9_stage_38 rfl ?_
      refine wm_if_ne 47 hX dX9_stage_40 (by decide) ?_ ?_
      · refine wm_iconst (0 : Int32) hX dX9_stage_47 (by decide) ?_
        refine wm_istore [(5, .int (0 : Int32)), (0, .ref a0), (1, .int i1), (2, .long l2), (4, .int i4)] hX dX9_stage_48 (by decide) rfl ?_
        refine wm_goto (tgt := 177) hX dX9_stage_50 (by decide) ?_
        refine wm_sub [1, 2, 3, 4, 0] [(0, .ref a0), (1, .int i1), (2, .long l2), (4, .int i4), (5, .int (0 : Int32))] rfl ?_
        exact w_Md_stage_177 hX hr hz a0 i1 l2 i4 (0 : Int32)
      · refine wm_iconst (1 : Int32) hX dX9_stage_43 (by decide) ?_
        refine wm_goto (tgt := 48) hX dX9_stage_44 (by decide) ?_
        refine wm_istore [(5, .int (1 : Int32)), (0, .ref a0), (1, .int i1), (2, .long l2), (4, .int i4)] hX dX9_stage_48 (by decide) rfl ?_
        refine wm_goto (tgt := 177) hX dX9_stage_50 (by decide) ?_
        refine wm_sub [1, 2, 3, 4, 0] [(0, .ref a0), (1, .int i1), (2, .long l2), (4, .int i4), (5, .int (1 : Int32))] rfl ?_
        exact w_Md_stage_177 hX hr hz a0 i1 l2 i4 (1 : Int32)
  · refine wm_lload_n 2 hX dX9_stage_53 rfl rfl ?_
    refine wm_lconst (0 : Int64) hX dX9_stage_54 (by decide) ?_
    refine wm_ldc2 hX dX9_stage_55 wd_953 ?_
    refine wm_cSi (st := []) hX hz (i_Md_in l2 (0 : Int64) (256 : Int64)) cal_Md_in wd_896 rfl (fits_Md_stage_Md_in) (Nat.le_of_ble_eq_true rfl) dX9_stage_58 (fun v1 => ?_)
    refine wm_if_eq 73 hX dX9_stage_61 (by decide) ?_ ?_
    · refine wm_iconst (0 : Int32) hX dX9_stage_73 (by decide) ?_
      refine wm_istore [(5, .int (0 : Int32)), (0, .ref a0), (1, .int i1), (2, .long l2), (4, .int i4)] hX dX9_stage_74 (by decide) rfl ?_
      refine wm_goto (tgt := 177) hX dX9_stage_76 (by decide) ?_
      refine wm_sub [1, 2, 3, 4, 0] [(0, .ref a0), (1, .int i1), (2, .long l2), (4, .int i4), (5, .int (0 : Int32))] rfl ?_
      exact w_Md_stage_177 hX hr hz a0 i1 l2 i4 (0 : Int32)
    · refine wm_iload 3 hX dX9_stage_64 rfl ?_
      refine wm_if_ne 73 hX dX9_stage_66 (by decide) ?_ ?_
      · refine wm_iconst (0 : Int32) hX dX9_stage_73 (by decide) ?_
        refine wm_istore [(5, .int (0 : Int32)), (0, .ref a0), (1, .int i1), (2, .long l2), (4, .int i4)] hX dX9_stage_74 (by decide) rfl ?_
        refine wm_goto (tgt := 177) hX dX9_stage_76 (by decide) ?_
        refine wm_sub [1, 2, 3, 4, 0] [(0, .ref a0), (1, .int i1), (2, .long l2), (4, .int i4), (5, .int (0 : Int32))] rfl ?_
        exact w_Md_stage_177 hX hr hz a0 i1 l2 i4 (0 : Int32)
      · refine wm_iconst (1 : Int32) hX dX9_stage_69 (by decide) ?_
        refine wm_goto (tgt := 74) hX dX9_stage_70 (by decide) ?_
        refine wm_istore [(5, .int (1 : Int32)), (0, .ref a0), (1, .int i1), (2, .long l2), (4, .int i4)] hX dX9_stage_74 (by decide) rfl ?_
        refine wm_goto (tgt := 177) hX dX9_stage_76 (by decide) ?_
        refine wm_sub [1, 2, 3, 4, 0] [(0, .ref a0), (1, .int i1), (2, .long l2), (4, .int i4), (5, .int (1 : Int32))] rfl ?_
        exact w_Md_stage_177 hX hr hz a0 i1 l2 i4 (1 : Int32)
  · refine wm_lload_n 2 hX dX9_stage_79 rfl rfl ?_
    refine wm_lconst (1 : Int64) hX dX9_stage_80 (by decide) ?_
    refine wm_ldc2 hX dX9_stage_81 wd_954 ?_
    refine wm_cSi (st := []) hX hz (i_Md_in l2 (1 : Int64) (1000000000000000 : Int64)) cal_Md_in wd_896 rfl (fits_Md_stage_Md_in) (Nat.le_of_ble_eq_true rfl) dX9_stage_84 (fun v2 => ?_)
    refine wm_if_eq 99 hX dX9_stage_87 (by decide) ?_ ?_
    · refine wm_iconst (0 : Int32) hX dX9_stage_99 (by decide) ?_
      refine wm_istore [(5, .int (0 : Int32)), (0, .ref a0), (1, .int i1), (2, .long l2), (4, .int i4)] hX dX9_stage_100 (by decide) rfl ?_
      refine wm_goto (tgt := 177) hX dX9_stage_102 (by decide) ?_
      refine wm_sub [1, 2, 3, 4, 0] [(0, .ref a0), (1, .int i1), (2, .long l2), (4, .int i4), (5, .int (0 : Int32))] rfl ?_
      exact w_Md_stage_177 hX hr hz a0 i1 l2 i4 (0 : Int32)
    · refine wm_iload 3 hX dX9_stage_90 rfl ?_
      refine wm_if_ne 99 hX dX9_stage_92 (by decide) ?_ ?_
      · refine wm_iconst (0 : Int32) hX dX9_stage_99 (by decide) ?_
        refine wm_istore [(5, .int (0 : Int32)), (0, .ref a0), (1, .int i1), (2, .long l2), (4, .int i4)] hX dX9_stage_100 (by decide) rfl ?_
        refine wm_goto (tgt := 177) hX dX9_stage_102 (by decide) ?_
        refine wm_sub [1, 2, 3, 4, 0] [(0, .ref a0), (1, .int i1), (2, .long l2), (4, .int i4), (5, .int (0 : Int32))] rfl ?_
        exact w_Md_stage_177 hX hr hz a0 i1 l2 i4 (0 : Int32)
      · refine wm_iconst (1 : Int32) hX dX9_stage_95 (by decide) ?_
        refine wm_goto (tgt := 100) hX dX9_stage_96 (by decide) ?_
        refine wm_istore [(5, .int (1 : Int32)), (0, .ref a0), (1, .int i1), (2, .long l2), (4, .int i4)] hX dX9_stage_100 (by decide) rfl ?_
        refine wm_goto (tgt := 177) hX dX9_stage_102 (by decide) ?_
        refine wm_sub [1, 2, 3, 4, 0] [(0, .ref a0), (1, .int i1), (2, .long l2), (4, .int i4), (5, .int (1 : Int32))] rfl ?_
        exact w_Md_stage_177 hX hr hz a0 i1 l2 i4 (1 : Int32)
  · refine wm_lload_n 2 hX dX9_stage_105 rfl rfl ?_
    refine wm_lconst (1 : Int64) hX dX9_stage_106 (by decide) ?_
    refine wm_ldc2 hX dX9_stage_107 wd_954 ?_
    refine wm_cSi (st := []) hX hz (i_Md_in l2 (1 : Int64) (1000000000000000 : Int64)) cal_Md_in wd_896 rfl (fits_Md_stage_Md_in) (Nat.le_of_ble_eq_true rfl) dX9_stage_110 (fun v3 => ?_)
    refine wm_if_eq 133 hX dX9_stage_113 (by decide) ?_ ?_
    · refine wm_iconst (0 : Int32) hX dX9_stage_133 (by decide) ?_
      refine wm_istore [(5, .int (0 : Int32)), (0, .ref a0), (1, .int i1), (2, .long l2), (4, .int i4)] hX dX9_stage_134 (by decide) rfl ?_
      refine wm_goto (tgt := 177) hX dX9_stage_136 (by decide) ?_
      refine wm_sub [1, 2, 3, 4, 0] [(0, .ref a0), (1, .int i1), (2, .long l2), (4, .int i4), (5, .int (0 : Int32))] rfl ?_
      exact w_Md_stage_177 hX hr hz a0 i1 l2 i4 (0 : Int32)
    · refine wm_iload 3 hX dX9_stage_116 rfl ?_
      refine wm_i2l hX dX9_stage_118 ?_
      refine wm_lconst (0 : Int64) hX dX9_stage_119 (by decide) ?_
      refine wm_ldc2 hX dX9_stage_120 wd_953 ?_
      refine wm_cSi (st := []) hX hz (i_Md_in (i4.toInt64) (0 : Int64) (256 : Int64)) cal_Md_in wd_896 rfl (fits_Md_stage_Md_in) (Nat.le_of_ble_eq_true rfl) dX9_stage_123 (fun v4 => ?_)
      refine wm_if_eq 133 hX dX9_stage_126 (by decide) ?_ ?_
      · refine wm_iconst (0 : Int32) hX dX9_stage_133 (by decide) ?_
        refine wm_istore [(5, .int (0 : Int32)), (0, .ref a0), (1, .int i1), (2, .long l2), (4, .int i4)] hX dX9_stage_134 (by decide) rfl ?_
        refine wm_goto (tgt := 177) hX dX9_stage_136 (by decide) ?_
        refine wm_sub [1, 2, 3, 4, 0] [(0, .ref a0), (1, .int i1), (2, .long l2), (4, .int i4), (5, .int (0 : Int32))] rfl ?_
        exact w_Md_stage_177 hX hr hz a0 i1 l2 i4 (0 : Int32)
      · refine wm_iconst (1 : Int32) hX dX9_stage_129 (by decide) ?_
        refine wm_goto (tgt := 134) hX dX9_stage_130 (by decide) ?_
        refine wm_istore [(5, .int (1 : Int32)), (0, .ref a0), (1, .int i1), (2, .long l2), (4, .int i4)] hX dX9_stage_134 (by decide) rfl ?_
        refine wm_goto (tgt := 177) hX dX9_stage_136 (by decide) ?_
        refine wm_sub [1, 2, 3, 4, 0] [(0, .ref a0), (1, .int i1), (2, .long l2), (4, .int i4), (5, .int (1 : Int32))] rfl ?_
        exact w_Md_stage_177 hX hr hz a0 i1 l2 i4 (1 : Int32)
  · refine wm_iload_n 1 hX dX9_stage_139 rfl rfl ?_
    refine wm_iconst (4 : Int32) hX dX9_stage_140 (by decide) ?_
    refine wm_icmp_ne 174 hX dX9_stage_141 (by decide) ?_ ?_
    · refine wm_iconst (0 : Int32) hX dX9_stage_174 (by decide) ?_
      refine wm_istore [(5, .int (0 : Int32)), (0, .ref a0), (1, .int i1), (2, .long l2), (4, .int i4)] hX dX9_stage_175 (by decide) rfl ?_
      refine wm_sub [1, 2, 3, 4, 0] [(0, .ref a0), (1, .int i1), (2, .long l2), (4, .int i4), (5, .int (0 : Int32))] rfl ?_
      exact w_Md_stage_177 hX hr hz a0 i1 l2 i4 (0 : Int32)
    · refine wm_lload_n 2 hX dX9_stage_144 rfl rfl ?_
      refine wm_lconst (0 : Int64) hX dX9_stage_145 (by decide) ?_
      refine wm_ldc2 hX dX9_stage_146 wd_953 ?_
      refine wm_cSi (st := []) hX hz (i_Md_in l2 (0 : Int64) (256 : Int64)) cal_Md_in wd_896 rfl (fits_Md_stage_Md_in) (Nat.le_of_ble_eq_true rfl) dX9_stage_149 (fun v5 => ?_)
      refine wm_if_eq 174 hX dX9_stage_152 (by decide) ?_ ?_
      · refine wm_iconst (0 : Int32) hX dX9_stage_174 (by decide) ?_
        refine wm_istore [(5, .int (0 : Int32)), (0, .ref a0), (1, .int i1), (2, .long l2), (4, .int i4)] hX dX9_stage_175 (by decide) rfl ?_
        refine wm_sub [1, 2, 3, 4, 0] [(0, .ref a0), (1, .int i1), (2, .long l2), (4, .int i4), (5, .int (0 : Int32))] rfl ?_
        exact w_Md_stage_177 hX hr hz a0 i1 l2 i4 (0 : Int32)
      · refine wm_iload 3 hX dX9_stage_155 rfl ?_
        refine wm_i2l hX dX9_stage_157 ?_
        refine wm_ldc2 hX dX9_stage_158 wd_955 ?_
        refine wm_ldc2 hX dX9_stage_161 wd_956 ?_
        refine wm_cSi (st := []) hX hz (i_Md_in (i4.toInt64) (-100 : Int64) (100 : Int64)) cal_Md_in wd_896 rfl (fits_Md_stage_Md_in) (Nat.le_of_ble_eq_true rfl) dX9_stage_164 (fun v6 => ?_)
        refine wm_if_eq 174 hX dX9_stage_167 (by decide) ?_ ?_
        · refine wm_iconst (0 : Int32) hX dX9_stage_174 (by decide) ?_
          refine wm_istore [(5, .int (0 : Int32)), (0, .ref a0), (1, .int i1), (2, .long l2), (4, .int i4)] hX dX9_stage_175 (by decide) rfl ?_
          refine wm_sub [1, 2, 3, 4, 0] [(0, .ref a0), (1, .int i1), (2, .long l2), (4, .int i4), (5, .int (0 : Int32))] rfl ?_
          exact w_Md_stage_177 hX hr hz a0 i1 l2 i4 (0 : Int32)
        · refine wm_iconst (1 : Int32) hX dX9_stage_170 (by decide) ?_
          refine wm_goto (tgt := 175) hX dX9_stage_171 (by decide) ?_
          refine wm_istore [(5, .int (1 : Int32)), (0, .ref a0), (1, .int i1), (2, .long l2), (4, .int i4)] hX dX9_stage_175 (by decide) rfl ?_
          refine wm_sub [1, 2, 3, 4, 0] [(0, .ref a0), (1, .int i1), (2, .long l2), (4, .int i4), (5, .int (1 : Int32))] rfl ?_
          exact w_Md_stage_177 hX hr hz a0 i1 l2 i4 (1 : Int32)
theorem i_Md_stage (a0 : Nat) (i1 : Int32) (l2 : Int64) (i4 : Int32) : Im false yX9_stage cX9_stage 7 (some .int) rm_Md_stage injI [.ref a0, .int i1, .long l2, .int i4] (m_Md_stage a0 i1 l2 i4) := Im.of RX9 (by decide) rfl (Nat.le_of_ble_eq_true rfl) (fun X hX hr hn hz => w_Md_stage hX hr hz a0 i1 l2 i4)
set_option maxRecDepth 20000 in
theorem w_Ob_isSample {X : CX Int32} (hX : Cx X RX8 cX8_isSample 2 rm_Ob_isSample) (hr : Rt X injI (some .boolean) rm_Ob_isSample.cells rm_Ob_isSample.slots) (hz : Zx X false) (l0 : Int64) : WM X 0 [(0, .long l0)] [] 0 0 (m_Ob_isSample l0) := by
  unfold m_Ob_isSample
  refine wm_lload_n 0 hX dX8_isSample_0 rfl rfl ?_
  refine wm_ldc2 hX dX8_isSample_1 wd_433 ?_
  refine wm_lif_lt 20 hX dX8_isSample_4 dX8_isSample_5 (by decide) ?_ ?_
  · refine wm_iconst (0 : Int32) hX dX8_isSample_20 (by decide) ?_
    exact wm_zret hX hr dX8_isSample_21
  · refine wm_lload_n 0 hX dX8_isSample_8 rfl rfl ?_
    refine wm_ldc2 hX dX8_isSample_9 wd_434 ?_
    refine wm_lif_gt 20 hX dX8_isSample_12 dX8_isSample_13 (by decide) ?_ ?_
    · refine wm_iconst (0 : Int32) hX dX8_isSample_20 (by decide) ?_
      exact wm_zret hX hr dX8_isSample_21
    · refine wm_iconst (1 : Int32) hX dX8_isSample_16 (by decide) ?_
      refine wm_goto (tgt := 21) hX dX8_isSample_17 (by decide) ?_
      exact wm_zret hX hr dX8_isSample_21
theorem i_Ob_isSample (l0 : Int64) : Im false yX8_isSample cX8_isSample 2 (some .boolean) rm_Ob_isSample injI [.long l0] (m_Ob_isSample l0) := Im.of RX8 (by decide) rfl (Nat.le_of_ble_eq_true rfl) (fun X hX hr hn hz => w_Ob_isSample hX hr hz l0)
set_option maxRecDepth 20000 in
theorem wb_Sp_layLevels_8 {X : CX Unit} (hX : Cx X RX5 cX5_layLevels 7 rm_Sp_layLevels) (hr : Rt X injV none rm_Sp_layLevels.cells rm_Sp_layLevels.slots) (hz : Zx X false) {k8 : Nat → Int32 → Int64 → Int64 → Int32 → M Unit} (h8 : ∀ (a0 : Nat) (i1 : Int32) (l2 : Int64) (l4 : Int64) (i6 : Int32), WM X 8 [(0, .ref a0), (1, .int i1), (2, .long l2), (4, .long l4), (6, .int i6)] [] 0 0 (k8 a0 i1 l2 l4 i6)) (a0 : Nat) (i1 : Int32) (l2 : Int64) (l4 : Int64) (i6 : Int32) : WM X 8 [(0, .ref a0), (1, .int i1), (2, .long l2), (4, .long l4), (6, .int i6)] [] 0 0 (b_Sp_layLevels_8 k8 a0 i1 l2 l4 i6) := by
  unfold b_Sp_layLevels_8
  refine wm_iload 4 hX dX5_layLevels_8 rfl ?_
  refine wm_iload_n 1 hX dX5_layLevels_10 rfl rfl ?_
  refine wm_icmp_ge 35 hX dX5_layLevels_11 (by decide) ?_ ?_
  · exact wm_vret hX hr dX5_layLevels_35
  · refine wm_aload_n 0 hX dX5_layLevels_14 rfl rfl ?_
    refine wm_gR hX fl_RX5_22 dX5_layLevels_15 (fun v1 => ?_)
    refine wm_iload 4 hX dX5_layLevels_18 rfl ?_
    refine wm_lload_n 2 hX dX5_layLevels_20 rfl rfl ?_
    refine wm_iload 4 hX dX5_layLevels_21 rfl ?_
    refine wm_i2l hX dX5_layLevels_23 ?_
    refine wm_lload 3 hX dX5_layLevels_24 rfl ?_
    refine wm_lmul hX dX5_layLevels_26 ?_
    refine wm_ladd hX dX5_layLevels_27 ?_
    refine wm_stL hX dX5_layLevels_28 ?_
    refine wm_iinc (i6 + 1) 4 [(6, .int (i6 + 1)), (0, .ref a0), (1, .int i1), (2, .long l2), (4, .long l4)] hX dX5_layLevels_29 rfl rfl (by decide) rfl ?_
    refine wm_goto (tgt := 8) hX dX5_layLevels_32 (by decide) ?_
    refine wm_sub [1, 2, 3, 4, 0] [(0, .ref a0), (1, .int i1), (2, .long l2), (4, .long l4), (6, .int (i6 + 1))] rfl ?_
    exact h8 a0 i1 l2 l4 (i6 + 1)
theorem wl_Sp_layLevels_8 {X : CX Unit} (hX : Cx X RX5 cX5_layLevels 7 rm_Sp_layLevels) (hr : Rt X injV none rm_Sp_layLevels.cells rm_Sp_layLevels.slots) (hz : Zx X false) : ∀ (n : Nat) (a0 : Nat) (i1 : Int32) (l2 : Int64) (l4 : Int64) (i6 : Int32), WM X 8 [(0, .ref a0), (1, .int i1), (2, .long l2), (4, .long l4), (6, .int i6)] [] 0 0 (l_Sp_layLevels_8 n a0 i1 l2 l4 i6)
  | 0, _, _, _, _, _ => wm_fl
  | n + 1, a0, i1, l2, l4, i6 => wb_Sp_layLevels_8 hX hr hz (wl_Sp_layLevels_8 hX hr hz n) a0 i1 l2 l4 i6
set_option maxRecDepth 20000 in
theorem w_Sp_layLevels {X : CX Unit} (hX : Cx X RX5 cX5_layLevels 7 rm_Sp_layLevels) (hr : Rt X injV none rm_Sp_layLevels.cells rm_Sp_layLevels.slots) (hz : Zx X false) (a0 : Nat) (i1 : Int32) (l2 : Int64) (l4 : Int64) : WM X 0 [(0, .ref a0), (1, .int i1), (2, .long l2), (4, .long l4)] [] 0 0 (m_Sp_layLevels a0 i1 l2 l4) := by
  unfold m_Sp_layLevels
  refine wm_ckd ?_
  refine wm_aload_n 0 hX dX5_layLevels_0 rfl rfl ?_
  refine wm_iload_n 1 hX dX5_layLevels_1 rfl rfl ?_
  refine wm_pI hX fp_RX5_29 dX5_layLevels_2 ?_
  refine wm_iconst (0 : Int32) hX dX5_layLevels_5 (by decide) ?_
  refine wm_istore [(6, .int (0 : Int32)), (0, .ref a0), (1, .int i1), (2, .long l2), (4, .long l4)] hX dX5_layLevels_6 (by decide) rfl ?_
  refine wm_sub [1, 2, 3, 4, 0] [(0, .ref a0), (1, .int i1), (2, .long l2), (4, .long l4), (6, .int (0 : Int32))] rfl ?_
  exact wl_Sp_layLevels_8 hX hr hz FU a0 i1 l2 l4 (0 : Int32)
theorem i_Sp_layLevels (a0 : Nat) (i1 : Int32) (l2 : Int64) (l4 : Int64) : Im false yX5_layLevels cX5_layLevels 7 none rm_Sp_layLevels injV [.ref a0, .int i1, .long l2, .long l4] (m_Sp_layLevels a0 i1 l2 l4) := Im.of RX5 (by decide) rfl (Nat.le_of_ble_eq_true rfl) (fun X hX hr hn hz => w_Sp_layLevels hX hr hz a0 i1 l2 l4)
set_option maxRecDepth 20000 in
theorem w_Ob_levels {X : CX Int32} (hX : Cx X RX8 cX8_levels 6 rm_Ob_levels) (hr : Rt X injI (some .int) rm_Ob_levels.cells rm_Ob_levels.slots) (hz : Zx X false) (a0 : Nat) (i1 : Int32) (l2 : Int64) (l4 : Int64) : WM X 0 [(0, .ref a0), (1, .int i1), (2, .long l2), (4, .long l4)] [] 0 0 (m_Ob_levels a0 i1 l2 l4) := by
  unfold m_Ob_levels
  refine wm_ckd ?_
  refine wm_iload_n 1 hX dX8_levels_0 rfl rfl ?_
  refine wm_iconst (2 : Int32) hX dX8_levels_1 (by decide) ?_
  refine wm_icmp_lt 27 hX dX8_levels_2 (by decide) ?_ ?_
  · refine wm_bipush (-2 : Int32) hX dX8_levels_27 (by decide) ?_
    exact wm_iret hX hr dX8_levels_29
  · refine wm_iload_n 1 hX dX8_levels_5 rfl rfl ?_
    refine wm_bipush (16 : Int32) hX dX8_levels_6 (by decide) ?_
    refine wm_icmp_gt 27 hX dX8_levels_8 (by decide) ?_ ?_
    · refine wm_bipush (-2 : Int32) hX dX8_levels_27 (by decide) ?_
      exact wm_iret hX hr dX8_levels_29
    · refine wm_lload 3 hX dX8_levels_11 rfl ?_
      refine wm_lconst (1 : Int64) hX dX8_levels_13 (by decide) ?_
      refine wm_lif_lt 27 hX dX8_levels_14 dX8_levels_15 (by decide) ?_ ?_
      · refine wm_bipush (-2 : Int32) hX dX8_levels_27 (by decide) ?_
        exact wm_iret hX hr dX8_levels_29
      · refine wm_lload 3 hX dX8_levels_18 rfl ?_
        refine wm_ldc2 hX dX8_levels_20 wd_465 ?_
        refine wm_lif_le 30 hX dX8_levels_23 dX8_levels_24 (by decide) ?_ ?_
        · refine wm_lload_n 2 hX dX8_levels_30 rfl rfl ?_
          refine wm_cSi (st := []) hX hz (i_Ob_isSample l2) cal_Ob_isSample wd_466 rfl (fits_Ob_levels_Ob_isSample) (Nat.le_of_ble_eq_true rfl) dX8_levels_31 (fun v1 => ?_)
          refine wm_if_eq 52 hX dX8_levels_34 (by decide) ?_ ?_
          · refine wm_bipush (-2 : Int32) hX dX8_levels_52 (by decide) ?_
            exact wm_iret hX hr dX8_levels_54
          · refine wm_lload_n 2 hX dX8_levels_37 rfl rfl ?_
            refine wm_iload_n 1 hX dX8_levels_38 rfl rfl ?_
            refine wm_iconst (1 : Int32) hX dX8_levels_39 (by decide) ?_
            refine wm_isub hX dX8_levels_40 ?_
            refine wm_i2l hX dX8_levels_41 ?_
            refine wm_lload 3 hX dX8_levels_42 rfl ?_
            refine wm_lmul hX dX8_levels_44 ?_
            refine wm_ladd hX dX8_levels_45 ?_
            refine wm_cSi (st := []) hX hz (i_Ob_isSample (l2 + (((i1 - (1 : Int32)).toInt64) * l4))) cal_Ob_isSample wd_466 rfl (fits_Ob_levels_Ob_isSample) (Nat.le_of_ble_eq_true rfl) dX8_levels_46 (fun v2 => ?_)
            refine wm_if_ne 55 hX dX8_levels_49 (by decide) ?_ ?_
            · refine wm_aload_n 0 hX dX8_levels_55 rfl rfl ?_
              refine wm_gR hX fl_RX8_26 dX8_levels_56 (fun v3 => ?_)
              refine wm_gI hX fl_RX8_138 dX8_levels_59 (fun v4 => ?_)
              refine wm_if_le 68 hX dX8_levels_62 (by decide) ?_ ?_
              · refine wm_aload_n 0 hX dX8_levels_68 rfl rfl ?_
                refine wm_gR hX fl_RX8_19 dX8_levels_69 (fun v5 => ?_)
                refine wm_iload_n 1 hX dX8_levels_72 rfl rfl ?_
                refine wm_lload_n 2 hX dX8_levels_73 rfl rfl ?_
                refine wm_lload 3 hX dX8_levels_74 rfl ?_
                refine wm_cVv (st := []) hX hz (i_Sp_layLevels v5 i1 l2 l4) Ckd.of rfl cal_Sp_layLevels wd_469 rfl (fits_Ob_levels_Sp_layLevels) (Nat.le_of_ble_eq_true rfl) dX8_levels_76 ?_
                refine wm_iconst (1 : Int32) hX dX8_levels_79 (by decide) ?_
                exact wm_iret hX hr dX8_levels_80
              · refine wm_bipush (-3 : Int32) hX dX8_levels_65 (by decide) ?_
                exact wm_iret hX hr dX8_levels_67
            · refine wm_bipush (-2 : Int32) hX dX8_levels_52 (by decide) ?_
              exact wm_iret hX hr dX8_levels_54
        · refine wm_bipush (-2 : Int32) hX dX8_levels_27 (by decide) ?_
          exact wm_iret hX hr dX8_levels_29
theorem i_Ob_levels (a0 : Nat) (i1 : Int32) (l2 : Int64) (l4 : Int64) : Im false yX8_levels cX8_levels 6 (some .int) rm_Ob_levels injI [.ref a0, .int i1, .long l2, .long l4] (m_Ob_levels a0 i1 l2 l4) := Im.of RX8 (by decide) rfl (Nat.le_of_ble_eq_true rfl) (fun X hX hr hn hz => w_Ob_levels hX hr hz a0 i1 l2 l4)
set_option maxRecDepth 20000 in
theorem w_Md_isSample {X : CX Int32} (hX : Cx X RX9 cX9_isSample 2 rm_Md_isSample) (hr : Rt X injI (some .boolean) rm_Md_isSample.cells rm_Md_isSample.slots) (hz : Zx X false) (l0 : Int64) : WM X 0 [(0, .long l0)] [] 0 0 (m_Md_isSample l0) := by
  unfold m_Md_isSample
  refine wm_lload_n 0 hX dX9_isSample_0 rfl rfl ?_
  refine wm_ldc2 hX dX9_isSample_1 wd_948 ?_
  refine wm_ldc2 hX dX9_isSample_4 wd_947 ?_
  refine wm_cSi (st := []) hX hz (i_Md_in l0 (-1000000000000 : Int64) (1000000000000 : Int64)) cal_Md_in wd_896 rfl (fits_Md_isSample_Md_in) (Nat.le_of_ble_eq_true rfl) dX9_isSample_7 (fun v1 => ?_)
  exact wm_zret hX hr dX9_isSample_10
theorem i_Md_isSample (l0 : Int64) : Im false yX9_isSample cX9_isSample 2 (some .boolean) rm_Md_isSample injI [.long l0] (m_Md_isSample l0) := Im.of RX9 (by decide) rfl (Nat.le_of_ble_eq_true rfl) (fun X hX hr hn hz => w_Md_isSample hX hr hz l0)
set_option maxRecDepth 20000 in
theorem wb_Md_levels_69 {X : CX Int32} (hX : Cx X RX9 cX9_levels 7 rm_Md_levels) (hr : Rt X injI (some .int) rm_Md_levels.cells rm_Md_levels.slots) (hz : Zx X false) {k69 : Nat → Int32 → Int64 → Int64 → Int32 → M Int32} (h69 : ∀ (a0 : Nat) (i1 : Int32) (l2 : Int64) (l4 : Int64) (i6 : Int32), WM X 69 [(0, .ref a0), (1, .int i1), (2, .long l2), (4, .long l4), (6, .int i6)] [] 0 0 (k69 a0 i1 l2 l4 i6)) (a0 : Nat) (i1 : Int32) (l2 : Int64) (l4 : Int64) (i6 : Int32) : WM X 69 [(0, .ref a0), (1, .int i1), (2, .long l2), (4, .long l4), (6, .int i6)] [] 0 0 (b_Md_levels_69 k69 a0 i1 l2 l4 i6) := by
  unfold b_Md_levels_69
  refine wm_iload 4 hX dX9_levels_69 rfl ?_
  refine wm_iload_n 1 hX dX9_levels_71 rfl rfl ?_
  refine wm_icmp_ge 96 hX dX9_levels_72 (by decide) ?_ ?_
  · refine wm_iconst (1 : Int32) hX dX9_levels_96 (by decide) ?_
    exact wm_iret hX hr dX9_levels_97
  · refine wm_aload_n 0 hX dX9_levels_75 rfl rfl ?_
    refine wm_gR hX fl_RX9_36 dX9_levels_76 (fun v1 => ?_)
    refine wm_iload 4 hX dX9_levels_79 rfl ?_
    refine wm_lload_n 2 hX dX9_levels_81 rfl rfl ?_
    refine wm_iload 4 hX dX9_levels_82 rfl ?_
    refine wm_i2l hX dX9_levels_84 ?_
    refine wm_lload 3 hX dX9_levels_85 rfl ?_
    refine wm_lmul hX dX9_levels_87 ?_
    refine wm_ladd hX dX9_levels_88 ?_
    refine wm_stL hX dX9_levels_89 ?_
    refine wm_iinc (i6 + 1) 4 [(6, .int (i6 + 1)), (0, .ref a0), (1, .int i1), (2, .long l2), (4, .long l4)] hX dX9_levels_90 rfl rfl (by decide) rfl ?_
    refine wm_goto (tgt := 69) hX dX9_levels_93 (by decide) ?_
    refine wm_sub [1, 2, 3, 4, 0] [(0, .ref a0), (1, .int i1), (2, .long l2), (4, .long l4), (6, .int (i6 + 1))] rfl ?_
    exact h69 a0 i1 l2 l4 (i6 + 1)
theorem wl_Md_levels_69 {X : CX Int32} (hX : Cx X RX9 cX9_levels 7 rm_Md_levels) (hr : Rt X injI (some .int) rm_Md_levels.cells rm_Md_levels.slots) (hz : Zx X false) : ∀ (n : Nat) (a0 : Nat) (i1 : Int32) (l2 : Int64) (l4 : Int64) (i6 : Int32), WM X 69 [(0, .ref a0), (1, .int i1), (2, .long l2), (4, .long l4), (6, .int i6)] [] 0 0 (l_Md_levels_69 n a0 i1 l2 l4 i6)
  | 0, _, _, _, _, _ => wm_fl
  | n + 1, a0, i1, l2, l4, i6 => wb_Md_levels_69 hX hr hz (wl_Md_levels_69 hX hr hz n) a0 i1 l2 l4 i6
set_option maxRecDepth 20000 in
theorem w_Md_levels {X : CX Int32} (hX : Cx X RX9 cX9_levels 7 rm_Md_levels) (hr : Rt X injI (some .int) rm_Md_levels.cells rm_Md_levels.slots) (hz : Zx X false) (a0 : Nat) (i1 : Int32) (l2 : Int64) (l4 : Int64) : WM X 0 [(0, .ref a0), (1, .int i1), (2, .long l2), (4, .long l4)] [] 0 0 (m_Md_levels a0 i1 l2 l4) := by
  unfold m_Md_levels
  refine wm_ckd ?_
  refine wm_iload_n 1 hX dX9_levels_0 rfl rfl ?_
  refine wm_i2l hX dX9_levels_1 ?_
  refine wm_ldc2 hX dX9_levels_2 wd_961 ?_
  refine wm_ldc2 hX dX9_levels_5 wd_962 ?_
  refine wm_cSi (st := []) hX hz (i_Md_in (i1.toInt64) (2 : Int64) (16 : Int64)) cal_Md_in wd_896 rfl (fits_Md_levels_Md_in) (Nat.le_of_ble_eq_true rfl) dX9_levels_8 (fun v1 => ?_)
  refine wm_if_eq 48 hX dX9_levels_11 (by decide) ?_ ?_
  · refine wm_bipush (-2 : Int32) hX dX9_levels_48 (by decide) ?_
    exact wm_iret hX hr dX9_levels_50
  · refine wm_lload_n 2 hX dX9_levels_14 rfl rfl ?_
    refine wm_cSi (st := []) hX hz (i_Md_isSample l2) cal_Md_isSample wd_963 rfl (fits_Md_levels_Md_isSample) (Nat.le_of_ble_eq_true rfl) dX9_levels_15 (fun v2 => ?_)
    refine wm_if_eq 48 hX dX9_levels_18 (by decide) ?_ ?_
    · refine wm_bipush (-2 : Int32) hX dX9_levels_48 (by decide) ?_
      exact wm_iret hX hr dX9_levels_50
    · refine wm_lload 3 hX dX9_levels_21 rfl ?_
      refine wm_lconst (1 : Int64) hX dX9_levels_23 (by decide) ?_
      refine wm_ldc2 hX dX9_levels_24 wd_966 ?_
      refine wm_cSi (st := []) hX hz (i_Md_in l4 (1 : Int64) (1000000000 : Int64)) cal_Md_in wd_896 rfl (fits_Md_levels_Md_in) (Nat.le_of_ble_eq_true rfl) dX9_levels_27 (fun v3 => ?_)
      refine wm_if_eq 48 hX dX9_levels_30 (by decide) ?_ ?_
      · refine wm_bipush (-2 : Int32) hX dX9_levels_48 (by decide) ?_
        exact wm_iret hX hr dX9_levels_50
      · refine wm_lload_n 2 hX dX9_levels_33 rfl rfl ?_
        refine wm_iload_n 1 hX dX9_levels_34 rfl rfl ?_
        refine wm_iconst (1 : Int32) hX dX9_levels_35 (by decide) ?_
        refine wm_isub hX dX9_levels_36 ?_
        refine wm_i2l hX dX9_levels_37 ?_
        refine wm_lload 3 hX dX9_levels_38 rfl ?_
        refine wm_lmul hX dX9_levels_40 ?_
        refine wm_ladd hX dX9_levels_41 ?_
        refine wm_cSi (st := []) hX hz (i_Md_isSample (l2 + (((i1 - (1 : Int32)).toInt64) * l4))) cal_Md_isSample wd_963 rfl (fits_Md_levels_Md_isSample) (Nat.le_of_ble_eq_true rfl) dX9_levels_42 (fun v4 => ?_)
        refine wm_if_ne 51 hX dX9_levels_45 (by decide) ?_ ?_
        · refine wm_aload_n 0 hX dX9_levels_51 rfl rfl ?_
          refine wm_gI hX fl_RX9_129 dX9_levels_52 (fun v5 => ?_)
          refine wm_if_le 61 hX dX9_levels_55 (by decide) ?_ ?_
          · refine wm_aload_n 0 hX dX9_levels_61 rfl rfl ?_
            refine wm_iload_n 1 hX dX9_levels_62 rfl rfl ?_
            refine wm_pI hX fp_RX9_87 dX9_levels_63 ?_
            refine wm_iconst (0 : Int32) hX dX9_levels_66 (by decide) ?_
            refine wm_istore [(6, .int (0 : Int32)), (0, .ref a0), (1, .int i1), (2, .long l2), (4, .long l4)] hX dX9_levels_67 (by decide) rfl ?_
            refine wm_sub [1, 2, 3, 4, 0] [(0, .ref a0), (1, .int i1), (2, .long l2), (4, .long l4), (6, .int (0 : Int32))] rfl ?_
            exact wl_Md_levels_69 hX hr hz FU a0 i1 l2 l4 (0 : Int32)
          · refine wm_bipush (-3 : Int32) hX dX9_levels_58 (by decide) ?_
            exact wm_iret hX hr dX9_levels_60
        · refine wm_bipush (-2 : Int32) hX dX9_levels_48 (by decide) ?_
          exact wm_iret hX hr dX9_levels_50
theorem i_Md_levels (a0 : Nat) (i1 : Int32) (l2 : Int64) (l4 : Int64) : Im false yX9_levels cX9_levels 7 (some .int) rm_Md_levels injI [.ref a0, .int i1, .long l2, .long l4] (m_Md_levels a0 i1 l2 l4) := Im.of RX9 (by decide) rfl (Nat.le_of_ble_eq_true rfl) (fun X hX hr hn hz => w_Md_levels hX hr hz a0 i1 l2 l4)
set_option maxRecDepth 20000 in
theorem w_Sp_hasLevel {X : CX Int32} (hX : Cx X RX5 cX5_hasLevel 2 rm_Sp_hasLevel) (hr : Rt X injI (some .boolean) rm_Sp_hasLevel.cells rm_Sp_hasLevel.slots) (hz : Zx X false) (a0 : Nat) (i1 : Int32) : WM X 0 [(0, .ref a0), (1, .int i1)] [] 0 0 (m_Sp_hasLevel a0 i1) := by
  unfold m_Sp_hasLevel
  refine wm_ckd ?_
  refine wm_iload_n 1 hX dX5_hasLevel_0 rfl rfl ?_
  refine wm_if_lt 16 hX dX5_hasLevel_1 (by decide) ?_ ?_
  · refine wm_iconst (0 : Int32) hX dX5_hasLevel_16 (by decide) ?_
    exact wm_zret hX hr dX5_hasLevel_17
  · refine wm_iload_n 1 hX dX5_hasLevel_4 rfl rfl ?_
    refine wm_aload_n 0 hX dX5_hasLevel_5 rfl rfl ?_
    refine wm_gI hX fl_RX5_29 dX5_hasLevel_6 (fun v1 => ?_)
    refine wm_icmp_ge 16 hX dX5_hasLevel_9 (by decide) ?_ ?_
    · refine wm_iconst (0 : Int32) hX dX5_hasLevel_16 (by decide) ?_
      exact wm_zret hX hr dX5_hasLevel_17
    · refine wm_iconst (1 : Int32) hX dX5_hasLevel_12 (by decide) ?_
      refine wm_goto (tgt := 17) hX dX5_hasLevel_13 (by decide) ?_
      exact wm_zret hX hr dX5_hasLevel_17
theorem i_Sp_hasLevel (a0 : Nat) (i1 : Int32) : Im false yX5_hasLevel cX5_hasLevel 2 (some .boolean) rm_Sp_hasLevel injI [.ref a0, .int i1] (m_Sp_hasLevel a0 i1) := Im.of RX5 (by decide) rfl (Nat.le_of_ble_eq_true rfl) (fun X hX hr hn hz => w_Sp_hasLevel hX hr hz a0 i1)
set_option maxRecDepth 20000 in
theorem w_Sp_wouldRise_17 {X : CX Int32} (hX : Cx X RX5 cX5_wouldRise 4 rm_Sp_wouldRise) (hr : Rt X injI (some .boolean) rm_Sp_wouldRise.cells rm_Sp_wouldRise.slots) (hz : Zx X false) (a0 : Nat) (i1 : Int32) (l2 : Int64) : WM X 17 [(0, .ref a0), (1, .int i1), (2, .long l2)] [] 0 0 (m_Sp_wouldRise_17 a0 i1 l2) := by
  unfold m_Sp_wouldRise_17
  refine wm_iload_n 1 hX dX5_wouldRise_17 rfl rfl ?_
  refine wm_aload_n 0 hX dX5_wouldRise_18 rfl rfl ?_
  refine wm_gI hX fl_RX5_29 dX5_wouldRise_19 (fun v1 => ?_)
  refine wm_iconst (1 : Int32) hX dX5_wouldRise_22 (by decide) ?_
  refine wm_isub hX dX5_wouldRise_23 ?_
  refine wm_icmp_eq 40 hX dX5_wouldRise_24 (by decide) ?_ ?_
  · refine wm_iconst (1 : Int32) hX dX5_wouldRise_40 (by decide) ?_
    refine wm_goto (tgt := 45) hX dX5_wouldRise_41 (by decide) ?_
    exact wm_zret hX hr dX5_wouldRise_45
  · refine wm_lload_n 2 hX dX5_wouldRise_27 rfl rfl ?_
    refine wm_aload_n 0 hX dX5_wouldRise_28 rfl rfl ?_
    refine wm_gR hX fl_RX5_22 dX5_wouldRise_29 (fun v2 => ?_)
    refine wm_iload_n 1 hX dX5_wouldRise_32 rfl rfl ?_
    refine wm_iconst (1 : Int32) hX dX5_wouldRise_33 (by decide) ?_
    refine wm_iadd hX dX5_wouldRise_34 ?_
    refine wm_ldL hX dX5_wouldRise_35 (fun v3 => ?_)
    refine wm_lif_ge 44 hX dX5_wouldRise_36 dX5_wouldRise_37 (by decide) ?_ ?_
    · refine wm_iconst (0 : Int32) hX dX5_wouldRise_44 (by decide) ?_
      exact wm_zret hX hr dX5_wouldRise_45
    · refine wm_iconst (1 : Int32) hX dX5_wouldRise_40 (by decide) ?_
      refine wm_goto (tgt := 45) hX dX5_wouldRise_41 (by decide) ?_
      exact wm_zret hX hr dX5_wouldRise_45
set_option maxRecDepth 20000 in
theorem w_Sp_wouldRise {X : CX Int32} (hX : Cx X RX5 cX5_wouldRise 4 rm_Sp_wouldRise) (hr : Rt X injI (some .boolean) rm_Sp_wouldRise.cells rm_Sp_wouldRise.slots) (hz : Zx X false) (a0 : Nat) (i1 : Int32) (l2 : Int64) : WM X 0 [(0, .ref a0), (1, .int i1), (2, .long l2)] [] 0 0 (m_Sp_wouldRise a0 i1 l2) := by
  unfold m_Sp_wouldRise
  refine wm_ckd ?_
  refine wm_iload_n 1 hX dX5_wouldRise_0 rfl rfl ?_
  refine wm_if_eq 17 hX dX5_wouldRise_1 (by decide) ?_ ?_
  · exact w_Sp_wouldRise_17 hX hr hz a0 i1 l2
  · refine wm_aload_n 0 hX dX5_wouldRise_4 rfl rfl ?_
    refine wm_gR hX fl_RX5_22 dX5_wouldRise_5 (fun v1 => ?_)
    refine wm_iload_n 1 hX dX5_wouldRise_8 rfl rfl ?_
    refine wm_iconst (1 : Int32) hX dX5_wouldRise_9 (by decide) ?_
    refine wm_isub hX dX5_wouldRise_10 ?_
    refine wm_ldL hX dX5_wouldRise_11 (fun v2 => ?_)
    refine wm_lload_n 2 hX dX5_wouldRise_12 rfl rfl ?_
    refine wm_lif_ge 44 hX dX5_wouldRise_13 dX5_wouldRise_14 (by decide) ?_ ?_
    · refine wm_iconst (0 : Int32) hX dX5_wouldRise_44 (by decide) ?_
      exact wm_zret hX hr dX5_wouldRise_45
    · exact w_Sp_wouldRise_17 hX hr hz a0 i1 l2
theorem i_Sp_wouldRise (a0 : Nat) (i1 : Int32) (l2 : Int64) : Im false yX5_wouldRise cX5_wouldRise 4 (some .boolean) rm_Sp_wouldRise injI [.ref a0, .int i1, .long l2] (m_Sp_wouldRise a0 i1 l2) := Im.of RX5 (by decide) rfl (Nat.le_of_ble_eq_true rfl) (fun X hX hr hn hz => w_Sp_wouldRise hX hr hz a0 i1 l2)
set_option maxRecDepth 20000 in
theorem w_Ob_level {X : CX Int32} (hX : Cx X RX8 cX8_level 4 rm_Ob_level) (hr : Rt X injI (some .int) rm_Ob_level.cells rm_Ob_level.slots) (hz : Zx X false) (a0 : Nat) (i1 : Int32) (l2 : Int64) : WM X 0 [(0, .ref a0), (1, .int i1), (2, .long l2)] [] 0 0 (m_Ob_level a0 i1 l2) := by
  unfold m_Ob_level
  refine wm_ckd ?_
  refine wm_aload_n 0 hX dX8_level_0 rfl rfl ?_
  refine wm_gR hX fl_RX8_19 dX8_level_1 (fun v1 => ?_)
  refine wm_iload_n 1 hX dX8_level_4 rfl rfl ?_
  refine wm_cVi (st := []) hX hz (i_Sp_hasLevel v1 i1) Ckd.of rfl cal_Sp_hasLevel wd_477 rfl (fits_Ob_level_Sp_hasLevel) (Nat.le_of_ble_eq_true rfl) dX8_level_5 (fun v2 => ?_)
  refine wm_if_eq 30 hX dX8_level_8 (by decide) ?_ ?_
  · refine wm_bipush (-2 : Int32) hX dX8_level_30 (by decide) ?_
    exact wm_iret hX hr dX8_level_32
  · refine wm_lload_n 2 hX dX8_level_11 rfl rfl ?_
    refine wm_cSi (st := []) hX hz (i_Ob_isSample l2) cal_Ob_isSample wd_466 rfl (fits_Ob_level_Ob_isSample) (Nat.le_of_ble_eq_true rfl) dX8_level_12 (fun v3 => ?_)
    refine wm_if_eq 30 hX dX8_level_15 (by decide) ?_ ?_
    · refine wm_bipush (-2 : Int32) hX dX8_level_30 (by decide) ?_
      exact wm_iret hX hr dX8_level_32
    · refine wm_aload_n 0 hX dX8_level_18 rfl rfl ?_
      refine wm_gR hX fl_RX8_19 dX8_level_19 (fun v4 => ?_)
      refine wm_iload_n 1 hX dX8_level_22 rfl rfl ?_
      refine wm_lload_n 2 hX dX8_level_23 rfl rfl ?_
      refine wm_cVi (st := []) hX hz (i_Sp_wouldRise v4 i1 l2) Ckd.of rfl cal_Sp_wouldRise wd_481 rfl (fits_Ob_level_Sp_wouldRise) (Nat.le_of_ble_eq_true rfl) dX8_level_24 (fun v5 => ?_)
      refine wm_if_ne 33 hX dX8_level_27 (by decide) ?_ ?_
      · refine wm_aload_n 0 hX dX8_level_33 rfl rfl ?_
        refine wm_gR hX fl_RX8_26 dX8_level_34 (fun v6 => ?_)
        refine wm_gI hX fl_RX8_138 dX8_level_37 (fun v7 => ?_)
        refine wm_if_le 46 hX dX8_level_40 (by decide) ?_ ?_
        · refine wm_aload_n 0 hX dX8_level_46 rfl rfl ?_
          refine wm_gR hX fl_RX8_19 dX8_level_47 (fun v8 => ?_)
          refine wm_gR hX fl_RX8_165 dX8_level_50 (fun v9 => ?_)
          refine wm_iload_n 1 hX dX8_level_53 rfl rfl ?_
          refine wm_lload_n 2 hX dX8_level_54 rfl rfl ?_
          refine wm_stL hX dX8_level_55 ?_
          refine wm_iconst (1 : Int32) hX dX8_level_56 (by decide) ?_
          exact wm_iret hX hr dX8_level_57
        · refine wm_bipush (-3 : Int32) hX dX8_level_43 (by decide) ?_
          exact wm_iret hX hr dX8_level_45
      · refine wm_bipush (-2 : Int32) hX dX8_level_30 (by decide) ?_
        exact wm_iret hX hr dX8_level_32
theorem i_Ob_level (a0 : Nat) (i1 : Int32) (l2 : Int64) : Im false yX8_level cX8_level 4 (some .int) rm_Ob_level injI [.ref a0, .int i1, .long l2] (m_Ob_level a0 i1 l2) := Im.of RX8 (by decide) rfl (Nat.le_of_ble_eq_true rfl) (fun X hX hr hn hz => w_Ob_level hX hr hz a0 i1 l2)
set_option maxRecDepth 20000 in
theorem w_Md_level_66 {X : CX Int32} (hX : Cx X RX9 cX9_level 4 rm_Md_level) (hr : Rt X injI (some .int) rm_Md_level.cells rm_Md_level.slots) (hz : Zx X false) (a0 : Nat) (i1 : Int32) (l2 : Int64) : WM X 66 [(0, .ref a0), (1, .int i1), (2, .long l2)] [] 0 0 (m_Md_level_66 a0 i1 l2) := by
  unfold m_Md_level_66
  refine wm_aload_n 0 hX dX9_level_66 rfl rfl ?_
  refine wm_gI hX fl_RX9_129 dX9_level_67 (fun v1 => ?_)
  refine wm_if_le 76 hX dX9_level_70 (by decide) ?_ ?_
  · refine wm_aload_n 0 hX dX9_level_76 rfl rfl ?_
    refine wm_gR hX fl_RX9_36 dX9_level_77 (fun v2 => ?_)
    refine wm_iload_n 1 hX dX9_level_80 rfl rfl ?_
    refine wm_lload_n 2 hX dX9_level_81 rfl rfl ?_
    refine wm_stL hX dX9_level_82 ?_
    refine wm_iconst (1 : Int32) hX dX9_level_83 (by decide) ?_
    exact wm_iret hX hr dX9_level_84
  · refine wm_bipush (-3 : Int32) hX dX9_level_73 (by decide) ?_
    exact wm_iret hX hr dX9_level_75
set_option maxRecDepth 20000 in
theorem w_Md_level_40 {X : CX Int32} (hX : Cx X RX9 cX9_level 4 rm_Md_level) (hr : Rt X injI (some .int) rm_Md_level.cells rm_Md_level.slots) (hz : Zx X false) (a0 : Nat) (i1 : Int32) (l2 : Int64) : WM X 40 [(0, .ref a0), (1, .int i1), (2, .long l2)] [] 0 0 (m_Md_level_40 a0 i1 l2) := by
  unfold m_Md_level_40
  refine wm_iload_n 1 hX dX9_level_40 rfl rfl ?_
  refine wm_iconst (1 : Int32) hX dX9_level_41 (by decide) ?_
  refine wm_iadd hX dX9_level_42 ?_
  refine wm_aload_n 0 hX dX9_level_43 rfl rfl ?_
  refine wm_gI hX fl_RX9_87 dX9_level_44 (fun v1 => ?_)
  refine wm_icmp_ge 66 hX dX9_level_47 (by decide) ?_ ?_
  · exact w_Md_level_66 hX hr hz a0 i1 l2
  · refine wm_aload_n 0 hX dX9_level_50 rfl rfl ?_
    refine wm_gR hX fl_RX9_36 dX9_level_51 (fun v2 => ?_)
    refine wm_iload_n 1 hX dX9_level_54 rfl rfl ?_
    refine wm_iconst (1 : Int32) hX dX9_level_55 (by decide) ?_
    refine wm_iadd hX dX9_level_56 ?_
    refine wm_ldL hX dX9_level_57 (fun v3 => ?_)
    refine wm_lload_n 2 hX dX9_level_58 rfl rfl ?_
    refine wm_lif_gt 66 hX dX9_level_59 dX9_level_60 (by decide) ?_ ?_
    · exact w_Md_level_66 hX hr hz a0 i1 l2
    · refine wm_bipush (-2 : Int32) hX dX9_level_63 (by decide) ?_
      exact wm_iret hX hr dX9_level_65
set_option maxRecDepth 20000 in
theorem w_Md_level {X : CX Int32} (hX : Cx X RX9 cX9_level 4 rm_Md_level) (hr : Rt X injI (some .int) rm_Md_level.cells rm_Md_level.slots) (hz : Zx X false) (a0 : Nat) (i1 : Int32) (l2 : Int64) : WM X 0 [(0, .ref a0), (1, .int i1), (2, .long l2)] [] 0 0 (m_Md_level a0 i1 l2) := by
  unfold m_Md_level
  refine wm_ckd ?_
  refine wm_iload_n 1 hX dX9_level_0 rfl rfl ?_
  refine wm_i2l hX dX9_level_1 ?_
  refine wm_lconst (0 : Int64) hX dX9_level_2 (by decide) ?_
  refine wm_aload_n 0 hX dX9_level_3 rfl rfl ?_
  refine wm_gI hX fl_RX9_87 dX9_level_4 (fun v1 => ?_)
  refine wm_iconst (1 : Int32) hX dX9_level_7 (by decide) ?_
  refine wm_isub hX dX9_level_8 ?_
  refine wm_i2l hX dX9_level_9 ?_
  refine wm_cSi (st := []) hX hz (i_Md_in (i1.toInt64) (0 : Int64) ((v1 - (1 : Int32)).toInt64)) cal_Md_in wd_896 rfl (fits_Md_level_Md_in) (Nat.le_of_ble_eq_true rfl) dX9_level_10 (fun v2 => ?_)
  refine wm_if_eq 63 hX dX9_level_13 (by decide) ?_ ?_
  · refine wm_bipush (-2 : Int32) hX dX9_level_63 (by decide) ?_
    exact wm_iret hX hr dX9_level_65
  · refine wm_lload_n 2 hX dX9_level_16 rfl rfl ?_
    refine wm_cSi (st := []) hX hz (i_Md_isSample l2) cal_Md_isSample wd_963 rfl (fits_Md_level_Md_isSample) (Nat.le_of_ble_eq_true rfl) dX9_level_17 (fun v3 => ?_)
    refine wm_if_eq 63 hX dX9_level_20 (by decide) ?_ ?_
    · refine wm_bipush (-2 : Int32) hX dX9_level_63 (by decide) ?_
      exact wm_iret hX hr dX9_level_65
    · refine wm_iload_n 1 hX dX9_level_23 rfl rfl ?_
      refine wm_if_le 40 hX dX9_level_24 (by decide) ?_ ?_
      · exact w_Md_level_40 hX hr hz a0 i1 l2
      · refine wm_aload_n 0 hX dX9_level_27 rfl rfl ?_
        refine wm_gR hX fl_RX9_36 dX9_level_28 (fun v4 => ?_)
        refine wm_iload_n 1 hX dX9_level_31 rfl rfl ?_
        refine wm_iconst (1 : Int32) hX dX9_level_32 (by decide) ?_
        refine wm_isub hX dX9_level_33 ?_
        refine wm_ldL hX dX9_level_34 (fun v5 => ?_)
        refine wm_lload_n 2 hX dX9_level_35 rfl rfl ?_
        refine wm_lif_ge 63 hX dX9_level_36 dX9_level_37 (by decide) ?_ ?_
        · refine wm_bipush (-2 : Int32) hX dX9_level_63 (by decide) ?_
          exact wm_iret hX hr dX9_level_65
        · exact w_Md_level_40 hX hr hz a0 i1 l2
theorem i_Md_level (a0 : Nat) (i1 : Int32) (l2 : Int64) : Im false yX9_level cX9_level 4 (some .int) rm_Md_level injI [.ref a0, .int i1, .long l2] (m_Md_level a0 i1 l2) := Im.of RX9 (by decide) rfl (Nat.le_of_ble_eq_true rfl) (fun X hX hr hn hz => w_Md_level hX hr hz a0 i1 l2)
set_option maxRecDepth 20000 in
theorem w_Ob_lot {X : CX Int32} (hX : Cx X RX8 cX8_lot 4 rm_Ob_lot) (hr : Rt X injI (some .int) rm_Ob_lot.cells rm_Ob_lot.slots) (hz : Zx X false) (a0 : Nat) (i1 : Int32) (l2 : Int64) : WM X 0 [(0, .ref a0), (1, .int i1), (2, .long l2)] [] 0 0 (m_Ob_lot a0 i1 l2) := by
  unfold m_Ob_lot
  refine wm_ckd ?_
  refine wm_iload_n 1 hX dX8_lot_0 rfl rfl ?_
  refine wm_if_lt 10 hX dX8_lot_1 (by decide) ?_ ?_
  · refine wm_bipush (-2 : Int32) hX dX8_lot_10 (by decide) ?_
    exact wm_iret hX hr dX8_lot_12
  · refine wm_iload_n 1 hX dX8_lot_4 rfl rfl ?_
    refine wm_ldc hX dX8_lot_5 wd_489 ?_
    refine wm_icmp_le 13 hX dX8_lot_7 (by decide) ?_ ?_
    · refine wm_aload_n 0 hX dX8_lot_13 rfl rfl ?_
      refine wm_gR hX fl_RX8_26 dX8_lot_14 (fun v1 => ?_)
      refine wm_gI hX fl_RX8_138 dX8_lot_17 (fun v2 => ?_)
      refine wm_if_le 26 hX dX8_lot_20 (by decide) ?_ ?_
      · refine wm_aload_n 0 hX dX8_lot_26 rfl rfl ?_
        refine wm_gR hX fl_RX8_19 dX8_lot_27 (fun v3 => ?_)
        refine wm_iload_n 1 hX dX8_lot_30 rfl rfl ?_
        refine wm_pI hX fp_RX8_169 dX8_lot_31 ?_
        refine wm_aload_n 0 hX dX8_lot_34 rfl rfl ?_
        refine wm_gR hX fl_RX8_19 dX8_lot_35 (fun v4 => ?_)
        refine wm_lload_n 2 hX dX8_lot_38 rfl rfl ?_
        refine wm_pL hX fp_RX8_172 dX8_lot_39 ?_
        refine wm_aload_n 0 hX dX8_lot_42 rfl rfl ?_
        refine wm_gR hX fl_RX8_65 dX8_lot_43 (fun v5 => ?_)
        refine wm_lload_n 2 hX dX8_lot_46 rfl rfl ?_
        refine wm_pL hX fp_RX8_176 dX8_lot_47 ?_
        refine wm_iconst (1 : Int32) hX dX8_lot_50 (by decide) ?_
        exact wm_iret hX hr dX8_lot_51
      · refine wm_bipush (-3 : Int32) hX dX8_lot_23 (by decide) ?_
        exact wm_iret hX hr dX8_lot_25
    · refine wm_bipush (-2 : Int32) hX dX8_lot_10 (by decide) ?_
      exact wm_iret hX hr dX8_lot_12
theorem i_Ob_lot (a0 : Nat) (i1 : Int32) (l2 : Int64) : Im false yX8_lot cX8_lot 4 (some .int) rm_Ob_lot injI [.ref a0, .int i1, .long l2] (m_Ob_lot a0 i1 l2) := Im.of RX8 (by decide) rfl (Nat.le_of_ble_eq_true rfl) (fun X hX hr hn hz => w_Ob_lot hX hr hz a0 i1 l2)
set_option maxRecDepth 20000 in
theorem w_Md_lot {X : CX Int32} (hX : Cx X RX9 cX9_lot 4 rm_Md_lot) (hr : Rt X injI (some .int) rm_Md_lot.cells rm_Md_lot.slots) (hz : Zx X false) (a0 : Nat) (i1 : Int32) (l2 : Int64) : WM X 0 [(0, .ref a0), (1, .int i1), (2, .long l2)] [] 0 0 (m_Md_lot a0 i1 l2) := by
  unfold m_Md_lot
  refine wm_ckd ?_
  refine wm_iload_n 1 hX dX9_lot_0 rfl rfl ?_
  refine wm_i2l hX dX9_lot_1 ?_
  refine wm_lconst (0 : Int64) hX dX9_lot_2 (by decide) ?_
  refine wm_ldc2 hX dX9_lot_3 wd_966 ?_
  refine wm_cSi (st := []) hX hz (i_Md_in (i1.toInt64) (0 : Int64) (1000000000 : Int64)) cal_Md_in wd_896 rfl (fits_Md_lot_Md_in) (Nat.le_of_ble_eq_true rfl) dX9_lot_6 (fun v1 => ?_)
  refine wm_if_ne 15 hX dX9_lot_9 (by decide) ?_ ?_
  · refine wm_aload_n 0 hX dX9_lot_15 rfl rfl ?_
    refine wm_gI hX fl_RX9_129 dX9_lot_16 (fun v2 => ?_)
    refine wm_if_le 25 hX dX9_lot_19 (by decide) ?_ ?_
    · refine wm_aload_n 0 hX dX9_lot_25 rfl rfl ?_
      refine wm_iload_n 1 hX dX9_lot_26 rfl rfl ?_
      refine wm_pI hX fp_RX9_173 dX9_lot_27 ?_
      refine wm_aload_n 0 hX dX9_lot_30 rfl rfl ?_
      refine wm_lload_n 2 hX dX9_lot_31 rfl rfl ?_
      refine wm_pL hX fp_RX9_176 dX9_lot_32 ?_
      refine wm_aload_n 0 hX dX9_lot_35 rfl rfl ?_
      refine wm_lload_n 2 hX dX9_lot_36 rfl rfl ?_
      refine wm_pL hX fp_RX9_180 dX9_lot_37 ?_
      refine wm_iconst (1 : Int32) hX dX9_lot_40 (by decide) ?_
      exact wm_iret hX hr dX9_lot_41
    · refine wm_bipush (-3 : Int32) hX dX9_lot_22 (by decide) ?_
      exact wm_iret hX hr dX9_lot_24
  · refine wm_bipush (-2 : Int32) hX dX9_lot_12 (by decide) ?_
    exact wm_iret hX hr dX9_lot_14
theorem i_Md_lot (a0 : Nat) (i1 : Int32) (l2 : Int64) : Im false yX9_lot cX9_lot 4 (some .int) rm_Md_lot injI [.ref a0, .int i1, .long l2] (m_Md_lot a0 i1 l2) := Im.of RX9 (by decide) rfl (Nat.le_of_ble_eq_true rfl) (fun X hX hr hn hz => w_Md_lot hX hr hz a0 i1 l2)
set_option maxRecDepth 20000 in
theorem w_Tw_becomeLike {X : CX Unit} (hX : Cx X RX6 cX6_becomeLike 2 rm_Tw_becomeLike) (hr : Rt X injV none rm_Tw_becomeLike.cells rm_Tw_becomeLike.slots) (hz : Zx X false) (a0 : Nat) (a1 : Nat) : WM X 0 [(0, .ref a0), (1, .ref a1)] [] 0 0 (m_Tw_becomeLike a0 a1) := by
  unfold m_Tw_becomeLike
  refine wm_ckd ?_
  refine wm_aload_n 1 hX dX6_becomeLike_0 rfl rfl ?_
  refine wm_gR hX fl_RX6_9 dX6_becomeLike_1 (fun v1 => ?_)
  refine wm_iconst (0 : Int32) hX dX6_becomeLike_4 (by decide) ?_
  refine wm_aload_n 0 hX dX6_becomeLike_5 rfl rfl ?_
  refine wm_gR hX fl_RX6_9 dX6_becomeLike_6 (fun v2 => ?_)
  refine wm_iconst (0 : Int32) hX dX6_becomeLike_9 (by decide) ?_
  refine wm_aload_n 0 hX dX6_becomeLike_10 rfl rfl ?_
  refine wm_gR hX fl_RX6_9 dX6_becomeLike_11 (fun v3 => ?_)
  refine wm_alen (fun _ => rfl) hX dX6_becomeLike_14 (fun v4 => ?_)
  refine wm_acp hX hz ⟨wd_502, wd_412, wd_411, wd_52⟩ ⟨Nat.le_of_ble_eq_true rfl, Nat.le_of_ble_eq_true rfl⟩ dX6_becomeLike_15 ?_
  refine wm_aload_n 0 hX dX6_becomeLike_18 rfl rfl ?_
  refine wm_aload_n 1 hX dX6_becomeLike_19 rfl rfl ?_
  refine wm_gL hX fl_RX6_23 dX6_becomeLike_20 (fun v5 => ?_)
  refine wm_pL hX fp_RX6_23 dX6_becomeLike_23 ?_
  exact wm_vret hX hr dX6_becomeLike_26
theorem i_Tw_becomeLike (a0 : Nat) (a1 : Nat) : Im false yX6_becomeLike cX6_becomeLike 2 none rm_Tw_becomeLike injV [.ref a0, .ref a1] (m_Tw_becomeLike a0 a1) := Im.of RX6 (by decide) rfl (Nat.le_of_ble_eq_true rfl) (fun X hX hr hn hz => w_Tw_becomeLike hX hr hz a0 a1)
set_option maxRecDepth 20000 in
theorem w_Tw_drawLot {X : CX Int64} (hX : Cx X RX6 cX6_drawLot 1 rm_Tw_drawLot) (hr : Rt X injL (some .long) rm_Tw_drawLot.cells rm_Tw_drawLot.slots) (hz : Zx X false) (a0 : Nat) : WM X 0 [(0, .ref a0)] [] 0 0 (m_Tw_drawLot a0) := by
  unfold m_Tw_drawLot
  refine wm_ckd ?_
  refine wm_aload_n 0 hX dX6_drawLot_0 rfl rfl ?_
  refine wm_gR hX fl_RX6_30 dX6_drawLot_1 (fun v1 => ?_)
  refine wm_gI hX fl_RX6_73 dX6_drawLot_4 (fun v2 => ?_)
  refine wm_if_gt 12 hX dX6_drawLot_7 (by decide) ?_ ?_
  · refine wm_aload_n 0 hX dX6_drawLot_12 rfl rfl ?_
    refine wm_ldc2 hX dX6_drawLot_13 wd_511 ?_
    refine wm_aload_n 0 hX dX6_drawLot_16 rfl rfl ?_
    refine wm_gL hX fl_RX6_23 dX6_drawLot_17 (fun v3 => ?_)
    refine wm_lmul hX dX6_drawLot_20 ?_
    refine wm_ldc2 hX dX6_drawLot_21 wd_512 ?_
    refine wm_ladd hX dX6_drawLot_24 ?_
    refine wm_pL hX fp_RX6_23 dX6_drawLot_25 ?_
    refine wm_aload_n 0 hX dX6_drawLot_28 rfl rfl ?_
    refine wm_gL hX fl_RX6_23 dX6_drawLot_29 (fun v4 => ?_)
    refine wm_bipush (33 : Int32) hX dX6_drawLot_32 (by decide) ?_
    refine wm_lushr hX dX6_drawLot_34 ?_
    refine wm_ldc2 hX dX6_drawLot_35 wd_513 ?_
    refine wm_aload_n 0 hX dX6_drawLot_38 rfl rfl ?_
    refine wm_gR hX fl_RX6_30 dX6_drawLot_39 (fun v5 => ?_)
    refine wm_gI hX fl_RX6_73 dX6_drawLot_42 (fun v6 => ?_)
    refine wm_i2l hX dX6_drawLot_45 ?_
    refine wm_lmul hX dX6_drawLot_46 ?_
    refine wm_lconst (1 : Int64) hX dX6_drawLot_47 (by decide) ?_
    refine wm_ladd hX dX6_drawLot_48 ?_
    refine wm_lrm hX dX6_drawLot_49 (fun v7 => ?_)
    refine wm_aload_n 0 hX dX6_drawLot_50 rfl rfl ?_
    refine wm_gR hX fl_RX6_30 dX6_drawLot_51 (fun v8 => ?_)
    refine wm_gI hX fl_RX6_73 dX6_drawLot_54 (fun v9 => ?_)
    refine wm_i2l hX dX6_drawLot_57 ?_
    refine wm_lsub hX dX6_drawLot_58 ?_
    exact wm_lret hX hr dX6_drawLot_59
  · refine wm_lconst (0 : Int64) hX dX6_drawLot_10 (by decide) ?_
    exact wm_lret hX hr dX6_drawLot_11
theorem i_Tw_drawLot (a0 : Nat) : Im false yX6_drawLot cX6_drawLot 1 (some .long) rm_Tw_drawLot injL [.ref a0] (m_Tw_drawLot a0) := Im.of RX6 (by decide) rfl (Nat.le_of_ble_eq_true rfl) (fun X hX hr hn hz => w_Tw_drawLot hX hr hz a0)
set_option maxRecDepth 20000 in
theorem wb_Sp_nearestTo_2 {X : CX Int32} (hX : Cx X RX5 cX5_nearestTo 4 rm_Sp_nearestTo) (hr : Rt X injI (some .int) rm_Sp_nearestTo.cells rm_Sp_nearestTo.slots) (hz : Zx X false) {k2 : Nat → Int64 → Int32 → M Int32} (h2 : ∀ (a0 : Nat) (l1 : Int64) (i3 : Int32), WM X 2 [(0, .ref a0), (1, .long l1), (3, .int i3)] [] 0 0 (k2 a0 l1 i3)) (a0 : Nat) (l1 : Int64) (i3 : Int32) : WM X 2 [(0, .ref a0), (1, .long l1), (3, .int i3)] [] 0 0 (b_Sp_nearestTo_2 k2 a0 l1 i3) := by
  unfold b_Sp_nearestTo_2
  refine wm_iload_n 2 hX dX5_nearestTo_2 rfl rfl ?_
  refine wm_aload_n 0 hX dX5_nearestTo_3 rfl rfl ?_
  refine wm_gI hX fl_RX5_29 dX5_nearestTo_4 (fun v1 => ?_)
  refine wm_iconst (1 : Int32) hX dX5_nearestTo_7 (by decide) ?_
  refine wm_isub hX dX5_nearestTo_8 ?_
  refine wm_icmp_ge 46 hX dX5_nearestTo_9 (by decide) ?_ ?_
  · refine wm_iload_n 2 hX dX5_nearestTo_46 rfl rfl ?_
    exact wm_iret hX hr dX5_nearestTo_47
  · refine wm_aload_n 0 hX dX5_nearestTo_12 rfl rfl ?_
    refine wm_gR hX fl_RX5_22 dX5_nearestTo_13 (fun v2 => ?_)
    refine wm_iload_n 2 hX dX5_nearestTo_16 rfl rfl ?_
    refine wm_iconst (1 : Int32) hX dX5_nearestTo_17 (by decide) ?_
    refine wm_iadd hX dX5_nearestTo_18 ?_
    refine wm_ldL hX dX5_nearestTo_19 (fun v3 => ?_)
    refine wm_lload_n 1 hX dX5_nearestTo_20 rfl rfl ?_
    refine wm_lsub hX dX5_nearestTo_21 ?_
    refine wm_mabs hX wd_518 wd_519 wd_53 mc_abs ⟨Nat.le_of_ble_eq_true rfl, Nat.le_of_ble_eq_true rfl⟩ ⟨Nat.le_of_ble_eq_true rfl, Nat.le_of_ble_eq_true rfl⟩ dX5_nearestTo_22 ?_
    refine wm_aload_n 0 hX dX5_nearestTo_25 rfl rfl ?_
    refine wm_gR hX fl_RX5_22 dX5_nearestTo_26 (fun v4 => ?_)
    refine wm_iload_n 2 hX dX5_nearestTo_29 rfl rfl ?_
    refine wm_ldL hX dX5_nearestTo_30 (fun v5 => ?_)
    refine wm_lload_n 1 hX dX5_nearestTo_31 rfl rfl ?_
    refine wm_lsub hX dX5_nearestTo_32 ?_
    refine wm_mabs hX wd_518 wd_519 wd_53 mc_abs ⟨Nat.le_of_ble_eq_true rfl, Nat.le_of_ble_eq_true rfl⟩ ⟨Nat.le_of_ble_eq_true rfl, Nat.le_of_ble_eq_true rfl⟩ dX5_nearestTo_33 ?_
    refine wm_lif_gt 46 hX dX5_nearestTo_36 dX5_nearestTo_37 (by decide) ?_ ?_
    · refine wm_iload_n 2 hX dX5_nearestTo_46 rfl rfl ?_
      exact wm_iret hX hr dX5_nearestTo_47
    · refine wm_iinc (i3 + 1) 2 [(3, .int (i3 + 1)), (0, .ref a0), (1, .long l1)] hX dX5_nearestTo_40 rfl rfl (by decide) rfl ?_
      refine wm_goto (tgt := 2) hX dX5_nearestTo_43 (by decide) ?_
      refine wm_sub [1, 2, 0] [(0, .ref a0), (1, .long l1), (3, .int (i3 + 1))] rfl ?_
      exact h2 a0 l1 (i3 + 1)
theorem wl_Sp_nearestTo_2 {X : CX Int32} (hX : Cx X RX5 cX5_nearestTo 4 rm_Sp_nearestTo) (hr : Rt X injI (some .int) rm_Sp_nearestTo.cells rm_Sp_nearestTo.slots) (hz : Zx X false) : ∀ (n : Nat) (a0 : Nat) (l1 : Int64) (i3 : Int32), WM X 2 [(0, .ref a0), (1, .long l1), (3, .int i3)] [] 0 0 (l_Sp_nearestTo_2 n a0 l1 i3)
  | 0, _, _, _ => wm_fl
  | n + 1, a0, l1, i3 => wb_Sp_nearestTo_2 hX hr hz (wl_Sp_nearestTo_2 hX hr hz n) a0 l1 i3
set_option maxRecDepth 20000 in
theorem w_Sp_nearestTo {X : CX Int32} (hX : Cx X RX5 cX5_nearestTo 4 rm_Sp_nearestTo) (hr : Rt X injI (some .int) rm_Sp_nearestTo.cells rm_Sp_nearestTo.slots) (hz : Zx X false) (a0 : Nat) (l1 : Int64) : WM X 0 [(0, .ref a0), (1, .long l1)] [] 0 0 (m_Sp_nearestTo a0 l1) := by
  unfold m_Sp_nearestTo
  refine wm_ckd ?_
  refine wm_iconst (0 : Int32) hX dX5_nearestTo_0 (by decide) ?_
  refine wm_istore_n [(3, .int (0 : Int32)), (0, .ref a0), (1, .long l1)] hX dX5_nearestTo_1 rfl (by decide) rfl ?_
  refine wm_sub [1, 2, 0] [(0, .ref a0), (1, .long l1), (3, .int (0 : Int32))] rfl ?_
  exact wl_Sp_nearestTo_2 hX hr hz FU a0 l1 (0 : Int32)
theorem i_Sp_nearestTo (a0 : Nat) (l1 : Int64) : Im false yX5_nearestTo cX5_nearestTo 4 (some .int) rm_Sp_nearestTo injI [.ref a0, .long l1] (m_Sp_nearestTo a0 l1) := Im.of RX5 (by decide) rfl (Nat.le_of_ble_eq_true rfl) (fun X hX hr hn hz => w_Sp_nearestTo hX hr hz a0 l1)
set_option maxRecDepth 20000 in
theorem w_Tw_mark {X : CX Unit} (hX : Cx X RX6 cX6_mark 2 rm_Tw_mark) (hr : Rt X injV none rm_Tw_mark.cells rm_Tw_mark.slots) (hz : Zx X false) (a0 : Nat) (i1 : Int32) : WM X 0 [(0, .ref a0), (1, .int i1)] [] 0 0 (m_Tw_mark a0 i1) := by
  unfold m_Tw_mark
  refine wm_ckd ?_
  refine wm_aload_n 0 hX dX6_mark_0 rfl rfl ?_
  refine wm_gI hX fl_RX6_19 dX6_mark_1 (fun v1 => ?_)
  refine wm_bipush (15 : Int32) hX dX6_mark_4 (by decide) ?_
  refine wm_icmp_ge 32 hX dX6_mark_6 (by decide) ?_ ?_
  · exact wm_vret hX hr dX6_mark_32
  · refine wm_aload_n 0 hX dX6_mark_9 rfl rfl ?_
    refine wm_gR hX fl_RX6_15 dX6_mark_10 (fun v2 => ?_)
    refine wm_aload_n 0 hX dX6_mark_13 rfl rfl ?_
    refine wm_gI hX fl_RX6_19 dX6_mark_14 (fun v3 => ?_)
    refine wm_bipush (10 : Int32) hX dX6_mark_17 (by decide) ?_
    refine wm_iload_n 1 hX dX6_mark_19 rfl rfl ?_
    refine wm_iadd hX dX6_mark_20 ?_
    refine wm_stI hX dX6_mark_21 ?_
    refine wm_aload_n 0 hX dX6_mark_22 rfl rfl ?_
    refine wm_dup hX dX6_mark_23 rfl ?_
    refine wm_gI hX fl_RX6_19 dX6_mark_24 (fun v4 => ?_)
    refine wm_iconst (1 : Int32) hX dX6_mark_27 (by decide) ?_
    refine wm_iadd hX dX6_mark_28 ?_
    refine wm_pI hX fp_RX6_19 dX6_mark_29 ?_
    exact wm_vret hX hr dX6_mark_32
theorem i_Tw_mark (a0 : Nat) (i1 : Int32) : Im false yX6_mark cX6_mark 2 none rm_Tw_mark injV [.ref a0, .int i1] (m_Tw_mark a0 i1) := Im.of RX6 (by decide) rfl (Nat.le_of_ble_eq_true rfl) (fun X hX hr hn hz => w_Tw_mark hX hr hz a0 i1)
set_option maxRecDepth 20000 in
theorem w_Tw_turnedBy {X : CX Int64} (hX : Cx X RX6 cX6_turnedBy 3 rm_Tw_turnedBy) (hr : Rt X injL (some .long) rm_Tw_turnedBy.cells rm_Tw_turnedBy.slots) (hz : Zx X false) (a0 : Nat) (i1 : Int32) (i2 : Int32) : WM X 0 [(0, .ref a0), (1, .int i1), (2, .int i2)] [] 0 0 (m_Tw_turnedBy a0 i1 i2) := by
  unfold m_Tw_turnedBy
  refine wm_ckd ?_
  refine wm_aload_n 0 hX dX6_turnedBy_0 rfl rfl ?_
  refine wm_gR hX fl_RX6_9 dX6_turnedBy_1 (fun v1 => ?_)
  refine wm_iload_n 1 hX dX6_turnedBy_4 rfl rfl ?_
  refine wm_bipush (6 : Int32) hX dX6_turnedBy_5 (by decide) ?_
  refine wm_imul hX dX6_turnedBy_7 ?_
  refine wm_iload_n 2 hX dX6_turnedBy_8 rfl rfl ?_
  refine wm_iadd hX dX6_turnedBy_9 ?_
  refine wm_ldL hX dX6_turnedBy_10 (fun v2 => ?_)
  refine wm_aload_n 0 hX dX6_turnedBy_11 rfl rfl ?_
  refine wm_gR hX fl_RX6_30 dX6_turnedBy_12 (fun v3 => ?_)
  refine wm_gR hX fl_RX6_93 dX6_turnedBy_15 (fun v4 => ?_)
  refine wm_iload_n 1 hX dX6_turnedBy_18 rfl rfl ?_
  refine wm_ldI hX dX6_turnedBy_19 (fun v5 => ?_)
  refine wm_i2l hX dX6_turnedBy_20 ?_
  refine wm_lmul hX dX6_turnedBy_21 ?_
  refine wm_ldc2 hX dX6_turnedBy_22 wd_533 ?_
  refine wm_ldv hX dX6_turnedBy_25 (fun v6 => ?_)
  exact wm_lret hX hr dX6_turnedBy_26
theorem i_Tw_turnedBy (a0 : Nat) (i1 : Int32) (i2 : Int32) : Im false yX6_turnedBy cX6_turnedBy 3 (some .long) rm_Tw_turnedBy injL [.ref a0, .int i1, .int i2] (m_Tw_turnedBy a0 i1 i2) := Im.of RX6 (by decide) rfl (Nat.le_of_ble_eq_true rfl) (fun X hX hr hn hz => w_Tw_turnedBy hX hr hz a0 i1 i2)
set_option maxRecDepth 20000 in
theorem w_Tw_leak {X : CX Unit} (hX : Cx X RX6 cX6_leak 5 rm_Tw_leak) (hr : Rt X injV none rm_Tw_leak.cells rm_Tw_leak.slots) (hz : Zx X false) (a0 : Nat) (i1 : Int32) : WM X 0 [(0, .ref a0), (1, .int i1)] [] 0 0 (m_Tw_leak a0 i1) := by
  unfold m_Tw_leak
  refine wm_ckd ?_
  refine wm_iload_n 1 hX dX6_leak_0 rfl rfl ?_
  refine wm_bipush (6 : Int32) hX dX6_leak_1 (by decide) ?_
  refine wm_imul hX dX6_leak_3 ?_
  refine wm_leti (fun v1 => ?_)
  refine wm_istore_n [(2, .int v1), (0, .ref a0), (1, .int i1)] hX dX6_leak_4 rfl (by decide) rfl ?_
  refine wm_aload_n 1 hX dX6_leak_5 rfl rfl ?_
  refine wm_gR hX fl_RX6_9 dX6_leak_6 (fun v2 => ?_)
  refine wm_iload_n 0 hX dX6_leak_9 rfl rfl ?_
  refine wm_iconst (0 : Int32) hX dX6_leak_10 (by decide) ?_
  refine wm_iadd hX dX6_leak_11 ?_
  refine wm_ldL hX dX6_leak_12 (fun v3 => ?_)
  refine wm_aload_n 1 hX dX6_leak_13 rfl rfl ?_
  refine wm_gR hX fl_RX6_30 dX6_leak_14 (fun v4 => ?_)
  refine wm_gR hX fl_RX6_106 dX6_leak_17 (fun v5 => ?_)
  refine wm_iload_n 2 hX dX6_leak_20 rfl rfl ?_
  refine wm_ldL hX dX6_leak_21 (fun v6 => ?_)
  refine wm_lmul hX dX6_leak_22 ?_
  refine wm_ldc2 hX dX6_leak_23 wd_533 ?_
  refine wm_ldv hX dX6_leak_26 (fun v7 => ?_)
  refine wm_lstore_n [(3, .long v7), (2, .int v1), (0, .ref a0), (1, .int i1)] hX dX6_leak_27 rfl (by decide) rfl ?_
  refine wm_aload_n 2 hX dX6_leak_28 rfl rfl ?_
  refine wm_gR hX fl_RX6_9 dX6_leak_29 (fun v8 => ?_)
  refine wm_iload_n 1 hX dX6_leak_32 rfl rfl ?_
  refine wm_iconst (4 : Int32) hX dX6_leak_33 (by decide) ?_
  refine wm_iadd hX dX6_leak_34 ?_
  refine wm_dup2 hX dX6_leak_35 rfl rfl ?_
  refine wm_ldL hX dX6_leak_36 (fun v9 => ?_)
  refine wm_lload_n 0 hX dX6_leak_37 rfl rfl ?_
  refine wm_ladd hX dX6_leak_38 ?_
  refine wm_stL hX dX6_leak_39 ?_
  refine wm_aload_n 2 hX dX6_leak_40 rfl rfl ?_
  refine wm_gR hX fl_RX6_9 dX6_leak_41 (fun v10 => ?_)
  refine wm_iload_n 1 hX dX6_leak_44 rfl rfl ?_
  refine wm_iconst (0 : Int32) hX dX6_leak_45 (by decide) ?_
  refine wm_iadd hX dX6_leak_46 ?_
  refine wm_dup2 hX dX6_leak_47 rfl rfl ?_
  refine wm_ldL hX dX6_leak_48 (fun v11 => ?_)
  refine wm_lload_n 0 hX dX6_leak_49 rfl rfl ?_
  refine wm_lsub hX dX6_leak_50 ?_
  refine wm_stL hX dX6_leak_51 ?_
  exact wm_vret hX hr dX6_leak_52
theorem i_Tw_leak (a0 : Nat) (i1 : Int32) : Im false yX6_leak cX6_leak 5 none rm_Tw_leak injV [.ref a0, .int i1] (m_Tw_leak a0 i1) := Im.of RX6 (by decide) rfl (Nat.le_of_ble_eq_true rfl) (fun X hX hr hn hz => w_Tw_leak hX hr hz a0 i1)
set_option maxRecDepth 20000 in
theorem w_Tw_addUp {X : CX Unit} (hX : Cx X RX6 cX6_addUp 7 rm_Tw_addUp) (hr : Rt X injV none rm_Tw_addUp.cells rm_Tw_addUp.slots) (hz : Zx X false) (a0 : Nat) (i1 : Int32) (l2 : Int64) (l4 : Int64) : WM X 0 [(0, .ref a0), (1, .int i1), (2, .long l2), (4, .long l4)] [] 0 0 (m_Tw_addUp a0 i1 l2 l4) := by
  unfold m_Tw_addUp
  refine wm_ckd ?_
  refine wm_iload_n 1 hX dX6_addUp_0 rfl rfl ?_
  refine wm_bipush (6 : Int32) hX dX6_addUp_1 (by decide) ?_
  refine wm_imul hX dX6_addUp_3 ?_
  refine wm_leti (fun v1 => ?_)
  refine wm_istore [(6, .int v1), (0, .ref a0), (1, .int i1), (2, .long l2), (4, .long l4)] hX dX6_addUp_4 (by decide) rfl ?_
  refine wm_aload_n 1 hX dX6_addUp_6 rfl rfl ?_
  refine wm_gR hX fl_RX6_9 dX6_addUp_7 (fun v2 => ?_)
  refine wm_iload 0 hX dX6_addUp_10 rfl ?_
  refine wm_iconst (2 : Int32) hX dX6_addUp_12 (by decide) ?_
  refine wm_iadd hX dX6_addUp_13 ?_
  refine wm_dup2 hX dX6_addUp_14 rfl rfl ?_
  refine wm_ldL hX dX6_addUp_15 (fun v3 => ?_)
  refine wm_lload_n 3 hX dX6_addUp_16 rfl rfl ?_
  refine wm_ladd hX dX6_addUp_17 ?_
  refine wm_stL hX dX6_addUp_18 ?_
  refine wm_aload_n 1 hX dX6_addUp_19 rfl rfl ?_
  refine wm_gR hX fl_RX6_9 dX6_addUp_20 (fun v4 => ?_)
  refine wm_iload 0 hX dX6_addUp_23 rfl ?_
  refine wm_iconst (3 : Int32) hX dX6_addUp_25 (by decide) ?_
  refine wm_iadd hX dX6_addUp_26 ?_
  refine wm_dup2 hX dX6_addUp_27 rfl rfl ?_
  refine wm_ldL hX dX6_addUp_28 (fun v5 => ?_)
  refine wm_lload 4 hX dX6_addUp_29 rfl ?_
  refine wm_ladd hX dX6_addUp_31 ?_
  refine wm_stL hX dX6_addUp_32 ?_
  refine wm_aload_n 1 hX dX6_addUp_33 rfl rfl ?_
  refine wm_gR hX fl_RX6_9 dX6_addUp_34 (fun v6 => ?_)
  refine wm_iload 0 hX dX6_addUp_37 rfl ?_
  refine wm_iconst (0 : Int32) hX dX6_addUp_39 (by decide) ?_
  refine wm_iadd hX dX6_addUp_40 ?_
  refine wm_dup2 hX dX6_addUp_41 rfl rfl ?_
  refine wm_ldL hX dX6_addUp_42 (fun v7 => ?_)
  refine wm_lload_n 3 hX dX6_addUp_43 rfl rfl ?_
  refine wm_lload 4 hX dX6_addUp_44 rfl ?_
  refine wm_lsub hX dX6_addUp_46 ?_
  refine wm_ladd hX dX6_addUp_47 ?_
  refine wm_stL hX dX6_addUp_48 ?_
  exact wm_vret hX hr dX6_addUp_49
theorem i_Tw_addUp (a0 : Nat) (i1 : Int32) (l2 : Int64) (l4 : Int64) : Im false yX6_addUp cX6_addUp 7 none rm_Tw_addUp injV [.ref a0, .int i1, .long l2, .long l4] (m_Tw_addUp a0 i1 l2 l4) := Im.of RX6 (by decide) rfl (Nat.le_of_ble_eq_true rfl) (fun X hX hr hn hz => w_Tw_addUp hX hr hz a0 i1 l2 l4)
set_option maxRecDepth 20000 in
theorem w_Tw_cutToBound {X : CX Unit} (hX : Cx X RX6 cX6_cutToBound 9 rm_Tw_cutToBound) (hr : Rt X injV none rm_Tw_cutToBound.cells rm_Tw_cutToBound.slots) (hz : Zx X false) (a0 : Nat) (i1 : Int32) : WM X 0 [(0, .ref a0), (1, .int i1)] [] 0 0 (m_Tw_cutToBound a0 i1) := by
  unfold m_Tw_cutToBound
  refine wm_ckd ?_
  refine wm_iload_n 1 hX dX6_cutToBound_0 rfl rfl ?_
  refine wm_bipush (6 : Int32) hX dX6_cutToBound_1 (by decide) ?_
  refine wm_imul hX dX6_cutToBound_3 ?_
  refine wm_leti (fun v1 => ?_)
  refine wm_istore_n [(2, .int v1), (0, .ref a0), (1, .int i1)] hX dX6_cutToBound_4 rfl (by decide) rfl ?_
  refine wm_aload_n 1 hX dX6_cutToBound_5 rfl rfl ?_
  refine wm_gR hX fl_RX6_30 dX6_cutToBound_6 (fun v2 => ?_)
  refine wm_gR hX fl_RX6_106 dX6_cutToBound_9 (fun v3 => ?_)
  refine wm_iload_n 2 hX dX6_cutToBound_12 rfl rfl ?_
  refine wm_ldL hX dX6_cutToBound_13 (fun v4 => ?_)
  refine wm_lstore_n [(3, .long v4), (2, .int v1), (0, .ref a0), (1, .int i1)] hX dX6_cutToBound_14 rfl (by decide) rfl ?_
  refine wm_aload_n 2 hX dX6_cutToBound_15 rfl rfl ?_
  refine wm_gR hX fl_RX6_9 dX6_cutToBound_16 (fun v5 => ?_)
  refine wm_iload_n 1 hX dX6_cutToBound_19 rfl rfl ?_
  refine wm_iconst (0 : Int32) hX dX6_cutToBound_20 (by decide) ?_
  refine wm_iadd hX dX6_cutToBound_21 ?_
  refine wm_ldL hX dX6_cutToBound_22 (fun v6 => ?_)
  refine wm_lstore [(5, .long v6), (3, .long v4), (2, .int v1), (0, .ref a0), (1, .int i1)] hX dX6_cutToBound_23 (by decide) rfl ?_
  refine wm_lload_n 1 hX dX6_cutToBound_25 rfl rfl ?_
  refine wm_lneg hX dX6_cutToBound_26 ?_
  refine wm_lload_n 1 hX dX6_cutToBound_27 rfl rfl ?_
  refine wm_lload 0 hX dX6_cutToBound_28 rfl ?_
  refine wm_mmin hX wd_546 wd_436 wd_53 mc_min ⟨Nat.le_of_ble_eq_true rfl, Nat.le_of_ble_eq_true rfl⟩ ⟨Nat.le_of_ble_eq_true rfl, Nat.le_of_ble_eq_true rfl⟩ dX6_cutToBound_30 ?_
  refine wm_mmax hX wd_547 wd_439 wd_53 mc_max ⟨Nat.le_of_ble_eq_true rfl, Nat.le_of_ble_eq_true rfl⟩ ⟨Nat.le_of_ble_eq_true rfl, Nat.le_of_ble_eq_true rfl⟩ dX6_cutToBound_33 ?_
  refine wm_letl (fun v7 => ?_)
  refine wm_lstore [(7, .long v7), (5, .long v6), (3, .long v4), (2, .int v1), (0, .ref a0), (1, .int i1)] hX dX6_cutToBound_36 (by decide) rfl ?_
  refine wm_aload_n 4 hX dX6_cutToBound_38 rfl rfl ?_
  refine wm_gR hX fl_RX6_9 dX6_cutToBound_39 (fun v8 => ?_)
  refine wm_iload_n 3 hX dX6_cutToBound_42 rfl rfl ?_
  refine wm_iconst (0 : Int32) hX dX6_cutToBound_43 (by decide) ?_
  refine wm_iadd hX dX6_cutToBound_44 ?_
  refine wm_lload 0 hX dX6_cutToBound_45 rfl ?_
  refine wm_stL hX dX6_cutToBound_47 ?_
  refine wm_aload_n 4 hX dX6_cutToBound_48 rfl rfl ?_
  refine wm_gR hX fl_RX6_9 dX6_cutToBound_49 (fun v9 => ?_)
  refine wm_iload_n 3 hX dX6_cutToBound_52 rfl rfl ?_
  refine wm_iconst (5 : Int32) hX dX6_cutToBound_53 (by decide) ?_
  refine wm_iadd hX dX6_cutToBound_54 ?_
  refine wm_dup2 hX dX6_cutToBound_55 rfl rfl ?_
  refine wm_ldL hX dX6_cutToBound_56 (fun v10 => ?_)
  refine wm_lload 1 hX dX6_cutToBound_57 rfl ?_
  refine wm_lload 0 hX dX6_cutToBound_59 rfl ?_
  refine wm_lsub hX dX6_cutToBound_61 ?_
  refine wm_ladd hX dX6_cutToBound_62 ?_
  refine wm_stL hX dX6_cutToBound_63 ?_
  exact wm_vret hX hr dX6_cutToBound_64
theorem i_Tw_cutToBound (a0 : Nat) (i1 : Int32) : Im false yX6_cutToBound cX6_cutToBound 9 none rm_Tw_cutToBound injV [.ref a0, .int i1] (m_Tw_cutToBound a0 i1) := Im.of RX6 (by decide) rfl (Nat.le_of_ble_eq_true rfl) (fun X hX hr hn hz => w_Tw_cutToBound hX hr hz a0 i1)
set_option maxRecDepth 20000 in
theorem w_Tw_takeStage_150 {X : CX Unit} (hX : Cx X RX6 cX6_takeStage 13 rm_Tw_takeStage) (hr : Rt X injV none rm_Tw_takeStage.cells rm_Tw_takeStage.slots) (hz : Zx X false) (a0 : Nat) (i1 : Int32) (i8 : Int32) : WM X 150 [(0, .ref a0), (1, .int i1), (8, .int i8)] [] 0 0 (m_Tw_takeStage_150 a0 i1 i8) := by
  unfold m_Tw_takeStage_150
  refine wm_iload 2 hX dX6_takeStage_150 rfl ?_
  refine wm_iconst (3 : Int32) hX dX6_takeStage_152 (by decide) ?_
  refine wm_icmp_ne 176 hX dX6_takeStage_153 (by decide) ?_ ?_
  · exact wm_vret hX hr dX6_takeStage_176
  · refine wm_aload_n 0 hX dX6_takeStage_156 rfl rfl ?_
    refine wm_gR hX fl_RX6_9 dX6_takeStage_157 (fun v1 => ?_)
    refine wm_iload_n 1 hX dX6_takeStage_160 rfl rfl ?_
    refine wm_bipush (6 : Int32) hX dX6_takeStage_161 (by decide) ?_
    refine wm_imul hX dX6_takeStage_163 ?_
    refine wm_iconst (1 : Int32) hX dX6_takeStage_164 (by decide) ?_
    refine wm_iadd hX dX6_takeStage_165 ?_
    refine wm_dup2 hX dX6_takeStage_166 rfl rfl ?_
    refine wm_ldL hX dX6_takeStage_167 (fun v2 => ?_)
    refine wm_aload_n 0 hX dX6_takeStage_168 rfl rfl ?_
    refine wm_iload_n 1 hX dX6_takeStage_169 rfl rfl ?_
    refine wm_iconst (0 : Int32) hX dX6_takeStage_170 (by decide) ?_
    refine wm_cVl (st := [.long v2, .int ((i1 * (6 : Int32)) + (1 : Int32)), .ref v1]) hX hz (i_Tw_turnedBy a0 i1 (0 : Int32)) Ckd.of rfl cal_Tw_turnedBy wd_529 rfl (fits_Tw_takeStage_Tw_turnedBy) (Nat.le_of_ble_eq_true rfl) dX6_takeStage_171 (fun v3 => ?_)
    refine wm_ladd hX dX6_takeStage_174 ?_
    refine wm_stL hX dX6_takeStage_175 ?_
    exact wm_vret hX hr dX6_takeStage_176
set_option maxRecDepth 20000 in
theorem w_Tw_takeStage_126 {X : CX Unit} (hX : Cx X RX6 cX6_takeStage 13 rm_Tw_takeStage) (hr : Rt X injV none rm_Tw_takeStage.cells rm_Tw_takeStage.slots) (hz : Zx X false) (a0 : Nat) (i1 : Int32) (l4 : Int64) (i8 : Int32) (i10 : Int32) (l11 : Int64) : WM X 126 [(0, .ref a0), (1, .int i1), (4, .long l4), (8, .int i8), (10, .int i10), (11, .long l11)] [] 0 0 (m_Tw_takeStage_126 a0 i1 l4 i8 i10 l11) := by
  unfold m_Tw_takeStage_126
  refine wm_aload_n 0 hX dX6_takeStage_126 rfl rfl ?_
  refine wm_iconst (0 : Int32) hX dX6_takeStage_127 (by decide) ?_
  refine wm_cVv (st := []) hX hz (i_Tw_mark a0 (0 : Int32)) Ckd.of rfl cal_Tw_mark wd_525 rfl (fits_Tw_takeStage_Tw_mark) (Nat.le_of_ble_eq_true rfl) dX6_takeStage_128 ?_
  refine wm_aload_n 0 hX dX6_takeStage_131 rfl rfl ?_
  refine wm_iload_n 1 hX dX6_takeStage_132 rfl rfl ?_
  refine wm_lload 5 hX dX6_takeStage_133 rfl ?_
  refine wm_lload 2 hX dX6_takeStage_135 rfl ?_
  refine wm_cVv (st := []) hX hz (i_Tw_addUp a0 i1 l11 l4) Ckd.of rfl cal_Tw_addUp wd_538 rfl (fits_Tw_takeStage_Tw_addUp) (Nat.le_of_ble_eq_true rfl) dX6_takeStage_137 ?_
  refine wm_iload 4 hX dX6_takeStage_140 rfl ?_
  refine wm_if_eq 150 hX dX6_takeStage_142 (by decide) ?_ ?_
  · refine wm_sub [0, 1, 3] [(0, .ref a0), (1, .int i1), (8, .int i8)] rfl ?_
    exact w_Tw_takeStage_150 hX hr hz a0 i1 i8
  · refine wm_aload_n 0 hX dX6_takeStage_145 rfl rfl ?_
    refine wm_iload_n 1 hX dX6_takeStage_146 rfl rfl ?_
    refine wm_cVv (st := []) hX hz (i_Tw_cutToBound a0 i1) Ckd.of rfl cal_Tw_cutToBound wd_542 rfl (fits_Tw_takeStage_Tw_cutToBound) (Nat.le_of_ble_eq_true rfl) dX6_takeStage_147 ?_
    refine wm_sub [0, 1, 3] [(0, .ref a0), (1, .int i1), (8, .int i8)] rfl ?_
    exact w_Tw_takeStage_150 hX hr hz a0 i1 i8
set_option maxRecDepth 20000 in
theorem w_Tw_takeStage_101 {X : CX Unit} (hX : Cx X RX6 cX6_takeStage 13 rm_Tw_takeStage) (hr : Rt X injV none rm_Tw_takeStage.cells rm_Tw_takeStage.slots) (hz : Zx X false) (a0 : Nat) (i1 : Int32) (l4 : Int64) (i8 : Int32) (i9 : Int32) (i10 : Int32) (l11 : Int64) : WM X 101 [(0, .ref a0), (1, .int i1), (4, .long l4), (8, .int i8), (9, .int i9), (10, .int i10), (11, .long l11)] [] 0 0 (m_Tw_takeStage_101 a0 i1 l4 i8 i9 i10 l11) := by
  unfold m_Tw_takeStage_101
  refine wm_iload 4 hX dX6_takeStage_101 rfl ?_
  refine wm_if_eq 116 hX dX6_takeStage_103 (by decide) ?_ ?_
  · refine wm_iload 5 hX dX6_takeStage_116 rfl ?_
    refine wm_if_eq 126 hX dX6_takeStage_118 (by decide) ?_ ?_
    · refine wm_sub [0, 1, 2, 3, 5, 6] [(0, .ref a0), (1, .int i1), (4, .long l4), (8, .int i8), (10, .int i10), (11, .long l11)] rfl ?_
      exact w_Tw_takeStage_126 hX hr hz a0 i1 l4 i8 i10 l11
    · refine wm_aload_n 0 hX dX6_takeStage_121 rfl rfl ?_
      refine wm_iconst (2 : Int32) hX dX6_takeStage_122 (by decide) ?_
      refine wm_cVv (st := []) hX hz (i_Tw_mark a0 (2 : Int32)) Ckd.of rfl cal_Tw_mark wd_525 rfl (fits_Tw_takeStage_Tw_mark) (Nat.le_of_ble_eq_true rfl) dX6_takeStage_123 ?_
      refine wm_sub [0, 1, 2, 3, 5, 6] [(0, .ref a0), (1, .int i1), (4, .long l4), (8, .int i8), (10, .int i10), (11, .long l11)] rfl ?_
      exact w_Tw_takeStage_126 hX hr hz a0 i1 l4 i8 i10 l11
  · refine wm_aload_n 0 hX dX6_takeStage_106 rfl rfl ?_
    refine wm_iconst (1 : Int32) hX dX6_takeStage_107 (by decide) ?_
    refine wm_cVv (st := []) hX hz (i_Tw_mark a0 (1 : Int32)) Ckd.of rfl cal_Tw_mark wd_525 rfl (fits_Tw_takeStage_Tw_mark) (Nat.le_of_ble_eq_true rfl) dX6_takeStage_108 ?_
    refine wm_aload_n 0 hX dX6_takeStage_111 rfl rfl ?_
    refine wm_iload_n 1 hX dX6_takeStage_112 rfl rfl ?_
    refine wm_cVv (st := []) hX hz (i_Tw_leak a0 i1) Ckd.of rfl cal_Tw_leak wd_534 rfl (fits_Tw_takeStage_Tw_leak) (Nat.le_of_ble_eq_true rfl) dX6_takeStage_113 ?_
    refine wm_iload 5 hX dX6_takeStage_116 rfl ?_
    refine wm_if_eq 126 hX dX6_takeStage_118 (by decide) ?_ ?_
    · refine wm_sub [0, 1, 2, 3, 5, 6] [(0, .ref a0), (1, .int i1), (4, .long l4), (8, .int i8), (10, .int i10), (11, .long l11)] rfl ?_
      exact w_Tw_takeStage_126 hX hr hz a0 i1 l4 i8 i10 l11
    · refine wm_aload_n 0 hX dX6_takeStage_121 rfl rfl ?_
      refine wm_iconst (2 : Int32) hX dX6_takeStage_122 (by decide) ?_
      refine wm_cVv (st := []) hX hz (i_Tw_mark a0 (2 : Int32)) Ckd.of rfl cal_Tw_mark wd_525 rfl (fits_Tw_takeStage_Tw_mark) (Nat.le_of_ble_eq_true rfl) dX6_takeStage_123 ?_
      refine wm_sub [0, 1, 2, 3, 5, 6] [(0, .ref a0), (1, .int i1), (4, .long l4), (8, .int i8), (10, .int i10), (11, .long l11)] rfl ?_
      exact w_Tw_takeStage_126 hX hr hz a0 i1 l4 i8 i10 l11
set_option maxRecDepth 20000 in
theorem w_Tw_takeStage_73 {X : CX Unit} (hX : Cx X RX6 cX6_takeStage 13 rm_Tw_takeStage) (hr : Rt X injV none rm_Tw_takeStage.cells rm_Tw_takeStage.slots) (hz : Zx X false) (a0 : Nat) (i1 : Int32) (l2 : Int64) (l4 : Int64) (l6 : Int64) (i8 : Int32) (i9 : Int32) (i10 : Int32) (l11 : Int64) : WM X 73 [(0, .ref a0), (1, .int i1), (2, .long l2), (4, .long l4), (6, .long l6), (8, .int i8), (9, .int i9), (10, .int i10), (11, .long l11)] [] 0 0 (m_Tw_takeStage_73 a0 i1 l2 l4 l6 i8 i9 i10 l11) := by
  unfold m_Tw_takeStage_73
  refine wm_iload 5 hX dX6_takeStage_73 rfl ?_
  refine wm_iconst (4 : Int32) hX dX6_takeStage_75 (by decide) ?_
  refine wm_icmp_ne 101 hX dX6_takeStage_76 (by decide) ?_ ?_
  · refine wm_sub [0, 1, 3, 5, 6, 7, 8] [(0, .ref a0), (1, .int i1), (4, .long l4), (8, .int i8), (9, .int i9), (10, .int i10), (11, .long l11)] rfl ?_
    exact w_Tw_takeStage_101 hX hr hz a0 i1 l4 i8 i9 i10 l11
  · refine wm_aload_n 0 hX dX6_takeStage_79 rfl rfl ?_
    refine wm_iconst (4 : Int32) hX dX6_takeStage_80 (by decide) ?_
    refine wm_cVv (st := []) hX hz (i_Tw_mark a0 (4 : Int32)) Ckd.of rfl cal_Tw_mark wd_525 rfl (fits_Tw_takeStage_Tw_mark) (Nat.le_of_ble_eq_true rfl) dX6_takeStage_81 ?_
    refine wm_lload_n 2 hX dX6_takeStage_84 rfl rfl ?_
    refine wm_aload_n 0 hX dX6_takeStage_85 rfl rfl ?_
    refine wm_gR hX fl_RX6_30 dX6_takeStage_86 (fun v1 => ?_)
    refine wm_gR hX fl_RX6_93 dX6_takeStage_89 (fun v2 => ?_)
    refine wm_iload_n 1 hX dX6_takeStage_92 rfl rfl ?_
    refine wm_ldI hX dX6_takeStage_93 (fun v3 => ?_)
    refine wm_i2l hX dX6_takeStage_94 ?_
    refine wm_lload 4 hX dX6_takeStage_95 rfl ?_
    refine wm_lmul hX dX6_takeStage_97 ?_
    refine wm_ladd hX dX6_takeStage_98 ?_
    refine wm_letl (fun v4 => ?_)
    refine wm_lstore [(11, .long v4), (0, .ref a0), (1, .int i1), (2, .long l2), (4, .long l4), (6, .long l6), (8, .int i8), (9, .int i9), (10, .int i10)] hX dX6_takeStage_99 (by decide) rfl ?_
    refine wm_sub [1, 2, 4, 6, 7, 8, 0] [(0, .ref a0), (1, .int i1), (4, .long l4), (8, .int i8), (9, .int i9), (10, .int i10), (11, .long v4)] rfl ?_
    exact w_Tw_takeStage_101 hX hr hz a0 i1 l4 i8 i9 i10 v4
set_option maxRecDepth 20000 in
theorem w_Tw_takeStage_47 {X : CX Unit} (hX : Cx X RX6 cX6_takeStage 13 rm_Tw_takeStage) (hr : Rt X injV none rm_Tw_takeStage.cells rm_Tw_takeStage.slots) (hz : Zx X false) (a0 : Nat) (i1 : Int32) (l2 : Int64) (l4 : Int64) (l6 : Int64) (i8 : Int32) (i9 : Int32) (s0 : Int32) : WM X 47 [(0, .ref a0), (1, .int i1), (2, .long l2), (4, .long l4), (6, .long l6), (8, .int i8), (9, .int i9)] [.int s0] 0 0 (m_Tw_takeStage_47 a0 i1 l2 l4 l6 i8 i9 s0) := by
  unfold m_Tw_takeStage_47
  refine wm_istore [(10, .int s0), (0, .ref a0), (1, .int i1), (2, .long l2), (4, .long l4), (6, .long l6), (8, .int i8), (9, .int i9)] hX dX6_takeStage_47 (by decide) rfl ?_
  refine wm_lload_n 3 hX dX6_takeStage_49 rfl rfl ?_
  refine wm_lstore [(11, .long l2), (10, .int s0), (0, .ref a0), (1, .int i1), (2, .long l2), (4, .long l4), (6, .long l6), (8, .int i8), (9, .int i9)] hX dX6_takeStage_50 (by decide) rfl ?_
  refine wm_iload 7 hX dX6_takeStage_52 rfl ?_
  refine wm_iconst (3 : Int32) hX dX6_takeStage_54 (by decide) ?_
  refine wm_icmp_ne 73 hX dX6_takeStage_55 (by decide) ?_ ?_
  · refine wm_sub [2, 3, 4, 5, 6, 7, 8, 1, 0] [(0, .ref a0), (1, .int i1), (2, .long l2), (4, .long l4), (6, .long l6), (8, .int i8), (9, .int i9), (10, .int s0), (11, .long l2)] rfl ?_
    exact w_Tw_takeStage_73 hX hr hz a0 i1 l2 l4 l6 i8 i9 s0 l2
  · refine wm_aload_n 2 hX dX6_takeStage_58 rfl rfl ?_
    refine wm_iconst (3 : Int32) hX dX6_takeStage_59 (by decide) ?_
    refine wm_cVv (st := []) hX hz (i_Tw_mark a0 (3 : Int32)) Ckd.of rfl cal_Tw_mark wd_525 rfl (fits_Tw_takeStage_Tw_mark) (Nat.le_of_ble_eq_true rfl) dX6_takeStage_60 ?_
    refine wm_lload_n 4 hX dX6_takeStage_63 rfl rfl ?_
    refine wm_aload_n 2 hX dX6_takeStage_64 rfl rfl ?_
    refine wm_iload_n 3 hX dX6_takeStage_65 rfl rfl ?_
    refine wm_iconst (1 : Int32) hX dX6_takeStage_66 (by decide) ?_
    refine wm_cVl (st := [.long l2]) hX hz (i_Tw_turnedBy a0 i1 (1 : Int32)) Ckd.of rfl cal_Tw_turnedBy wd_529 rfl (fits_Tw_takeStage_Tw_turnedBy) (Nat.le_of_ble_eq_true rfl) dX6_takeStage_67 (fun v1 => ?_)
    refine wm_lsub hX dX6_takeStage_70 ?_
    refine wm_letl (fun v2 => ?_)
    refine wm_lstore [(11, .long v2), (10, .int s0), (0, .ref a0), (1, .int i1), (2, .long l2), (4, .long l4), (6, .long l6), (8, .int i8), (9, .int i9)] hX dX6_takeStage_71 (by decide) rfl ?_
    refine wm_sub [2, 3, 4, 5, 6, 7, 8, 1, 0] [(0, .ref a0), (1, .int i1), (2, .long l2), (4, .long l4), (6, .long l6), (8, .int i8), (9, .int i9), (10, .int s0), (11, .long v2)] rfl ?_
    exact w_Tw_takeStage_73 hX hr hz a0 i1 l2 l4 l6 i8 i9 s0 v2
set_option maxRecDepth 20000 in
theorem w_Tw_takeStage_28 {X : CX Unit} (hX : Cx X RX6 cX6_takeStage 13 rm_Tw_takeStage) (hr : Rt X injV none rm_Tw_takeStage.cells rm_Tw_takeStage.slots) (hz : Zx X false) (a0 : Nat) (i1 : Int32) (l2 : Int64) (l4 : Int64) (l6 : Int64) (i8 : Int32) (s0 : Int32) : WM X 28 [(0, .ref a0), (1, .int i1), (2, .long l2), (4, .long l4), (6, .long l6), (8, .int i8)] [.int s0] 0 0 (m_Tw_takeStage_28 a0 i1 l2 l4 l6 i8 s0) := by
  unfold m_Tw_takeStage_28
  refine wm_istore [(9, .int s0), (0, .ref a0), (1, .int i1), (2, .long l2), (4, .long l4), (6, .long l6), (8, .int i8)] hX dX6_takeStage_28 (by decide) rfl ?_
  refine wm_iload 6 hX dX6_takeStage_30 rfl ?_
  refine wm_iconst (2 : Int32) hX dX6_takeStage_32 (by decide) ?_
  refine wm_icmp_eq 42 hX dX6_takeStage_33 (by decide) ?_ ?_
  · refine wm_iconst (1 : Int32) hX dX6_takeStage_42 (by decide) ?_
    refine wm_goto (tgt := 47) hX dX6_takeStage_43 (by decide) ?_
    refine wm_sub [1, 2, 3, 4, 5, 6, 0] [(0, .ref a0), (1, .int i1), (2, .long l2), (4, .long l4), (6, .long l6), (8, .int i8), (9, .int s0)] rfl ?_
    exact w_Tw_takeStage_47 hX hr hz a0 i1 l2 l4 l6 i8 s0 (1 : Int32)
  · refine wm_iload 6 hX dX6_takeStage_36 rfl ?_
    refine wm_iconst (3 : Int32) hX dX6_takeStage_38 (by decide) ?_
    refine wm_icmp_ne 46 hX dX6_takeStage_39 (by decide) ?_ ?_
    · refine wm_iconst (0 : Int32) hX dX6_takeStage_46 (by decide) ?_
      refine wm_sub [1, 2, 3, 4, 5, 6, 0] [(0, .ref a0), (1, .int i1), (2, .long l2), (4, .long l4), (6, .long l6), (8, .int i8), (9, .int s0)] rfl ?_
      exact w_Tw_takeStage_47 hX hr hz a0 i1 l2 l4 l6 i8 s0 (0 : Int32)
    · refine wm_iconst (1 : Int32) hX dX6_takeStage_42 (by decide) ?_
      refine wm_goto (tgt := 47) hX dX6_takeStage_43 (by decide) ?_
      refine wm_sub [1, 2, 3, 4, 5, 6, 0] [(0, .ref a0), (1, .int i1), (2, .long l2), (4, .long l4), (6, .long l6), (8, .int i8), (9, .int s0)] rfl ?_
      exact w_Tw_takeStage_47 hX hr hz a0 i1 l2 l4 l6 i8 s0 (1 : Int32)
set_option maxRecDepth 20000 in
theorem w_Tw_takeStage {X : CX Unit} (hX : Cx X RX6 cX6_takeStage 13 rm_Tw_takeStage) (hr : Rt X injV none rm_Tw_takeStage.cells rm_Tw_takeStage.slots) (hz : Zx X false) (a0 : Nat) (i1 : Int32) (l2 : Int64) (l4 : Int64) (l6 : Int64) : WM X 0 [(0, .ref a0), (1, .int i1), (2, .long l2), (4, .long l4), (6, .long l6)] [] 0 0 (m_Tw_takeStage a0 i1 l2 l4 l6) := by
  unfold m_Tw_takeStage
  refine wm_ckd ?_
  refine wm_aload_n 0 hX dX6_takeStage_0 rfl rfl ?_
  refine wm_gR hX fl_RX6_30 dX6_takeStage_1 (fun v1 => ?_)
  refine wm_gR hX fl_RX6_82 dX6_takeStage_4 (fun v2 => ?_)
  refine wm_iload_n 1 hX dX6_takeStage_7 rfl rfl ?_
  refine wm_ldI hX dX6_takeStage_8 (fun v3 => ?_)
  refine wm_istore [(8, .int v3), (0, .ref a0), (1, .int i1), (2, .long l2), (4, .long l4), (6, .long l6)] hX dX6_takeStage_9 (by decide) rfl ?_
  refine wm_iload 0 hX dX6_takeStage_11 rfl ?_
  refine wm_iconst (1 : Int32) hX dX6_takeStage_13 (by decide) ?_
  refine wm_icmp_eq 23 hX dX6_takeStage_14 (by decide) ?_ ?_
  · refine wm_iconst (1 : Int32) hX dX6_takeStage_23 (by decide) ?_
    refine wm_goto (tgt := 28) hX dX6_takeStage_24 (by decide) ?_
    refine wm_sub [1, 2, 3, 4, 5, 0] [(0, .ref a0), (1, .int i1), (2, .long l2), (4, .long l4), (6, .long l6), (8, .int v3)] rfl ?_
    exact w_Tw_takeStage_28 hX hr hz a0 i1 l2 l4 l6 v3 (1 : Int32)
  · refine wm_iload 0 hX dX6_takeStage_17 rfl ?_
    refine wm_iconst (4 : Int32) hX dX6_takeStage_19 (by decide) ?_
    refine wm_icmp_ne 27 hX dX6_takeStage_20 (by decide) ?_ ?_
    · refine wm_iconst (0 : Int32) hX dX6_takeStage_27 (by decide) ?_
      refine wm_sub [1, 2, 3, 4, 5, 0] [(0, .ref a0), (1, .int i1), (2, .long l2), (4, .long l4), (6, .long l6), (8, .int v3)] rfl ?_
      exact w_Tw_takeStage_28 hX hr hz a0 i1 l2 l4 l6 v3 (0 : Int32)
    · refine wm_iconst (1 : Int32) hX dX6_takeStage_23 (by decide) ?_
      refine wm_goto (tgt := 28) hX dX6_takeStage_24 (by decide) ?_
      refine wm_sub [1, 2, 3, 4, 5, 0] [(0, .ref a0), (1, .int i1), (2, .long l2), (4, .long l4), (6, .long l6), (8, .int v3)] rfl ?_
      exact w_Tw_takeStage_28 hX hr hz a0 i1 l2 l4 l6 v3 (1 : Int32)
theorem i_Tw_takeStage (a0 : Nat) (i1 : Int32) (l2 : Int64) (l4 : Int64) (l6 : Int64) : Im false yX6_takeStage cX6_takeStage 13 none rm_Tw_takeStage injV [.ref a0, .int i1, .long l2, .long l4, .long l6] (m_Tw_takeStage a0 i1 l2 l4 l6) := Im.of RX6 (by decide) rfl (Nat.le_of_ble_eq_true rfl) (fun X hX hr hn hz => w_Tw_takeStage hX hr hz a0 i1 l2 l4 l6)
set_option maxRecDepth 20000 in
theorem w_Tw_isGreat {X : CX Int32} (hX : Cx X RX6 cX6_isGreat 2 rm_Tw_isGreat) (hr : Rt X injI (some .boolean) rm_Tw_isGreat.cells rm_Tw_isGreat.slots) (hz : Zx X false) (l0 : Int64) : WM X 0 [(0, .long l0)] [] 0 0 (m_Tw_isGreat l0) := by
  unfold m_Tw_isGreat
  refine wm_lload_n 0 hX dX6_isGreat_0 rfl rfl ?_
  refine wm_ldc2 hX dX6_isGreat_1 wd_551 ?_
  refine wm_lif_ge 16 hX dX6_isGreat_4 dX6_isGreat_5 (by decide) ?_ ?_
  · refine wm_iconst (1 : Int32) hX dX6_isGreat_16 (by decide) ?_
    refine wm_goto (tgt := 21) hX dX6_isGreat_17 (by decide) ?_
    exact wm_zret hX hr dX6_isGreat_21
  · refine wm_lload_n 0 hX dX6_isGreat_8 rfl rfl ?_
    refine wm_ldc2 hX dX6_isGreat_9 wd_552 ?_
    refine wm_lif_gt 20 hX dX6_isGreat_12 dX6_isGreat_13 (by decide) ?_ ?_
    · refine wm_iconst (0 : Int32) hX dX6_isGreat_20 (by decide) ?_
      exact wm_zret hX hr dX6_isGreat_21
    · refine wm_iconst (1 : Int32) hX dX6_isGreat_16 (by decide) ?_
      refine wm_goto (tgt := 21) hX dX6_isGreat_17 (by decide) ?_
      exact wm_zret hX hr dX6_isGreat_21
theorem i_Tw_isGreat (l0 : Int64) : Im false yX6_isGreat cX6_isGreat 2 (some .boolean) rm_Tw_isGreat injI [.long l0] (m_Tw_isGreat l0) := Im.of RX6 (by decide) rfl (Nat.le_of_ble_eq_true rfl) (fun X hX hr hn hz => w_Tw_isGreat hX hr hz l0)
set_option maxRecDepth 20000 in
theorem wb_Tw_makeStep_80 {X : CX Int32} (hX : Cx X RX6 cX6_makeStep 12 rm_Tw_makeStep) (hr : Rt X injI (some .boolean) rm_Tw_makeStep.cells rm_Tw_makeStep.slots) (hz : Zx X false) {k80 : Nat → Int64 → Int64 → Int64 → Int32 → M Int32} (h80 : ∀ (a0 : Nat) (l1 : Int64) (l7 : Int64) (l9 : Int64) (i11 : Int32), WM X 80 [(0, .ref a0), (1, .long l1), (7, .long l7), (9, .long l9), (11, .int i11)] [] 0 0 (k80 a0 l1 l7 l9 i11)) (a0 : Nat) (l1 : Int64) (l7 : Int64) (l9 : Int64) (i11 : Int32) : WM X 80 [(0, .ref a0), (1, .long l1), (7, .long l7), (9, .long l9), (11, .int i11)] [] 0 0 (b_Tw_makeStep_80 k80 a0 l1 l7 l9 i11) := by
  unfold b_Tw_makeStep_80
  refine wm_iload 4 hX dX6_makeStep_80 rfl ?_
  refine wm_aload_n 0 hX dX6_makeStep_82 rfl rfl ?_
  refine wm_gR hX fl_RX6_30 dX6_makeStep_83 (fun v1 => ?_)
  refine wm_gI hX fl_RX6_55 dX6_makeStep_86 (fun v2 => ?_)
  refine wm_icmp_ge 151 hX dX6_makeStep_89 (by decide) ?_ ?_
  · refine wm_iconst (1 : Int32) hX dX6_makeStep_151 (by decide) ?_
    exact wm_zret hX hr dX6_makeStep_152
  · refine wm_aload_n 0 hX dX6_makeStep_92 rfl rfl ?_
    refine wm_iload 4 hX dX6_makeStep_93 rfl ?_
    refine wm_lload 3 hX dX6_makeStep_95 rfl ?_
    refine wm_lload 2 hX dX6_makeStep_97 rfl ?_
    refine wm_lload_n 1 hX dX6_makeStep_99 rfl rfl ?_
    refine wm_cVv (st := []) hX hz (i_Tw_takeStage a0 i11 l9 l7 l1) Ckd.of rfl cal_Tw_takeStage wd_521 rfl (fits_Tw_makeStep_Tw_takeStage) (Nat.le_of_ble_eq_true rfl) dX6_makeStep_100 ?_
    refine wm_aload_n 0 hX dX6_makeStep_103 rfl rfl ?_
    refine wm_gR hX fl_RX6_9 dX6_makeStep_104 (fun v3 => ?_)
    refine wm_iload 4 hX dX6_makeStep_107 rfl ?_
    refine wm_bipush (6 : Int32) hX dX6_makeStep_109 (by decide) ?_
    refine wm_imul hX dX6_makeStep_111 ?_
    refine wm_iconst (0 : Int32) hX dX6_makeStep_112 (by decide) ?_
    refine wm_iadd hX dX6_makeStep_113 ?_
    refine wm_ldL hX dX6_makeStep_114 (fun v4 => ?_)
    refine wm_lstore [(9, .long v4), (0, .ref a0), (1, .long l1), (7, .long l7), (11, .int i11)] hX dX6_makeStep_115 (by decide) rfl ?_
    refine wm_lload 0 hX dX6_makeStep_117 rfl ?_
    refine wm_cSi (st := []) hX hz (i_Tw_isGreat v4) cal_Tw_isGreat wd_548 rfl (fits_Tw_makeStep_Tw_isGreat) (Nat.le_of_ble_eq_true rfl) dX6_makeStep_119 (fun v5 => ?_)
    refine wm_if_ne 143 hX dX6_makeStep_122 (by decide) ?_ ?_
    · refine wm_iconst (0 : Int32) hX dX6_makeStep_143 (by decide) ?_
      exact wm_zret hX hr dX6_makeStep_144
    · refine wm_aload_n 1 hX dX6_makeStep_125 rfl rfl ?_
      refine wm_gR hX fl_RX6_9 dX6_makeStep_126 (fun v6 => ?_)
      refine wm_iload 4 hX dX6_makeStep_129 rfl ?_
      refine wm_bipush (6 : Int32) hX dX6_makeStep_131 (by decide) ?_
      refine wm_imul hX dX6_makeStep_133 ?_
      refine wm_iconst (1 : Int32) hX dX6_makeStep_134 (by decide) ?_
      refine wm_iadd hX dX6_makeStep_135 ?_
      refine wm_ldL hX dX6_makeStep_136 (fun v7 => ?_)
      refine wm_cSi (st := []) hX hz (i_Tw_isGreat v7) cal_Tw_isGreat wd_548 rfl (fits_Tw_makeStep_Tw_isGreat) (Nat.le_of_ble_eq_true rfl) dX6_makeStep_137 (fun v8 => ?_)
      refine wm_if_eq 145 hX dX6_makeStep_140 (by decide) ?_ ?_
      · refine wm_iinc (i11 + 1) 4 [(11, .int (i11 + 1)), (9, .long v4), (0, .ref a0), (1, .long l1), (7, .long l7)] hX dX6_makeStep_145 rfl rfl (by decide) rfl ?_
        refine wm_goto (tgt := 80) hX dX6_makeStep_148 (by decide) ?_
        refine wm_sub [2, 3, 4, 1, 0] [(0, .ref a0), (1, .long l1), (7, .long l7), (9, .long v4), (11, .int (i11 + 1))] rfl ?_
        exact h80 a0 l1 l7 v4 (i11 + 1)
      · refine wm_iconst (0 : Int32) hX dX6_makeStep_143 (by decide) ?_
        exact wm_zret hX hr dX6_makeStep_144
theorem wl_Tw_makeStep_80 {X : CX Int32} (hX : Cx X RX6 cX6_makeStep 12 rm_Tw_makeStep) (hr : Rt X injI (some .boolean) rm_Tw_makeStep.cells rm_Tw_makeStep.slots) (hz : Zx X false) : ∀ (n : Nat) (a0 : Nat) (l1 : Int64) (l7 : Int64) (l9 : Int64) (i11 : Int32), WM X 80 [(0, .ref a0), (1, .long l1), (7, .long l7), (9, .long l9), (11, .int i11)] [] 0 0 (l_Tw_makeStep_80 n a0 l1 l7 l9 i11)
  | 0, _, _, _, _, _ => wm_fl
  | n + 1, a0, l1, l7, l9, i11 => wb_Tw_makeStep_80 hX hr hz (wl_Tw_makeStep_80 hX hr hz n) a0 l1 l7 l9 i11
set_option maxRecDepth 20000 in
theorem w_Tw_makeStep_43 {X : CX Int32} (hX : Cx X RX6 cX6_makeStep 12 rm_Tw_makeStep) (hr : Rt X injI (some .boolean) rm_Tw_makeStep.cells rm_Tw_makeStep.slots) (hz : Zx X false) (a0 : Nat) (l1 : Int64) (l3 : Int64) (s0 : Int64) : WM X 43 [(0, .ref a0), (1, .long l1), (3, .long l3)] [.long s0] 0 0 (m_Tw_makeStep_43 a0 l1 l3 s0) := by
  unfold m_Tw_makeStep_43
  refine wm_lstore [(5, .long s0), (0, .ref a0), (1, .long l1), (3, .long l3)] hX dX6_makeStep_43 (by decide) rfl ?_
  refine wm_aload_n 1 hX dX6_makeStep_45 rfl rfl ?_
  refine wm_aload_n 1 hX dX6_makeStep_46 rfl rfl ?_
  refine wm_gR hX fl_RX6_30 dX6_makeStep_47 (fun v1 => ?_)
  refine wm_lload 0 hX dX6_makeStep_50 rfl ?_
  refine wm_lload_n 3 hX dX6_makeStep_52 rfl rfl ?_
  refine wm_ladd hX dX6_makeStep_53 ?_
  refine wm_cVi (st := [.ref a0]) hX hz (i_Sp_nearestTo v1 (s0 + l3)) Ckd.of rfl cal_Sp_nearestTo wd_514 rfl (fits_Tw_makeStep_Sp_nearestTo) (Nat.le_of_ble_eq_true rfl) dX6_makeStep_54 (fun v2 => ?_)
  refine wm_pI hX fp_RX6_27 dX6_makeStep_57 ?_
  refine wm_aload_n 1 hX dX6_makeStep_60 rfl rfl ?_
  refine wm_gR hX fl_RX6_30 dX6_makeStep_61 (fun v3 => ?_)
  refine wm_gR hX fl_RX6_62 dX6_makeStep_64 (fun v4 => ?_)
  refine wm_aload_n 1 hX dX6_makeStep_67 rfl rfl ?_
  refine wm_gI hX fl_RX6_27 dX6_makeStep_68 (fun v5 => ?_)
  refine wm_ldL hX dX6_makeStep_71 (fun v6 => ?_)
  refine wm_lstore [(7, .long v6), (5, .long s0), (0, .ref a0), (1, .long l1), (3, .long l3)] hX dX6_makeStep_72 (by decide) rfl ?_
  refine wm_lload_n 3 hX dX6_makeStep_74 rfl rfl ?_
  refine wm_lstore [(9, .long l1), (7, .long v6), (5, .long s0), (0, .ref a0), (1, .long l1), (3, .long l3)] hX dX6_makeStep_75 (by decide) rfl ?_
  refine wm_iconst (0 : Int32) hX dX6_makeStep_77 (by decide) ?_
  refine wm_istore [(11, .int (0 : Int32)), (9, .long l1), (7, .long v6), (5, .long s0), (0, .ref a0), (1, .long l1), (3, .long l3)] hX dX6_makeStep_78 (by decide) rfl ?_
  refine wm_sub [4, 5, 2, 1, 0] [(0, .ref a0), (1, .long l1), (7, .long v6), (9, .long l1), (11, .int (0 : Int32))] rfl ?_
  exact wl_Tw_makeStep_80 hX hr hz FU a0 l1 v6 l1 (0 : Int32)
set_option maxRecDepth 20000 in
theorem w_Tw_makeStep {X : CX Int32} (hX : Cx X RX6 cX6_makeStep 12 rm_Tw_makeStep) (hr : Rt X injI (some .boolean) rm_Tw_makeStep.cells rm_Tw_makeStep.slots) (hz : Zx X false) (a0 : Nat) (l1 : Int64) : WM X 0 [(0, .ref a0), (1, .long l1)] [] 0 0 (m_Tw_makeStep a0 l1) := by
  unfold m_Tw_makeStep
  refine wm_ckd ?_
  refine wm_aload_n 0 hX dX6_makeStep_0 rfl rfl ?_
  refine wm_iconst (0 : Int32) hX dX6_makeStep_1 (by decide) ?_
  refine wm_pI hX fp_RX6_19 dX6_makeStep_2 ?_
  refine wm_aload_n 0 hX dX6_makeStep_5 rfl rfl ?_
  refine wm_cVl (st := []) hX hz (i_Tw_drawLot a0) Ckd.of rfl cal_Tw_drawLot wd_507 rfl (fits_Tw_makeStep_Tw_drawLot) (Nat.le_of_ble_eq_true rfl) dX6_makeStep_6 (fun v1 => ?_)
  refine wm_lstore_n [(3, .long v1), (0, .ref a0), (1, .long l1)] hX dX6_makeStep_9 rfl (by decide) rfl ?_
  refine wm_aload_n 1 hX dX6_makeStep_10 rfl rfl ?_
  refine wm_gR hX fl_RX6_30 dX6_makeStep_11 (fun v2 => ?_)
  refine wm_gI hX fl_RX6_55 dX6_makeStep_14 (fun v3 => ?_)
  refine wm_if_ne 24 hX dX6_makeStep_17 (by decide) ?_ ?_
  · refine wm_aload_n 1 hX dX6_makeStep_24 rfl rfl ?_
    refine wm_gR hX fl_RX6_9 dX6_makeStep_25 (fun v4 => ?_)
    refine wm_aload_n 1 hX dX6_makeStep_28 rfl rfl ?_
    refine wm_gR hX fl_RX6_30 dX6_makeStep_29 (fun v5 => ?_)
    refine wm_gI hX fl_RX6_55 dX6_makeStep_32 (fun v6 => ?_)
    refine wm_iconst (1 : Int32) hX dX6_makeStep_35 (by decide) ?_
    refine wm_isub hX dX6_makeStep_36 ?_
    refine wm_bipush (6 : Int32) hX dX6_makeStep_37 (by decide) ?_
    refine wm_imul hX dX6_makeStep_39 ?_
    refine wm_iconst (0 : Int32) hX dX6_makeStep_40 (by decide) ?_
    refine wm_iadd hX dX6_makeStep_41 ?_
    refine wm_ldL hX dX6_makeStep_42 (fun v7 => ?_)
    refine wm_sub [1, 2, 0] [(0, .ref a0), (1, .long l1), (3, .long v1)] rfl ?_
    exact w_Tw_makeStep_43 hX hr hz a0 l1 v1 v7
  · refine wm_lload_n 2 hX dX6_makeStep_20 rfl rfl ?_
    refine wm_goto (tgt := 43) hX dX6_makeStep_21 (by decide) ?_
    refine wm_sub [1, 2, 0] [(0, .ref a0), (1, .long l1), (3, .long v1)] rfl ?_
    exact w_Tw_makeStep_43 hX hr hz a0 l1 v1 l1
theorem i_Tw_makeStep (a0 : Nat) (l1 : Int64) : Im false yX6_makeStep cX6_makeStep 12 (some .boolean) rm_Tw_makeStep injI [.ref a0, .long l1] (m_Tw_makeStep a0 l1) := Im.of RX6 (by decide) rfl (Nat.le_of_ble_eq_true rfl) (fun X hX hr hn hz => w_Tw_makeStep hX hr hz a0 l1)
set_option maxRecDepth 20000 in
theorem wb_Lg_write_53 {X : CX Unit} (hX : Cx X RX1 cX1_write 6 rm_Lg_write) (hr : Rt X injV none rm_Lg_write.cells rm_Lg_write.slots) (hz : Zx X false) {k53 : Nat → Nat → Int32 → Int32 → M Unit} (h53 : ∀ (a0 : Nat) (a3 : Nat) (i4 : Int32) (i5 : Int32), WM X 53 [(0, .ref a0), (3, .ref a3), (4, .int i4), (5, .int i5)] [] 0 0 (k53 a0 a3 i4 i5)) (a0 : Nat) (a3 : Nat) (i4 : Int32) (i5 : Int32) : WM X 53 [(0, .ref a0), (3, .ref a3), (4, .int i4), (5, .int i5)] [] 0 0 (b_Lg_write_53 k53 a0 a3 i4 i5) := by
  unfold b_Lg_write_53
  refine wm_iload 3 hX dX1_write_53 rfl ?_
  refine wm_aload_n 1 hX dX1_write_55 rfl rfl ?_
  refine wm_gR hX fl_RX1_22 dX1_write_56 (fun v1 => ?_)
  refine wm_gI hX fl_RX1_36 dX1_write_59 (fun v2 => ?_)
  refine wm_icmp_ge 95 hX dX1_write_62 (by decide) ?_ ?_
  · refine wm_aload_n 0 hX dX1_write_95 rfl rfl ?_
    refine wm_dup hX dX1_write_96 rfl ?_
    refine wm_gI hX fl_RX1_18 dX1_write_97 (fun v3 => ?_)
    refine wm_iconst (1 : Int32) hX dX1_write_100 (by decide) ?_
    refine wm_iadd hX dX1_write_101 ?_
    refine wm_pI hX fp_RX1_18 dX1_write_102 ?_
    exact wm_vret hX hr dX1_write_105
  · refine wm_aload_n 0 hX dX1_write_65 rfl rfl ?_
    refine wm_gR hX fl_RX1_9 dX1_write_66 (fun v4 => ?_)
    refine wm_iload 2 hX dX1_write_69 rfl ?_
    refine wm_iconst (2 : Int32) hX dX1_write_71 (by decide) ?_
    refine wm_iadd hX dX1_write_72 ?_
    refine wm_iload 3 hX dX1_write_73 rfl ?_
    refine wm_iadd hX dX1_write_75 ?_
    refine wm_aload_n 1 hX dX1_write_76 rfl rfl ?_
    refine wm_gR hX fl_RX1_39 dX1_write_77 (fun v5 => ?_)
    refine wm_iload 3 hX dX1_write_80 rfl ?_
    refine wm_bipush (6 : Int32) hX dX1_write_82 (by decide) ?_
    refine wm_imul hX dX1_write_84 ?_
    refine wm_iconst (0 : Int32) hX dX1_write_85 (by decide) ?_
    refine wm_iadd hX dX1_write_86 ?_
    refine wm_ldL hX dX1_write_87 (fun v6 => ?_)
    refine wm_stL hX dX1_write_88 ?_
    refine wm_iinc (i5 + 1) 3 [(5, .int (i5 + 1)), (0, .ref a0), (3, .ref a3), (4, .int i4)] hX dX1_write_89 rfl rfl (by decide) rfl ?_
    refine wm_goto (tgt := 53) hX dX1_write_92 (by decide) ?_
    refine wm_sub [1, 2, 3, 0] [(0, .ref a0), (3, .ref a3), (4, .int i4), (5, .int (i5 + 1))] rfl ?_
    exact h53 a0 a3 i4 (i5 + 1)
theorem wl_Lg_write_53 {X : CX Unit} (hX : Cx X RX1 cX1_write 6 rm_Lg_write) (hr : Rt X injV none rm_Lg_write.cells rm_Lg_write.slots) (hz : Zx X false) : ∀ (n : Nat) (a0 : Nat) (a3 : Nat) (i4 : Int32) (i5 : Int32), WM X 53 [(0, .ref a0), (3, .ref a3), (4, .int i4), (5, .int i5)] [] 0 0 (l_Lg_write_53 n a0 a3 i4 i5)
  | 0, _, _, _, _ => wm_fl
  | n + 1, a0, a3, i4, i5 => wb_Lg_write_53 hX hr hz (wl_Lg_write_53 hX hr hz n) a0 a3 i4 i5
set_option maxRecDepth 20000 in
theorem w_Lg_write {X : CX Unit} (hX : Cx X RX1 cX1_write 6 rm_Lg_write) (hr : Rt X injV none rm_Lg_write.cells rm_Lg_write.slots) (hz : Zx X false) (a0 : Nat) (l1 : Int64) (a3 : Nat) : WM X 0 [(0, .ref a0), (1, .long l1), (3, .ref a3)] [] 0 0 (m_Lg_write a0 l1 a3) := by
  unfold m_Lg_write
  refine wm_ckd ?_
  refine wm_aload_n 0 hX dX1_write_0 rfl rfl ?_
  refine wm_gR hX fl_RX1_15 dX1_write_1 (fun v1 => ?_)
  refine wm_aload_n 0 hX dX1_write_4 rfl rfl ?_
  refine wm_gI hX fl_RX1_18 dX1_write_5 (fun v2 => ?_)
  refine wm_lload_n 1 hX dX1_write_8 rfl rfl ?_
  refine wm_stL hX dX1_write_9 ?_
  refine wm_aload_n 0 hX dX1_write_10 rfl rfl ?_
  refine wm_gI hX fl_RX1_18 dX1_write_11 (fun v3 => ?_)
  refine wm_bipush (7 : Int32) hX dX1_write_14 (by decide) ?_
  refine wm_imul hX dX1_write_16 ?_
  refine wm_leti (fun v4 => ?_)
  refine wm_istore [(4, .int v4), (0, .ref a0), (1, .long l1), (3, .ref a3)] hX dX1_write_17 (by decide) rfl ?_
  refine wm_aload_n 1 hX dX1_write_19 rfl rfl ?_
  refine wm_gR hX fl_RX1_9 dX1_write_20 (fun v5 => ?_)
  refine wm_iload 0 hX dX1_write_23 rfl ?_
  refine wm_iconst (0 : Int32) hX dX1_write_25 (by decide) ?_
  refine wm_iadd hX dX1_write_26 ?_
  refine wm_lload_n 2 hX dX1_write_27 rfl rfl ?_
  refine wm_stL hX dX1_write_28 ?_
  refine wm_aload_n 1 hX dX1_write_29 rfl rfl ?_
  refine wm_gR hX fl_RX1_9 dX1_write_30 (fun v6 => ?_)
  refine wm_iload 0 hX dX1_write_33 rfl ?_
  refine wm_iconst (1 : Int32) hX dX1_write_35 (by decide) ?_
  refine wm_iadd hX dX1_write_36 ?_
  refine wm_aload_n 3 hX dX1_write_37 rfl rfl ?_
  refine wm_gR hX fl_RX1_22 dX1_write_38 (fun v7 => ?_)
  refine wm_gR hX fl_RX1_28 dX1_write_41 (fun v8 => ?_)
  refine wm_aload_n 3 hX dX1_write_44 rfl rfl ?_
  refine wm_gI hX fl_RX1_33 dX1_write_45 (fun v9 => ?_)
  refine wm_ldL hX dX1_write_48 (fun v10 => ?_)
  refine wm_stL hX dX1_write_49 ?_
  refine wm_iconst (0 : Int32) hX dX1_write_50 (by decide) ?_
  refine wm_istore [(5, .int (0 : Int32)), (4, .int v4), (0, .ref a0), (1, .long l1), (3, .ref a3)] hX dX1_write_51 (by decide) rfl ?_
  refine wm_sub [2, 4, 1, 0] [(0, .ref a0), (3, .ref a3), (4, .int v4), (5, .int (0 : Int32))] rfl ?_
  exact wl_Lg_write_53 hX hr hz FU a0 a3 v4 (0 : Int32)
theorem i_Lg_write (a0 : Nat) (l1 : Int64) (a3 : Nat) : Im false yX1_write cX1_write 6 none rm_Lg_write injV [.ref a0, .long l1, .ref a3] (m_Lg_write a0 l1 a3) := Im.of RX1 (by decide) rfl (Nat.le_of_ble_eq_true rfl) (fun X hX hr hn hz => w_Lg_write hX hr hz a0 l1 a3)
set_option maxRecDepth 20000 in
theorem w_Ob_makeOne {X : CX Int32} (hX : Cx X RX8 cX8_makeOne 4 rm_Ob_makeOne) (hr : Rt X injI (some .int) rm_Ob_makeOne.cells rm_Ob_makeOne.slots) (hz : Zx X false) (a0 : Nat) (l1 : Int64) : WM X 0 [(0, .ref a0), (1, .long l1)] [] 0 0 (m_Ob_makeOne a0 l1) := by
  unfold m_Ob_makeOne
  refine wm_ckd ?_
  refine wm_aload_n 0 hX dX8_makeOne_0 rfl rfl ?_
  refine wm_gR hX fl_RX8_26 dX8_makeOne_1 (fun v1 => ?_)
  refine wm_gI hX fl_RX8_138 dX8_makeOne_4 (fun v2 => ?_)
  refine wm_sipush (300 : Int32) hX dX8_makeOne_7 (by decide) ?_
  refine wm_icmp_lt 16 hX dX8_makeOne_10 (by decide) ?_ ?_
  · refine wm_aload_n 0 hX dX8_makeOne_16 rfl rfl ?_
    refine wm_gR hX fl_RX8_69 dX8_makeOne_17 (fun v3 => ?_)
    refine wm_aload_n 0 hX dX8_makeOne_20 rfl rfl ?_
    refine wm_gR hX fl_RX8_65 dX8_makeOne_21 (fun v4 => ?_)
    refine wm_cVv (st := []) hX hz (i_Tw_becomeLike v3 v4) Ckd.of rfl cal_Tw_becomeLike wd_498 rfl (fits_Ob_makeOne_Tw_becomeLike) (Nat.le_of_ble_eq_true rfl) dX8_makeOne_24 ?_
    refine wm_aload_n 0 hX dX8_makeOne_27 rfl rfl ?_
    refine wm_gR hX fl_RX8_69 dX8_makeOne_28 (fun v5 => ?_)
    refine wm_lload_n 1 hX dX8_makeOne_31 rfl rfl ?_
    refine wm_cVi (st := []) hX hz (i_Tw_makeStep v5 l1) Ckd.of rfl cal_Tw_makeStep wd_503 rfl (fits_Ob_makeOne_Tw_makeStep) (Nat.le_of_ble_eq_true rfl) dX8_makeOne_32 (fun v6 => ?_)
    refine wm_if_ne 41 hX dX8_makeOne_35 (by decide) ?_ ?_
    · refine wm_aload_n 0 hX dX8_makeOne_41 rfl rfl ?_
      refine wm_gR hX fl_RX8_65 dX8_makeOne_42 (fun v7 => ?_)
      refine wm_astore_n [(3, .ref v7), (0, .ref a0), (1, .long l1)] hX dX8_makeOne_45 rfl (by decide) rfl ?_
      refine wm_aload_n 1 hX dX8_makeOne_46 rfl rfl ?_
      refine wm_aload_n 1 hX dX8_makeOne_47 rfl rfl ?_
      refine wm_gR hX fl_RX8_69 dX8_makeOne_48 (fun v8 => ?_)
      refine wm_pR hX fp_RX8_65 dX8_makeOne_51 ?_
      refine wm_aload_n 1 hX dX8_makeOne_54 rfl rfl ?_
      refine wm_aload_n 0 hX dX8_makeOne_55 rfl rfl ?_
      refine wm_pR hX fp_RX8_69 dX8_makeOne_56 ?_
      refine wm_aload_n 1 hX dX8_makeOne_59 rfl rfl ?_
      refine wm_gR hX fl_RX8_26 dX8_makeOne_60 (fun v9 => ?_)
      refine wm_lload_n 2 hX dX8_makeOne_63 rfl rfl ?_
      refine wm_aload_n 1 hX dX8_makeOne_64 rfl rfl ?_
      refine wm_gR hX fl_RX8_65 dX8_makeOne_65 (fun v10 => ?_)
      refine wm_cVv (st := []) hX hz (i_Lg_write v9 l1 v10) Ckd.of rfl cal_Lg_write wd_553 rfl (fits_Ob_makeOne_Lg_write) (Nat.le_of_ble_eq_true rfl) dX8_makeOne_68 ?_
      refine wm_aload_n 1 hX dX8_makeOne_71 rfl rfl ?_
      refine wm_gR hX fl_RX8_65 dX8_makeOne_72 (fun v11 => ?_)
      refine wm_gI hX fl_RX8_289 dX8_makeOne_75 (fun v12 => ?_)
      exact wm_iret hX hr dX8_makeOne_78
    · refine wm_bipush (-6 : Int32) hX dX8_makeOne_38 (by decide) ?_
      exact wm_iret hX hr dX8_makeOne_40
  · refine wm_bipush (-4 : Int32) hX dX8_makeOne_13 (by decide) ?_
    exact wm_iret hX hr dX8_makeOne_15
theorem i_Ob_makeOne (a0 : Nat) (l1 : Int64) : Im false yX8_makeOne cX8_makeOne 4 (some .int) rm_Ob_makeOne injI [.ref a0, .long l1] (m_Ob_makeOne a0 l1) := Im.of RX8 (by decide) rfl (Nat.le_of_ble_eq_true rfl) (fun X hX hr hn hz => w_Ob_makeOne hX hr hz a0 l1)
set_option maxRecDepth 20000 in
theorem w_Ob_step {X : CX Int32} (hX : Cx X RX8 cX8_step 3 rm_Ob_step) (hr : Rt X injI (some .int) rm_Ob_step.cells rm_Ob_step.slots) (hz : Zx X false) (a0 : Nat) (l1 : Int64) : WM X 0 [(0, .ref a0), (1, .long l1)] [] 0 0 (m_Ob_step a0 l1) := by
  unfold m_Ob_step
  refine wm_ckd ?_
  refine wm_lload_n 1 hX dX8_step_0 rfl rfl ?_
  refine wm_cSi (st := []) hX hz (i_Ob_isSample l1) cal_Ob_isSample wd_466 rfl (fits_Ob_step_Ob_isSample) (Nat.le_of_ble_eq_true rfl) dX8_step_1 (fun v1 => ?_)
  refine wm_if_ne 10 hX dX8_step_4 (by decide) ?_ ?_
  · refine wm_aload_n 0 hX dX8_step_10 rfl rfl ?_
    refine wm_lload_n 1 hX dX8_step_11 rfl rfl ?_
    refine wm_cVi (st := []) hX hz (i_Ob_makeOne a0 l1) Ckd.of rfl cal_Ob_makeOne wd_494 rfl (fits_Ob_step_Ob_makeOne) (Nat.le_of_ble_eq_true rfl) dX8_step_12 (fun v2 => ?_)
    exact wm_iret hX hr dX8_step_15
  · refine wm_bipush (-2 : Int32) hX dX8_step_7 (by decide) ?_
    exact wm_iret hX hr dX8_step_9
theorem i_Ob_step (a0 : Nat) (l1 : Int64) : Im false yX8_step cX8_step 3 (some .int) rm_Ob_step injI [.ref a0, .long l1] (m_Ob_step a0 l1) := Im.of RX8 (by decide) rfl (Nat.le_of_ble_eq_true rfl) (fun X hX hr hn hz => w_Ob_step hX hr hz a0 l1)
set_option maxRecDepth 20000 in
theorem wb_Md_take_2 {X : CX Unit} (hX : Cx X RX9 cX9_take 2 rm_Md_take) (hr : Rt X injV none rm_Md_take.cells rm_Md_take.slots) (hz : Zx X false) {k2 : Nat → Int32 → M Unit} (h2 : ∀ (a0 : Nat) (i1 : Int32), WM X 2 [(0, .ref a0), (1, .int i1)] [] 0 0 (k2 a0 i1)) (a0 : Nat) (i1 : Int32) : WM X 2 [(0, .ref a0), (1, .int i1)] [] 0 0 (b_Md_take_2 k2 a0 i1) := by
  unfold b_Md_take_2
  refine wm_iload_n 1 hX dX9_take_2 rfl rfl ?_
  refine wm_bipush (30 : Int32) hX dX9_take_3 (by decide) ?_
  refine wm_icmp_ge 26 hX dX9_take_5 (by decide) ?_ ?_
  · refine wm_aload_n 0 hX dX9_take_26 rfl rfl ?_
    refine wm_aload_n 0 hX dX9_take_27 rfl rfl ?_
    refine wm_gL hX fl_RX9_180 dX9_take_28 (fun v1 => ?_)
    refine wm_pL hX fp_RX9_183 dX9_take_31 ?_
    exact wm_vret hX hr dX9_take_34
  · refine wm_aload_n 0 hX dX9_take_8 rfl rfl ?_
    refine wm_gR hX fl_RX9_51 dX9_take_9 (fun v2 => ?_)
    refine wm_iload_n 1 hX dX9_take_12 rfl rfl ?_
    refine wm_aload_n 0 hX dX9_take_13 rfl rfl ?_
    refine wm_gR hX fl_RX9_39 dX9_take_14 (fun v3 => ?_)
    refine wm_iload_n 1 hX dX9_take_17 rfl rfl ?_
    refine wm_ldL hX dX9_take_18 (fun v4 => ?_)
    refine wm_stL hX dX9_take_19 ?_
    refine wm_iinc (i1 + 1) 1 [(1, .int (i1 + 1)), (0, .ref a0)] hX dX9_take_20 rfl rfl (by decide) rfl ?_
    refine wm_goto (tgt := 2) hX dX9_take_23 (by decide) ?_
    refine wm_sub [1, 0] [(0, .ref a0), (1, .int (i1 + 1))] rfl ?_
    exact h2 a0 (i1 + 1)
theorem wl_Md_take_2 {X : CX Unit} (hX : Cx X RX9 cX9_take 2 rm_Md_take) (hr : Rt X injV none rm_Md_take.cells rm_Md_take.slots) (hz : Zx X false) : ∀ (n : Nat) (a0 : Nat) (i1 : Int32), WM X 2 [(0, .ref a0), (1, .int i1)] [] 0 0 (l_Md_take_2 n a0 i1)
  | 0, _, _ => wm_fl
  | n + 1, a0, i1 => wb_Md_take_2 hX hr hz (wl_Md_take_2 hX hr hz n) a0 i1
set_option maxRecDepth 20000 in
theorem w_Md_take {X : CX Unit} (hX : Cx X RX9 cX9_take 2 rm_Md_take) (hr : Rt X injV none rm_Md_take.cells rm_Md_take.slots) (hz : Zx X false) (a0 : Nat) : WM X 0 [(0, .ref a0)] [] 0 0 (m_Md_take a0) := by
  unfold m_Md_take
  refine wm_ckd ?_
  refine wm_iconst (0 : Int32) hX dX9_take_0 (by decide) ?_
  refine wm_istore_n [(1, .int (0 : Int32)), (0, .ref a0)] hX dX9_take_1 rfl (by decide) rfl ?_
  refine wm_sub [1, 0] [(0, .ref a0), (1, .int (0 : Int32))] rfl ?_
  exact wl_Md_take_2 hX hr hz FU a0 (0 : Int32)
theorem i_Md_take (a0 : Nat) : Im false yX9_take cX9_take 2 none rm_Md_take injV [.ref a0] (m_Md_take a0) := Im.of RX9 (by decide) rfl (Nat.le_of_ble_eq_true rfl) (fun X hX hr hn hz => w_Md_take hX hr hz a0)
set_option maxRecDepth 20000 in
theorem w_Md_nearest_65 {X : CX Int32} (hX : Cx X RX9 cX9_nearest 9 rm_Md_nearest) (hr : Rt X injI (some .int) rm_Md_nearest.cells rm_Md_nearest.slots) (hz : Zx X false) {k5 : Nat → Int64 → Int32 → Int32 → M Int32} (h5 : ∀ (a0 : Nat) (l1 : Int64) (i3 : Int32) (i4 : Int32), WM X 5 [(0, .ref a0), (1, .long l1), (3, .int i3), (4, .int i4)] [] 0 0 (k5 a0 l1 i3 i4)) (a0 : Nat) (l1 : Int64) (i3 : Int32) (i4 : Int32) (s0 : Int64) (s1 : Int64) : WM X 65 [(0, .ref a0), (1, .long l1), (3, .int i3), (4, .int i4)] [.long s0, .long s1] 0 0 (m_Md_nearest_65 k5 a0 l1 i3 i4 s0 s1) := by
  unfold m_Md_nearest_65
  refine wm_lif_gt 74 hX dX9_nearest_65 dX9_nearest_66 (by decide) ?_ ?_
  · refine wm_iload_n 2 hX dX9_nearest_74 rfl rfl ?_
    refine wm_istore_n [(3, .int i3), (0, .ref a0), (1, .long l1), (4, .int i4)] hX dX9_nearest_75 rfl (by decide) rfl ?_
    refine wm_iinc (i4 + 1) 3 [(4, .int (i4 + 1)), (3, .int i3), (0, .ref a0), (1, .long l1)] hX dX9_nearest_76 rfl rfl (by decide) rfl ?_
    refine wm_goto (tgt := 5) hX dX9_nearest_79 (by decide) ?_
    refine wm_sub [2, 3, 1, 0] [(0, .ref a0), (1, .long l1), (3, .int i3), (4, .int (i4 + 1))] rfl ?_
    exact h5 a0 l1 i3 (i4 + 1)
  · refine wm_iload 3 hX dX9_nearest_69 rfl ?_
    refine wm_goto (tgt := 75) hX dX9_nearest_71 (by decide) ?_
    refine wm_istore_n [(3, .int i4), (0, .ref a0), (1, .long l1), (4, .int i4)] hX dX9_nearest_75 rfl (by decide) rfl ?_
    refine wm_iinc (i4 + 1) 3 [(4, .int (i4 + 1)), (3, .int i4), (0, .ref a0), (1, .long l1)] hX dX9_nearest_76 rfl rfl (by decide) rfl ?_
    refine wm_goto (tgt := 5) hX dX9_nearest_79 (by decide) ?_
    refine wm_sub [2, 3, 1, 0] [(0, .ref a0), (1, .long l1), (3, .int i4), (4, .int (i4 + 1))] rfl ?_
    exact h5 a0 l1 i4 (i4 + 1)
set_option maxRecDepth 20000 in
theorem w_Md_nearest_50 {X : CX Int32} (hX : Cx X RX9 cX9_nearest 9 rm_Md_nearest) (hr : Rt X injI (some .int) rm_Md_nearest.cells rm_Md_nearest.slots) (hz : Zx X false) {k5 : Nat → Int64 → Int32 → Int32 → M Int32} (h5 : ∀ (a0 : Nat) (l1 : Int64) (i3 : Int32) (i4 : Int32), WM X 5 [(0, .ref a0), (1, .long l1), (3, .int i3), (4, .int i4)] [] 0 0 (k5 a0 l1 i3 i4)) (a0 : Nat) (l1 : Int64) (i3 : Int32) (i4 : Int32) (l5 : Int64) (s0 : Int64) : WM X 50 [(0, .ref a0), (1, .long l1), (3, .int i3), (4, .int i4), (5, .long l5)] [.long s0] 0 0 (m_Md_nearest_50 k5 a0 l1 i3 i4 l5 s0) := by
  unfold m_Md_nearest_50
  refine wm_lload 4 hX dX9_nearest_50 rfl ?_
  refine wm_lconst (0 : Int64) hX dX9_nearest_52 (by decide) ?_
  refine wm_lif_ge 63 hX dX9_nearest_53 dX9_nearest_54 (by decide) ?_ ?_
  · refine wm_lload 4 hX dX9_nearest_63 rfl ?_
    refine wm_sub [0, 1, 2, 3] [(0, .ref a0), (1, .long l1), (3, .int i3), (4, .int i4)] rfl ?_
    exact w_Md_nearest_65 hX hr hz h5 a0 l1 i3 i4 l5 s0
  · refine wm_lload 4 hX dX9_nearest_57 rfl ?_
    refine wm_lneg hX dX9_nearest_59 ?_
    refine wm_goto (tgt := 65) hX dX9_nearest_60 (by decide) ?_
    refine wm_sub [0, 1, 2, 3] [(0, .ref a0), (1, .long l1), (3, .int i3), (4, .int i4)] rfl ?_
    exact w_Md_nearest_65 hX hr hz h5 a0 l1 i3 i4 (-l5) s0
set_option maxRecDepth 20000 in
theorem wb_Md_nearest_5 {X : CX Int32} (hX : Cx X RX9 cX9_nearest 9 rm_Md_nearest) (hr : Rt X injI (some .int) rm_Md_nearest.cells rm_Md_nearest.slots) (hz : Zx X false) {k5 : Nat → Int64 → Int32 → Int32 → M Int32} (h5 : ∀ (a0 : Nat) (l1 : Int64) (i3 : Int32) (i4 : Int32), WM X 5 [(0, .ref a0), (1, .long l1), (3, .int i3), (4, .int i4)] [] 0 0 (k5 a0 l1 i3 i4)) (a0 : Nat) (l1 : Int64) (i3 : Int32) (i4 : Int32) : WM X 5 [(0, .ref a0), (1, .long l1), (3, .int i3), (4, .int i4)] [] 0 0 (b_Md_nearest_5 k5 a0 l1 i3 i4) := by
  unfold b_Md_nearest_5
  refine wm_iload 3 hX dX9_nearest_5 rfl ?_
  refine wm_aload_n 0 hX dX9_nearest_7 rfl rfl ?_
  refine wm_gI hX fl_RX9_87 dX9_nearest_8 (fun v1 => ?_)
  refine wm_icmp_ge 82 hX dX9_nearest_11 (by decide) ?_ ?_
  · refine wm_iload_n 2 hX dX9_nearest_82 rfl rfl ?_
    exact wm_iret hX hr dX9_nearest_83
  · refine wm_lload_n 1 hX dX9_nearest_14 rfl rfl ?_
    refine wm_aload_n 0 hX dX9_nearest_15 rfl rfl ?_
    refine wm_gR hX fl_RX9_36 dX9_nearest_16 (fun v2 => ?_)
    refine wm_iload_n 2 hX dX9_nearest_19 rfl rfl ?_
    refine wm_ldL hX dX9_nearest_20 (fun v3 => ?_)
    refine wm_lsub hX dX9_nearest_21 ?_
    refine wm_letl (fun v4 => ?_)
    refine wm_lstore [(5, .long v4), (0, .ref a0), (1, .long l1), (3, .int i3), (4, .int i4)] hX dX9_nearest_22 (by decide) rfl ?_
    refine wm_lload_n 2 hX dX9_nearest_24 rfl rfl ?_
    refine wm_aload_n 1 hX dX9_nearest_25 rfl rfl ?_
    refine wm_gR hX fl_RX9_36 dX9_nearest_26 (fun v5 => ?_)
    refine wm_iload 4 hX dX9_nearest_29 rfl ?_
    refine wm_ldL hX dX9_nearest_31 (fun v6 => ?_)
    refine wm_lsub hX dX9_nearest_32 ?_
    refine wm_letl (fun v7 => ?_)
    refine wm_lstore [(7, .long v7), (5, .long v4), (0, .ref a0), (1, .long l1), (3, .int i3), (4, .int i4)] hX dX9_nearest_33 (by decide) rfl ?_
    refine wm_lload 0 hX dX9_nearest_35 rfl ?_
    refine wm_lconst (0 : Int64) hX dX9_nearest_37 (by decide) ?_
    refine wm_lif_ge 48 hX dX9_nearest_38 dX9_nearest_39 (by decide) ?_ ?_
    · refine wm_lload 0 hX dX9_nearest_48 rfl ?_
      refine wm_sub [2, 3, 4, 5, 1] [(0, .ref a0), (1, .long l1), (3, .int i3), (4, .int i4), (5, .long v4)] rfl ?_
      exact w_Md_nearest_50 hX hr hz h5 a0 l1 i3 i4 v4 v7
    · refine wm_lload 0 hX dX9_nearest_42 rfl ?_
      refine wm_lneg hX dX9_nearest_44 ?_
      refine wm_goto (tgt := 50) hX dX9_nearest_45 (by decide) ?_
      refine wm_sub [2, 3, 4, 5, 1] [(0, .ref a0), (1, .long l1), (3, .int i3), (4, .int i4), (5, .long v4)] rfl ?_
      exact w_Md_nearest_50 hX hr hz h5 a0 l1 i3 i4 v4 (-v7)
theorem wl_Md_nearest_5 {X : CX Int32} (hX : Cx X RX9 cX9_nearest 9 rm_Md_nearest) (hr : Rt X injI (some .int) rm_Md_nearest.cells rm_Md_nearest.slots) (hz : Zx X false) : ∀ (n : Nat) (a0 : Nat) (l1 : Int64) (i3 : Int32) (i4 : Int32), WM X 5 [(0, .ref a0), (1, .long l1), (3, .int i3), (4, .int i4)] [] 0 0 (l_Md_nearest_5 n a0 l1 i3 i4)
  | 0, _, _, _, _ => wm_fl
  | n + 1, a0, l1, i3, i4 => wb_Md_nearest_5 hX hr hz (wl_Md_nearest_5 hX hr hz n) a0 l1 i3 i4
set_option maxRecDepth 20000 in
theorem w_Md_nearest {X : CX Int32} (hX : Cx X RX9 cX9_nearest 9 rm_Md_nearest) (hr : Rt X injI (some .int) rm_Md_nearest.cells rm_Md_nearest.slots) (hz : Zx X false) (a0 : Nat) (l1 : Int64) : WM X 0 [(0, .ref a0), (1, .long l1)] [] 0 0 (m_Md_nearest a0 l1) := by
  unfold m_Md_nearest
  refine wm_ckd ?_
  refine wm_iconst (0 : Int32) hX dX9_nearest_0 (by decide) ?_
  refine wm_istore_n [(3, .int (0 : Int32)), (0, .ref a0), (1, .long l1)] hX dX9_nearest_1 rfl (by decide) rfl ?_
  refine wm_iconst (1 : Int32) hX dX9_nearest_2 (by decide) ?_
  refine wm_istore [(4, .int (1 : Int32)), (3, .int (0 : Int32)), (0, .ref a0), (1, .long l1)] hX dX9_nearest_3 (by decide) rfl ?_
  refine wm_sub [2, 3, 1, 0] [(0, .ref a0), (1, .long l1), (3, .int (0 : Int32)), (4, .int (1 : Int32))] rfl ?_
  exact wl_Md_nearest_5 hX hr hz FU a0 l1 (0 : Int32) (1 : Int32)
theorem i_Md_nearest (a0 : Nat) (l1 : Int64) : Im false yX9_nearest cX9_nearest 9 (some .int) rm_Md_nearest injI [.ref a0, .long l1] (m_Md_nearest a0 l1) := Im.of RX9 (by decide) rfl (Nat.le_of_ble_eq_true rfl) (fun X hX hr hn hz => w_Md_nearest hX hr hz a0 l1)
set_option maxRecDepth 20000 in
theorem w_Md_writes {X : CX Unit} (hX : Cx X RX9 cX9_writes 2 rm_Md_writes) (hr : Rt X injV none rm_Md_writes.cells rm_Md_writes.slots) (hz : Zx X false) (a0 : Nat) (i1 : Int32) : WM X 0 [(0, .ref a0), (1, .int i1)] [] 0 0 (m_Md_writes a0 i1) := by
  unfold m_Md_writes
  refine wm_ckd ?_
  refine wm_aload_n 0 hX dX9_writes_0 rfl rfl ?_
  refine wm_gR hX fl_RX9_54 dX9_writes_1 (fun v1 => ?_)
  refine wm_aload_n 0 hX dX9_writes_4 rfl rfl ?_
  refine wm_gI hX fl_RX9_186 dX9_writes_5 (fun v2 => ?_)
  refine wm_iload_n 1 hX dX9_writes_8 rfl rfl ?_
  refine wm_stI hX dX9_writes_9 ?_
  refine wm_aload_n 0 hX dX9_writes_10 rfl rfl ?_
  refine wm_dup hX dX9_writes_11 rfl ?_
  refine wm_gI hX fl_RX9_186 dX9_writes_12 (fun v3 => ?_)
  refine wm_iconst (1 : Int32) hX dX9_writes_15 (by decide) ?_
  refine wm_iadd hX dX9_writes_16 ?_
  refine wm_pI hX fp_RX9_186 dX9_writes_17 ?_
  exact wm_vret hX hr dX9_writes_20
theorem i_Md_writes (a0 : Nat) (i1 : Int32) : Im false yX9_writes cX9_writes 2 none rm_Md_writes injV [.ref a0, .int i1] (m_Md_writes a0 i1) := Im.of RX9 (by decide) rfl (Nat.le_of_ble_eq_true rfl) (fun X hX hr hn hz => w_Md_writes hX hr hz a0 i1)
set_option maxRecDepth 20000 in
theorem w_Md_plain {X : CX Unit} (hX : Cx X RX9 cX9_plain 6 rm_Md_plain) (hr : Rt X injV none rm_Md_plain.cells rm_Md_plain.slots) (hz : Zx X false) (a0 : Nat) (i1 : Int32) (l2 : Int64) (l4 : Int64) : WM X 0 [(0, .ref a0), (1, .int i1), (2, .long l2), (4, .long l4)] [] 0 0 (m_Md_plain a0 i1 l2 l4) := by
  unfold m_Md_plain
  refine wm_ckd ?_
  refine wm_aload_n 0 hX dX9_plain_0 rfl rfl ?_
  refine wm_bipush (10 : Int32) hX dX9_plain_1 (by decide) ?_
  refine wm_cVv (st := []) hX hz (i_Md_writes a0 (10 : Int32)) Ckd.of rfl cal_Md_writes wd_1005 rfl (fits_Md_plain_Md_writes) (Nat.le_of_ble_eq_true rfl) dX9_plain_3 ?_
  refine wm_aload_n 0 hX dX9_plain_6 rfl rfl ?_
  refine wm_gR hX fl_RX9_51 dX9_plain_7 (fun v1 => ?_)
  refine wm_bipush (6 : Int32) hX dX9_plain_10 (by decide) ?_
  refine wm_iload_n 1 hX dX9_plain_12 rfl rfl ?_
  refine wm_imul hX dX9_plain_13 ?_
  refine wm_iconst (2 : Int32) hX dX9_plain_14 (by decide) ?_
  refine wm_iadd hX dX9_plain_15 ?_
  refine wm_dup2 hX dX9_plain_16 rfl rfl ?_
  refine wm_ldL hX dX9_plain_17 (fun v2 => ?_)
  refine wm_lload_n 2 hX dX9_plain_18 rfl rfl ?_
  refine wm_ladd hX dX9_plain_19 ?_
  refine wm_stL hX dX9_plain_20 ?_
  refine wm_aload_n 0 hX dX9_plain_21 rfl rfl ?_
  refine wm_gR hX fl_RX9_51 dX9_plain_22 (fun v3 => ?_)
  refine wm_bipush (6 : Int32) hX dX9_plain_25 (by decide) ?_
  refine wm_iload_n 1 hX dX9_plain_27 rfl rfl ?_
  refine wm_imul hX dX9_plain_28 ?_
  refine wm_iconst (3 : Int32) hX dX9_plain_29 (by decide) ?_
  refine wm_iadd hX dX9_plain_30 ?_
  refine wm_dup2 hX dX9_plain_31 rfl rfl ?_
  refine wm_ldL hX dX9_plain_32 (fun v4 => ?_)
  refine wm_lload 3 hX dX9_plain_33 rfl ?_
  refine wm_ladd hX dX9_plain_35 ?_
  refine wm_stL hX dX9_plain_36 ?_
  refine wm_aload_n 0 hX dX9_plain_37 rfl rfl ?_
  refine wm_gR hX fl_RX9_51 dX9_plain_38 (fun v5 => ?_)
  refine wm_bipush (6 : Int32) hX dX9_plain_41 (by decide) ?_
  refine wm_iload_n 1 hX dX9_plain_43 rfl rfl ?_
  refine wm_imul hX dX9_plain_44 ?_
  refine wm_dup2 hX dX9_plain_45 rfl rfl ?_
  refine wm_ldL hX dX9_plain_46 (fun v6 => ?_)
  refine wm_lload_n 2 hX dX9_plain_47 rfl rfl ?_
  refine wm_lload 3 hX dX9_plain_48 rfl ?_
  refine wm_lsub hX dX9_plain_50 ?_
  refine wm_ladd hX dX9_plain_51 ?_
  refine wm_stL hX dX9_plain_52 ?_
  exact wm_vret hX hr dX9_plain_53
theorem i_Md_plain (a0 : Nat) (i1 : Int32) (l2 : Int64) (l4 : Int64) : Im false yX9_plain cX9_plain 6 none rm_Md_plain injV [.ref a0, .int i1, .long l2, .long l4] (m_Md_plain a0 i1 l2 l4) := Im.of RX9 (by decide) rfl (Nat.le_of_ble_eq_true rfl) (fun X hX hr hn hz => w_Md_plain hX hr hz a0 i1 l2 l4)
set_option maxRecDepth 20000 in
theorem w_Md_leaky {X : CX Unit} (hX : Cx X RX9 cX9_leaky 8 rm_Md_leaky) (hr : Rt X injV none rm_Md_leaky.cells rm_Md_leaky.slots) (hz : Zx X false) (a0 : Nat) (i1 : Int32) (l2 : Int64) (l4 : Int64) : WM X 0 [(0, .ref a0), (1, .int i1), (2, .long l2), (4, .long l4)] [] 0 0 (m_Md_leaky a0 i1 l2 l4) := by
  unfold m_Md_leaky
  refine wm_ckd ?_
  refine wm_aload_n 0 hX dX9_leaky_0 rfl rfl ?_
  refine wm_bipush (11 : Int32) hX dX9_leaky_1 (by decide) ?_
  refine wm_cVv (st := []) hX hz (i_Md_writes a0 (11 : Int32)) Ckd.of rfl cal_Md_writes wd_1005 rfl (fits_Md_leaky_Md_writes) (Nat.le_of_ble_eq_true rfl) dX9_leaky_3 ?_
  refine wm_aload_n 0 hX dX9_leaky_6 rfl rfl ?_
  refine wm_gR hX fl_RX9_51 dX9_leaky_7 (fun v1 => ?_)
  refine wm_bipush (6 : Int32) hX dX9_leaky_10 (by decide) ?_
  refine wm_iload_n 1 hX dX9_leaky_12 rfl rfl ?_
  refine wm_imul hX dX9_leaky_13 ?_
  refine wm_ldL hX dX9_leaky_14 (fun v2 => ?_)
  refine wm_aload_n 0 hX dX9_leaky_15 rfl rfl ?_
  refine wm_gR hX fl_RX9_30 dX9_leaky_16 (fun v3 => ?_)
  refine wm_iload_n 1 hX dX9_leaky_19 rfl rfl ?_
  refine wm_ldL hX dX9_leaky_20 (fun v4 => ?_)
  refine wm_lmul hX dX9_leaky_21 ?_
  refine wm_ldc2 hX dX9_leaky_22 wd_953 ?_
  refine wm_ldv hX dX9_leaky_25 (fun v5 => ?_)
  refine wm_lstore [(6, .long v5), (0, .ref a0), (1, .int i1), (2, .long l2), (4, .long l4)] hX dX9_leaky_26 (by decide) rfl ?_
  refine wm_aload_n 1 hX dX9_leaky_28 rfl rfl ?_
  refine wm_gR hX fl_RX9_51 dX9_leaky_29 (fun v6 => ?_)
  refine wm_bipush (6 : Int32) hX dX9_leaky_32 (by decide) ?_
  refine wm_iload_n 2 hX dX9_leaky_34 rfl rfl ?_
  refine wm_imul hX dX9_leaky_35 ?_
  refine wm_iconst (4 : Int32) hX dX9_leaky_36 (by decide) ?_
  refine wm_iadd hX dX9_leaky_37 ?_
  refine wm_dup2 hX dX9_leaky_38 rfl rfl ?_
  refine wm_ldL hX dX9_leaky_39 (fun v7 => ?_)
  refine wm_lload 0 hX dX9_leaky_40 rfl ?_
  refine wm_ladd hX dX9_leaky_42 ?_
  refine wm_stL hX dX9_leaky_43 ?_
  refine wm_aload_n 1 hX dX9_leaky_44 rfl rfl ?_
  refine wm_gR hX fl_RX9_51 dX9_leaky_45 (fun v8 => ?_)
  refine wm_bipush (6 : Int32) hX dX9_leaky_48 (by decide) ?_
  refine wm_iload_n 2 hX dX9_leaky_50 rfl rfl ?_
  refine wm_imul hX dX9_leaky_51 ?_
  refine wm_dup2 hX dX9_leaky_52 rfl rfl ?_
  refine wm_ldL hX dX9_leaky_53 (fun v9 => ?_)
  refine wm_lload 0 hX dX9_leaky_54 rfl ?_
  refine wm_lsub hX dX9_leaky_56 ?_
  refine wm_stL hX dX9_leaky_57 ?_
  refine wm_aload_n 1 hX dX9_leaky_58 rfl rfl ?_
  refine wm_iload_n 2 hX dX9_leaky_59 rfl rfl ?_
  refine wm_lload_n 3 hX dX9_leaky_60 rfl rfl ?_
  refine wm_lload 4 hX dX9_leaky_61 rfl ?_
  refine wm_cVv (st := []) hX hz (i_Md_plain a0 i1 l2 l4) Ckd.of rfl cal_Md_plain wd_1001 rfl (fits_Md_leaky_Md_plain) (Nat.le_of_ble_eq_true rfl) dX9_leaky_63 ?_
  exact wm_vret hX hr dX9_leaky_66
theorem i_Md_leaky (a0 : Nat) (i1 : Int32) (l2 : Int64) (l4 : Int64) : Im false yX9_leaky cX9_leaky 8 none rm_Md_leaky injV [.ref a0, .int i1, .long l2, .long l4] (m_Md_leaky a0 i1 l2 l4) := Im.of RX9 (by decide) rfl (Nat.le_of_ble_eq_true rfl) (fun X hX hr hn hz => w_Md_leaky hX hr hz a0 i1 l2 l4)
set_option maxRecDepth 20000 in
theorem w_Md_bounded_71 {X : CX Unit} (hX : Cx X RX9 cX9_bounded 10 rm_Md_bounded) (hr : Rt X injV none rm_Md_bounded.cells rm_Md_bounded.slots) (hz : Zx X false) (a0 : Nat) (i1 : Int32) (l6 : Int64) (s0 : Int64) : WM X 71 [(0, .ref a0), (1, .int i1), (6, .long l6)] [.long s0] 0 0 (m_Md_bounded_71 a0 i1 l6 s0) := by
  unfold m_Md_bounded_71
  refine wm_lstore [(8, .long s0), (0, .ref a0), (1, .int i1), (6, .long l6)] hX dX9_bounded_71 (by decide) rfl ?_
  refine wm_aload_n 1 hX dX9_bounded_73 rfl rfl ?_
  refine wm_gR hX fl_RX9_51 dX9_bounded_74 (fun v1 => ?_)
  refine wm_bipush (6 : Int32) hX dX9_bounded_77 (by decide) ?_
  refine wm_iload_n 2 hX dX9_bounded_79 rfl rfl ?_
  refine wm_imul hX dX9_bounded_80 ?_
  refine wm_iconst (5 : Int32) hX dX9_bounded_81 (by decide) ?_
  refine wm_iadd hX dX9_bounded_82 ?_
  refine wm_dup2 hX dX9_bounded_83 rfl rfl ?_
  refine wm_ldL hX dX9_bounded_84 (fun v2 => ?_)
  refine wm_lload 3 hX dX9_bounded_85 rfl ?_
  refine wm_lload 0 hX dX9_bounded_87 rfl ?_
  refine wm_lsub hX dX9_bounded_89 ?_
  refine wm_ladd hX dX9_bounded_90 ?_
  refine wm_stL hX dX9_bounded_91 ?_
  refine wm_aload_n 1 hX dX9_bounded_92 rfl rfl ?_
  refine wm_gR hX fl_RX9_51 dX9_bounded_93 (fun v3 => ?_)
  refine wm_bipush (6 : Int32) hX dX9_bounded_96 (by decide) ?_
  refine wm_iload_n 2 hX dX9_bounded_98 rfl rfl ?_
  refine wm_imul hX dX9_bounded_99 ?_
  refine wm_lload 0 hX dX9_bounded_100 rfl ?_
  refine wm_stL hX dX9_bounded_102 ?_
  exact wm_vret hX hr dX9_bounded_103
set_option maxRecDepth 20000 in
theorem w_Md_bounded {X : CX Unit} (hX : Cx X RX9 cX9_bounded 10 rm_Md_bounded) (hr : Rt X injV none rm_Md_bounded.cells rm_Md_bounded.slots) (hz : Zx X false) (a0 : Nat) (i1 : Int32) (l2 : Int64) (l4 : Int64) : WM X 0 [(0, .ref a0), (1, .int i1), (2, .long l2), (4, .long l4)] [] 0 0 (m_Md_bounded a0 i1 l2 l4) := by
  unfold m_Md_bounded
  refine wm_ckd ?_
  refine wm_aload_n 0 hX dX9_bounded_0 rfl rfl ?_
  refine wm_bipush (12 : Int32) hX dX9_bounded_1 (by decide) ?_
  refine wm_cVv (st := []) hX hz (i_Md_writes a0 (12 : Int32)) Ckd.of rfl cal_Md_writes wd_1005 rfl (fits_Md_bounded_Md_writes) (Nat.le_of_ble_eq_true rfl) dX9_bounded_3 ?_
  refine wm_aload_n 0 hX dX9_bounded_6 rfl rfl ?_
  refine wm_iload_n 1 hX dX9_bounded_7 rfl rfl ?_
  refine wm_lload_n 2 hX dX9_bounded_8 rfl rfl ?_
  refine wm_lload 3 hX dX9_bounded_9 rfl ?_
  refine wm_cVv (st := []) hX hz (i_Md_plain a0 i1 l2 l4) Ckd.of rfl cal_Md_plain wd_1001 rfl (fits_Md_bounded_Md_plain) (Nat.le_of_ble_eq_true rfl) dX9_bounded_11 ?_
  refine wm_aload_n 0 hX dX9_bounded_14 rfl rfl ?_
  refine wm_gR hX fl_RX9_51 dX9_bounded_15 (fun v1 => ?_)
  refine wm_bipush (6 : Int32) hX dX9_bounded_18 (by decide) ?_
  refine wm_iload_n 1 hX dX9_bounded_20 rfl rfl ?_
  refine wm_imul hX dX9_bounded_21 ?_
  refine wm_ldL hX dX9_bounded_22 (fun v2 => ?_)
  refine wm_lstore [(6, .long v2), (0, .ref a0), (1, .int i1), (2, .long l2), (4, .long l4)] hX dX9_bounded_23 (by decide) rfl ?_
  refine wm_lload 0 hX dX9_bounded_25 rfl ?_
  refine wm_aload_n 1 hX dX9_bounded_27 rfl rfl ?_
  refine wm_gR hX fl_RX9_30 dX9_bounded_28 (fun v3 => ?_)
  refine wm_iload_n 2 hX dX9_bounded_31 rfl rfl ?_
  refine wm_ldL hX dX9_bounded_32 (fun v4 => ?_)
  refine wm_lif_le 46 hX dX9_bounded_33 dX9_bounded_34 (by decide) ?_ ?_
  · refine wm_lload 0 hX dX9_bounded_46 rfl ?_
    refine wm_aload_n 1 hX dX9_bounded_48 rfl rfl ?_
    refine wm_gR hX fl_RX9_30 dX9_bounded_49 (fun v5 => ?_)
    refine wm_iload_n 2 hX dX9_bounded_52 rfl rfl ?_
    refine wm_ldL hX dX9_bounded_53 (fun v6 => ?_)
    refine wm_lneg hX dX9_bounded_54 ?_
    refine wm_lif_ge 69 hX dX9_bounded_55 dX9_bounded_56 (by decide) ?_ ?_
    · refine wm_lload 0 hX dX9_bounded_69 rfl ?_
      refine wm_sub [1, 2, 0] [(0, .ref a0), (1, .int i1), (6, .long v2)] rfl ?_
      exact w_Md_bounded_71 hX hr hz a0 i1 v2 v2
    · refine wm_aload_n 1 hX dX9_bounded_59 rfl rfl ?_
      refine wm_gR hX fl_RX9_30 dX9_bounded_60 (fun v7 => ?_)
      refine wm_iload_n 2 hX dX9_bounded_63 rfl rfl ?_
      refine wm_ldL hX dX9_bounded_64 (fun v8 => ?_)
      refine wm_lneg hX dX9_bounded_65 ?_
      refine wm_goto (tgt := 71) hX dX9_bounded_66 (by decide) ?_
      refine wm_sub [1, 2, 0] [(0, .ref a0), (1, .int i1), (6, .long v2)] rfl ?_
      exact w_Md_bounded_71 hX hr hz a0 i1 v2 (-v8)
  · refine wm_aload_n 1 hX dX9_bounded_37 rfl rfl ?_
    refine wm_gR hX fl_RX9_30 dX9_bounded_38 (fun v9 => ?_)
    refine wm_iload_n 2 hX dX9_bounded_41 rfl rfl ?_
    refine wm_ldL hX dX9_bounded_42 (fun v10 => ?_)
    refine wm_goto (tgt := 71) hX dX9_bounded_43 (by decide) ?_
    refine wm_sub [1, 2, 0] [(0, .ref a0), (1, .int i1), (6, .long v2)] rfl ?_
    exact w_Md_bounded_71 hX hr hz a0 i1 v2 v10
theorem i_Md_bounded (a0 : Nat) (i1 : Int32) (l2 : Int64) (l4 : Int64) : Im false yX9_bounded cX9_bounded 10 none rm_Md_bounded injV [.ref a0, .int i1, .long l2, .long l4] (m_Md_bounded a0 i1 l2 l4) := Im.of RX9 (by decide) rfl (Nat.le_of_ble_eq_true rfl) (fun X hX hr hn hz => w_Md_bounded hX hr hz a0 i1 l2 l4)
set_option maxRecDepth 20000 in
theorem w_Md_takes {X : CX Unit} (hX : Cx X RX9 cX9_takes 8 rm_Md_takes) (hr : Rt X injV none rm_Md_takes.cells rm_Md_takes.slots) (hz : Zx X false) (a0 : Nat) (i1 : Int32) (l2 : Int64) (l4 : Int64) (l6 : Int64) : WM X 0 [(0, .ref a0), (1, .int i1), (2, .long l2), (4, .long l4), (6, .long l6)] [] 0 0 (m_Md_takes a0 i1 l2 l4 l6) := by
  unfold m_Md_takes
  refine wm_ckd ?_
  refine wm_aload_n 0 hX dX9_takes_0 rfl rfl ?_
  refine wm_gR hX fl_RX9_27 dX9_takes_1 (fun v1 => ?_)
  refine wm_iload_n 1 hX dX9_takes_4 rfl rfl ?_
  refine wm_ldI hX dX9_takes_5 (fun v2 => ?_)
  refine wm_tsw [36, 47, 58, 69] 145 hX dX9_takes_6 (by decide) (by decide) (by decide) ⟨?_, ?_, ?_, ?_, trivial⟩ ?_
  · refine wm_aload_n 0 hX dX9_takes_36 rfl rfl ?_
    refine wm_iload_n 1 hX dX9_takes_37 rfl rfl ?_
    refine wm_lload_n 2 hX dX9_takes_38 rfl rfl ?_
    refine wm_lload 3 hX dX9_takes_39 rfl ?_
    refine wm_cVv (st := []) hX hz (i_Md_plain a0 i1 l2 l4) Ckd.of rfl cal_Md_plain wd_1001 rfl (fits_Md_takes_Md_plain) (Nat.le_of_ble_eq_true rfl) dX9_takes_41 ?_
    refine wm_goto (tgt := 170) hX dX9_takes_44 (by decide) ?_
    exact wm_vret hX hr dX9_takes_170
  · refine wm_aload_n 0 hX dX9_takes_47 rfl rfl ?_
    refine wm_iload_n 1 hX dX9_takes_48 rfl rfl ?_
    refine wm_lload_n 2 hX dX9_takes_49 rfl rfl ?_
    refine wm_lload 3 hX dX9_takes_50 rfl ?_
    refine wm_cVv (st := []) hX hz (i_Md_leaky a0 i1 l2 l4) Ckd.of rfl cal_Md_leaky wd_1009 rfl (fits_Md_takes_Md_leaky) (Nat.le_of_ble_eq_true rfl) dX9_takes_52 ?_
    refine wm_goto (tgt := 170) hX dX9_takes_55 (by decide) ?_
    exact wm_vret hX hr dX9_takes_170
  · refine wm_aload_n 0 hX dX9_takes_58 rfl rfl ?_
    refine wm_iload_n 1 hX dX9_takes_59 rfl rfl ?_
    refine wm_lload_n 2 hX dX9_takes_60 rfl rfl ?_
    refine wm_lload 3 hX dX9_takes_61 rfl ?_
    refine wm_cVv (st := []) hX hz (i_Md_bounded a0 i1 l2 l4) Ckd.of rfl cal_Md_bounded wd_1013 rfl (fits_Md_takes_Md_bounded) (Nat.le_of_ble_eq_true rfl) dX9_takes_63 ?_
    refine wm_goto (tgt := 170) hX dX9_takes_66 (by decide) ?_
    exact wm_vret hX hr dX9_takes_170
  · refine wm_aload_n 0 hX dX9_takes_69 rfl rfl ?_
    refine wm_bipush (13 : Int32) hX dX9_takes_70 (by decide) ?_
    refine wm_cVv (st := []) hX hz (i_Md_writes a0 (13 : Int32)) Ckd.of rfl cal_Md_writes wd_1005 rfl (fits_Md_takes_Md_writes) (Nat.le_of_ble_eq_true rfl) dX9_takes_72 ?_
    refine wm_aload_n 0 hX dX9_takes_75 rfl rfl ?_
    refine wm_iload_n 1 hX dX9_takes_76 rfl rfl ?_
    refine wm_lload_n 2 hX dX9_takes_77 rfl rfl ?_
    refine wm_aload_n 0 hX dX9_takes_78 rfl rfl ?_
    refine wm_gR hX fl_RX9_51 dX9_takes_79 (fun v3 => ?_)
    refine wm_bipush (6 : Int32) hX dX9_takes_82 (by decide) ?_
    refine wm_iload_n 1 hX dX9_takes_84 rfl rfl ?_
    refine wm_imul hX dX9_takes_85 ?_
    refine wm_iconst (1 : Int32) hX dX9_takes_86 (by decide) ?_
    refine wm_iadd hX dX9_takes_87 ?_
    refine wm_ldL hX dX9_takes_88 (fun v4 => ?_)
    refine wm_aload_n 0 hX dX9_takes_89 rfl rfl ?_
    refine wm_gR hX fl_RX9_33 dX9_takes_90 (fun v5 => ?_)
    refine wm_iload_n 1 hX dX9_takes_93 rfl rfl ?_
    refine wm_ldI hX dX9_takes_94 (fun v6 => ?_)
    refine wm_i2l hX dX9_takes_95 ?_
    refine wm_lmul hX dX9_takes_96 ?_
    refine wm_ldc2 hX dX9_takes_97 wd_953 ?_
    refine wm_ldv hX dX9_takes_100 (fun v7 => ?_)
    refine wm_lsub hX dX9_takes_101 ?_
    refine wm_lload 3 hX dX9_takes_102 rfl ?_
    refine wm_cVv (st := []) hX hz (i_Md_bounded a0 i1 (l2 - v7) l4) Ckd.of rfl cal_Md_bounded wd_1013 rfl (fits_Md_takes_Md_bounded) (Nat.le_of_ble_eq_true rfl) dX9_takes_104 ?_
    refine wm_aload_n 0 hX dX9_takes_107 rfl rfl ?_
    refine wm_gR hX fl_RX9_51 dX9_takes_108 (fun v8 => ?_)
    refine wm_bipush (6 : Int32) hX dX9_takes_111 (by decide) ?_
    refine wm_iload_n 1 hX dX9_takes_113 rfl rfl ?_
    refine wm_imul hX dX9_takes_114 ?_
    refine wm_iconst (1 : Int32) hX dX9_takes_115 (by decide) ?_
    refine wm_iadd hX dX9_takes_116 ?_
    refine wm_dup2 hX dX9_takes_117 rfl rfl ?_
    refine wm_ldL hX dX9_takes_118 (fun v9 => ?_)
    refine wm_aload_n 0 hX dX9_takes_119 rfl rfl ?_
    refine wm_gR hX fl_RX9_51 dX9_takes_120 (fun v10 => ?_)
    refine wm_bipush (6 : Int32) hX dX9_takes_123 (by decide) ?_
    refine wm_iload_n 1 hX dX9_takes_125 rfl rfl ?_
    refine wm_imul hX dX9_takes_126 ?_
    refine wm_ldL hX dX9_takes_127 (fun v11 => ?_)
    refine wm_aload_n 0 hX dX9_takes_128 rfl rfl ?_
    refine wm_gR hX fl_RX9_33 dX9_takes_129 (fun v12 => ?_)
    refine wm_iload_n 1 hX dX9_takes_132 rfl rfl ?_
    refine wm_ldI hX dX9_takes_133 (fun v13 => ?_)
    refine wm_i2l hX dX9_takes_134 ?_
    refine wm_lmul hX dX9_takes_135 ?_
    refine wm_ldc2 hX dX9_takes_136 wd_953 ?_
    refine wm_ldv hX dX9_takes_139 (fun v14 => ?_)
    refine wm_ladd hX dX9_takes_140 ?_
    refine wm_stL hX dX9_takes_141 ?_
    refine wm_goto (tgt := 170) hX dX9_takes_142 (by decide) ?_
    exact wm_vret hX hr dX9_takes_170
  · refine wm_aload_n 0 hX dX9_takes_145 rfl rfl ?_
    refine wm_bipush (14 : Int32) hX dX9_takes_146 (by decide) ?_
    refine wm_cVv (st := []) hX hz (i_Md_writes a0 (14 : Int32)) Ckd.of rfl cal_Md_writes wd_1005 rfl (fits_Md_takes_Md_writes) (Nat.le_of_ble_eq_true rfl) dX9_takes_148 ?_
    refine wm_aload_n 0 hX dX9_takes_151 rfl rfl ?_
    refine wm_iload_n 1 hX dX9_takes_152 rfl rfl ?_
    refine wm_lload_n 2 hX dX9_takes_153 rfl rfl ?_
    refine wm_aload_n 0 hX dX9_takes_154 rfl rfl ?_
    refine wm_gR hX fl_RX9_33 dX9_takes_155 (fun v15 => ?_)
    refine wm_iload_n 1 hX dX9_takes_158 rfl rfl ?_
    refine wm_ldI hX dX9_takes_159 (fun v16 => ?_)
    refine wm_i2l hX dX9_takes_160 ?_
    refine wm_lload 4 hX dX9_takes_161 rfl ?_
    refine wm_lmul hX dX9_takes_163 ?_
    refine wm_ladd hX dX9_takes_164 ?_
    refine wm_lload 3 hX dX9_takes_165 rfl ?_
    refine wm_cVv (st := []) hX hz (i_Md_leaky a0 i1 (l2 + ((v16.toInt64) * l6)) l4) Ckd.of rfl cal_Md_leaky wd_1009 rfl (fits_Md_takes_Md_leaky) (Nat.le_of_ble_eq_true rfl) dX9_takes_167 ?_
    exact wm_vret hX hr dX9_takes_170
theorem i_Md_takes (a0 : Nat) (i1 : Int32) (l2 : Int64) (l4 : Int64) (l6 : Int64) : Im false yX9_takes cX9_takes 8 none rm_Md_takes injV [.ref a0, .int i1, .long l2, .long l4, .long l6] (m_Md_takes a0 i1 l2 l4 l6) := Im.of RX9 (by decide) rfl (Nat.le_of_ble_eq_true rfl) (fun X hX hr hn hz => w_Md_takes hX hr hz a0 i1 l2 l4 l6)
