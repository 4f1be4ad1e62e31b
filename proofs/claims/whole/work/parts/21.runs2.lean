set_option maxRecDepth 20000 in
theorem w_Ob_leaving {X : CX Int64} (hX : Cx X RX8 cX8_leaving 2 rm_Ob_leaving) (hr : Rt X injL (some .long) rm_Ob_leaving.cells rm_Ob_leaving.slots) (hz : Zx X false) (a0 : Nat) (i1 : Int32) : WM X 0 [(0, .ref a0), (1, .int i1)] [] 0 0 (m_Ob_leaving a0 i1) := by
  unfold m_Ob_leaving
  refine wm_ckd ?_
  refine wm_iload_n 1 hX dX8_leaving_0 rfl rfl ?_
  refine wm_if_lt 27 hX dX8_leaving_1 (by decide) ?_ ?_
  · refine wm_lconst (0 : Int64) hX dX8_leaving_27 (by decide) ?_
    exact wm_lret hX hr dX8_leaving_28
  · refine wm_iload_n 1 hX dX8_leaving_4 rfl rfl ?_
    refine wm_aload_n 0 hX dX8_leaving_5 rfl rfl ?_
    refine wm_gR hX fl_RX8_45 dX8_leaving_6 (fun v1 => ?_)
    refine wm_gI hX fl_RX8_258 dX8_leaving_9 (fun v2 => ?_)
    refine wm_icmp_ge 27 hX dX8_leaving_12 (by decide) ?_ ?_
    · refine wm_lconst (0 : Int64) hX dX8_leaving_27 (by decide) ?_
      exact wm_lret hX hr dX8_leaving_28
    · refine wm_aload_n 0 hX dX8_leaving_15 rfl rfl ?_
      refine wm_gR hX fl_RX8_45 dX8_leaving_16 (fun v3 => ?_)
      refine wm_gR hX fl_RX8_261 dX8_leaving_19 (fun v4 => ?_)
      refine wm_iload_n 1 hX dX8_leaving_22 rfl rfl ?_
      refine wm_ldL hX dX8_leaving_23 (fun v5 => ?_)
      refine wm_goto (tgt := 28) hX dX8_leaving_24 (by decide) ?_
      exact wm_lret hX hr dX8_leaving_28
theorem i_Ob_leaving (a0 : Nat) (i1 : Int32) : Im false yX8_leaving cX8_leaving 2 (some .long) rm_Ob_leaving injL [.ref a0, .int i1] (m_Ob_leaving a0 i1) := Im.of RX8 (by decide) rfl (Nat.le_of_ble_eq_true rfl) (fun X hX hr hn hz => w_Ob_leaving hX hr hz a0 i1)
set_option maxRecDepth 20000 in
theorem w_Md_leaving {X : CX Int64} (hX : Cx X RX9 cX9_leaving 2 rm_Md_leaving) (hr : Rt X injL (some .long) rm_Md_leaving.cells rm_Md_leaving.slots) (hz : Zx X false) (a0 : Nat) (i1 : Int32) : WM X 0 [(0, .ref a0), (1, .int i1)] [] 0 0 (m_Md_leaving a0 i1) := by
  unfold m_Md_leaving
  refine wm_ckd ?_
  refine wm_iload_n 1 hX dX9_leaving_0 rfl rfl ?_
  refine wm_i2l hX dX9_leaving_1 ?_
  refine wm_lconst (0 : Int64) hX dX9_leaving_2 (by decide) ?_
  refine wm_aload_n 0 hX dX9_leaving_3 rfl rfl ?_
  refine wm_gI hX fl_RX9_263 dX9_leaving_4 (fun v1 => ?_)
  refine wm_iconst (1 : Int32) hX dX9_leaving_7 (by decide) ?_
  refine wm_isub hX dX9_leaving_8 ?_
  refine wm_i2l hX dX9_leaving_9 ?_
  refine wm_cSi (st := []) hX hz (i_Md_in (i1.toInt64) (0 : Int64) ((v1 - (1 : Int32)).toInt64)) cal_Md_in wd_896 rfl (fits_Md_leaving_Md_in) (Nat.le_of_ble_eq_true rfl) dX9_leaving_10 (fun v2 => ?_)
  refine wm_if_eq 25 hX dX9_leaving_13 (by decide) ?_ ?_
  · refine wm_lconst (0 : Int64) hX dX9_leaving_25 (by decide) ?_
    exact wm_lret hX hr dX9_leaving_26
  · refine wm_aload_n 0 hX dX9_leaving_16 rfl rfl ?_
    refine wm_gR hX fl_RX9_81 dX9_leaving_17 (fun v3 => ?_)
    refine wm_iload_n 1 hX dX9_leaving_20 rfl rfl ?_
    refine wm_ldL hX dX9_leaving_21 (fun v4 => ?_)
    refine wm_goto (tgt := 26) hX dX9_leaving_22 (by decide) ?_
    exact wm_lret hX hr dX9_leaving_26
theorem i_Md_leaving (a0 : Nat) (i1 : Int32) : Im false yX9_leaving cX9_leaving 2 (some .long) rm_Md_leaving injL [.ref a0, .int i1] (m_Md_leaving a0 i1) := Im.of RX9 (by decide) rfl (Nat.le_of_ble_eq_true rfl) (fun X hX hr hn hz => w_Md_leaving hX hr hz a0 i1)
set_option maxRecDepth 20000 in
theorem w_J6_numberOfTrailingZeros_0f7a4_62 {X : CX Int32} (hX : Cx X RJ6 cJ6_numberOfTrailingZeros_0f7a4 2 rm_J6_numberOfTrailingZeros_0f7a4) (hr : Rt X injI (some .int) rm_J6_numberOfTrailingZeros_0f7a4.cells rm_J6_numberOfTrailingZeros_0f7a4.slots) (hz : Zx X false) (i0 : Int32) (i1 : Int32) : WM X 62 [(0, .int i0), (1, .int i1)] [] 0 0 (m_J6_numberOfTrailingZeros_0f7a4_62 i0 i1) := by
  unfold m_J6_numberOfTrailingZeros_0f7a4_62
  refine wm_iload_n 0 hX dJ6_numberOfTrailingZeros_0f7a4_62 rfl rfl ?_
  refine wm_iconst (4 : Int32) hX dJ6_numberOfTrailingZeros_0f7a4_63 (by decide) ?_
  refine wm_icmp_le 74 hX dJ6_numberOfTrailingZeros_0f7a4_64 (by decide) ?_ ?_
  · refine wm_iload_n 1 hX dJ6_numberOfTrailingZeros_0f7a4_74 rfl rfl ?_
    refine wm_iload_n 0 hX dJ6_numberOfTrailingZeros_0f7a4_75 rfl rfl ?_
    refine wm_iconst (1 : Int32) hX dJ6_numberOfTrailingZeros_0f7a4_76 (by decide) ?_
    refine wm_iushr hX dJ6_numberOfTrailingZeros_0f7a4_77 ?_
    refine wm_iadd hX dJ6_numberOfTrailingZeros_0f7a4_78 ?_
    exact wm_iret hX hr dJ6_numberOfTrailingZeros_0f7a4_79
  · refine wm_iinc (i1 + 2) 1 [(1, .int (i1 + 2)), (0, .int i0)] hX dJ6_numberOfTrailingZeros_0f7a4_67 rfl rfl (by decide) rfl ?_
    refine wm_iload_n 1 hX dJ6_numberOfTrailingZeros_0f7a4_70 rfl rfl ?_
    refine wm_iconst (2 : Int32) hX dJ6_numberOfTrailingZeros_0f7a4_71 (by decide) ?_
    refine wm_iushr hX dJ6_numberOfTrailingZeros_0f7a4_72 ?_
    refine wm_leti (fun v1 => ?_)
    refine wm_istore_n [(0, .int v1), (1, .int (i1 + 2))] hX dJ6_numberOfTrailingZeros_0f7a4_73 rfl (by decide) rfl ?_
    refine wm_iload_n 1 hX dJ6_numberOfTrailingZeros_0f7a4_74 rfl rfl ?_
    refine wm_iload_n 0 hX dJ6_numberOfTrailingZeros_0f7a4_75 rfl rfl ?_
    refine wm_iconst (1 : Int32) hX dJ6_numberOfTrailingZeros_0f7a4_76 (by decide) ?_
    refine wm_iushr hX dJ6_numberOfTrailingZeros_0f7a4_77 ?_
    refine wm_iadd hX dJ6_numberOfTrailingZeros_0f7a4_78 ?_
    exact wm_iret hX hr dJ6_numberOfTrailingZeros_0f7a4_79
set_option maxRecDepth 20000 in
theorem w_J6_numberOfTrailingZeros_0f7a4_49 {X : CX Int32} (hX : Cx X RJ6 cJ6_numberOfTrailingZeros_0f7a4 2 rm_J6_numberOfTrailingZeros_0f7a4) (hr : Rt X injI (some .int) rm_J6_numberOfTrailingZeros_0f7a4.cells rm_J6_numberOfTrailingZeros_0f7a4.slots) (hz : Zx X false) (i0 : Int32) (i1 : Int32) : WM X 49 [(0, .int i0), (1, .int i1)] [] 0 0 (m_J6_numberOfTrailingZeros_0f7a4_49 i0 i1) := by
  unfold m_J6_numberOfTrailingZeros_0f7a4_49
  refine wm_iload_n 0 hX dJ6_numberOfTrailingZeros_0f7a4_49 rfl rfl ?_
  refine wm_bipush (16 : Int32) hX dJ6_numberOfTrailingZeros_0f7a4_50 (by decide) ?_
  refine wm_icmp_le 62 hX dJ6_numberOfTrailingZeros_0f7a4_52 (by decide) ?_ ?_
  · exact w_J6_numberOfTrailingZeros_0f7a4_62 hX hr hz i0 i1
  · refine wm_iinc (i1 + 4) 1 [(1, .int (i1 + 4)), (0, .int i0)] hX dJ6_numberOfTrailingZeros_0f7a4_55 rfl rfl (by decide) rfl ?_
    refine wm_iload_n 1 hX dJ6_numberOfTrailingZeros_0f7a4_58 rfl rfl ?_
    refine wm_iconst (4 : Int32) hX dJ6_numberOfTrailingZeros_0f7a4_59 (by decide) ?_
    refine wm_iushr hX dJ6_numberOfTrailingZeros_0f7a4_60 ?_
    refine wm_leti (fun v1 => ?_)
    refine wm_istore_n [(0, .int v1), (1, .int (i1 + 4))] hX dJ6_numberOfTrailingZeros_0f7a4_61 rfl (by decide) rfl ?_
    exact w_J6_numberOfTrailingZeros_0f7a4_62 hX hr hz v1 (i1 + 4)
set_option maxRecDepth 20000 in
theorem w_J6_numberOfTrailingZeros_0f7a4_34 {X : CX Int32} (hX : Cx X RJ6 cJ6_numberOfTrailingZeros_0f7a4 2 rm_J6_numberOfTrailingZeros_0f7a4) (hr : Rt X injI (some .int) rm_J6_numberOfTrailingZeros_0f7a4.cells rm_J6_numberOfTrailingZeros_0f7a4.slots) (hz : Zx X false) (i0 : Int32) (i1 : Int32) : WM X 34 [(0, .int i0), (1, .int i1)] [] 0 0 (m_J6_numberOfTrailingZeros_0f7a4_34 i0 i1) := by
  unfold m_J6_numberOfTrailingZeros_0f7a4_34
  refine wm_iload_n 0 hX dJ6_numberOfTrailingZeros_0f7a4_34 rfl rfl ?_
  refine wm_sipush (256 : Int32) hX dJ6_numberOfTrailingZeros_0f7a4_35 (by decide) ?_
  refine wm_icmp_le 49 hX dJ6_numberOfTrailingZeros_0f7a4_38 (by decide) ?_ ?_
  · exact w_J6_numberOfTrailingZeros_0f7a4_49 hX hr hz i0 i1
  · refine wm_iinc (i1 + 8) 1 [(1, .int (i1 + 8)), (0, .int i0)] hX dJ6_numberOfTrailingZeros_0f7a4_41 rfl rfl (by decide) rfl ?_
    refine wm_iload_n 1 hX dJ6_numberOfTrailingZeros_0f7a4_44 rfl rfl ?_
    refine wm_bipush (8 : Int32) hX dJ6_numberOfTrailingZeros_0f7a4_45 (by decide) ?_
    refine wm_iushr hX dJ6_numberOfTrailingZeros_0f7a4_47 ?_
    refine wm_leti (fun v1 => ?_)
    refine wm_istore_n [(0, .int v1), (1, .int (i1 + 8))] hX dJ6_numberOfTrailingZeros_0f7a4_48 rfl (by decide) rfl ?_
    exact w_J6_numberOfTrailingZeros_0f7a4_49 hX hr hz v1 (i1 + 8)
set_option maxRecDepth 20000 in
theorem w_J6_numberOfTrailingZeros_0f7a4 {X : CX Int32} (hX : Cx X RJ6 cJ6_numberOfTrailingZeros_0f7a4 2 rm_J6_numberOfTrailingZeros_0f7a4) (hr : Rt X injI (some .int) rm_J6_numberOfTrailingZeros_0f7a4.cells rm_J6_numberOfTrailingZeros_0f7a4.slots) (hz : Zx X false) (i0 : Int32) : WM X 0 [(0, .int i0)] [] 0 0 (m_J6_numberOfTrailingZeros_0f7a4 i0) := by
  unfold m_J6_numberOfTrailingZeros_0f7a4
  refine wm_iload_n 0 hX dJ6_numberOfTrailingZeros_0f7a4_0 rfl rfl ?_
  refine wm_iconst (-1 : Int32) hX dJ6_numberOfTrailingZeros_0f7a4_1 (by decide) ?_
  refine wm_ixor hX dJ6_numberOfTrailingZeros_0f7a4_2 ?_
  refine wm_iload_n 0 hX dJ6_numberOfTrailingZeros_0f7a4_3 rfl rfl ?_
  refine wm_iconst (1 : Int32) hX dJ6_numberOfTrailingZeros_0f7a4_4 (by decide) ?_
  refine wm_isub hX dJ6_numberOfTrailingZeros_0f7a4_5 ?_
  refine wm_iand hX dJ6_numberOfTrailingZeros_0f7a4_6 ?_
  refine wm_leti (fun v1 => ?_)
  refine wm_istore_n [(0, .int v1)] hX dJ6_numberOfTrailingZeros_0f7a4_7 rfl (by decide) rfl ?_
  refine wm_iload_n 0 hX dJ6_numberOfTrailingZeros_0f7a4_8 rfl rfl ?_
  refine wm_if_gt 17 hX dJ6_numberOfTrailingZeros_0f7a4_9 (by decide) ?_ ?_
  · refine wm_iconst (1 : Int32) hX dJ6_numberOfTrailingZeros_0f7a4_17 (by decide) ?_
    refine wm_istore_n [(1, .int (1 : Int32)), (0, .int v1)] hX dJ6_numberOfTrailingZeros_0f7a4_18 rfl (by decide) rfl ?_
    refine wm_iload_n 1 hX dJ6_numberOfTrailingZeros_0f7a4_19 rfl rfl ?_
    refine wm_ldcw hX dJ6_numberOfTrailingZeros_0f7a4_20 wd_730 ?_
    refine wm_icmp_le 34 hX dJ6_numberOfTrailingZeros_0f7a4_23 (by decide) ?_ ?_
    · refine wm_sub [1, 0] [(0, .int v1), (1, .int (1 : Int32))] rfl ?_
      exact w_J6_numberOfTrailingZeros_0f7a4_34 hX hr hz v1 (1 : Int32)
    · refine wm_iinc ((1 : Int32) + 16) 0 [(1, .int ((1 : Int32) + 16)), (0, .int v1)] hX dJ6_numberOfTrailingZeros_0f7a4_26 rfl rfl (by decide) rfl ?_
      refine wm_iload_n 1 hX dJ6_numberOfTrailingZeros_0f7a4_29 rfl rfl ?_
      refine wm_bipush (16 : Int32) hX dJ6_numberOfTrailingZeros_0f7a4_30 (by decide) ?_
      refine wm_iushr hX dJ6_numberOfTrailingZeros_0f7a4_32 ?_
      refine wm_leti (fun v2 => ?_)
      refine wm_istore_n [(0, .int v2), (1, .int ((1 : Int32) + 16))] hX dJ6_numberOfTrailingZeros_0f7a4_33 rfl (by decide) rfl ?_
      exact w_J6_numberOfTrailingZeros_0f7a4_34 hX hr hz v2 ((1 : Int32) + 16)
  · refine wm_iload_n 0 hX dJ6_numberOfTrailingZeros_0f7a4_12 rfl rfl ?_
    refine wm_bipush (32 : Int32) hX dJ6_numberOfTrailingZeros_0f7a4_13 (by decide) ?_
    refine wm_iand hX dJ6_numberOfTrailingZeros_0f7a4_15 ?_
    exact wm_iret hX hr dJ6_numberOfTrailingZeros_0f7a4_16
theorem i_J6_numberOfTrailingZeros_0f7a4 (i0 : Int32) : Im false yJ6_numberOfTrailingZeros_0f7a4 cJ6_numberOfTrailingZeros_0f7a4 2 (some .int) rm_J6_numberOfTrailingZeros_0f7a4 injI [.int i0] (m_J6_numberOfTrailingZeros_0f7a4 i0) := Im.of RJ6 (by decide) rfl (Nat.le_of_ble_eq_true rfl) (fun X hX hr hn hz => w_J6_numberOfTrailingZeros_0f7a4 hX hr hz i0)
set_option maxRecDepth 20000 in
theorem w_Ws_isOne {X : CX Int32} (hX : Cx X RX7 cX7_isOne 3 rm_Ws_isOne) (hr : Rt X injI (some .boolean) rm_Ws_isOne.cells rm_Ws_isOne.slots) (hz : Zx X false) (i0 : Int32) (i1 : Int32) (i2 : Int32) : WM X 0 [(0, .int i0), (1, .int i1), (2, .int i2)] [] 0 0 (m_Ws_isOne i0 i1 i2) := by
  unfold m_Ws_isOne
  refine wm_iload_n 0 hX dX7_isOne_0 rfl rfl ?_
  refine wm_iload_n 2 hX dX7_isOne_1 rfl rfl ?_
  refine wm_iconst (1 : Int32) hX dX7_isOne_2 (by decide) ?_
  refine wm_isub hX dX7_isOne_3 ?_
  refine wm_iload_n 1 hX dX7_isOne_4 rfl rfl ?_
  refine wm_isub hX dX7_isOne_5 ?_
  refine wm_iushr hX dX7_isOne_6 ?_
  refine wm_iconst (1 : Int32) hX dX7_isOne_7 (by decide) ?_
  refine wm_iand hX dX7_isOne_8 ?_
  refine wm_iconst (1 : Int32) hX dX7_isOne_9 (by decide) ?_
  refine wm_icmp_ne 17 hX dX7_isOne_10 (by decide) ?_ ?_
  · refine wm_iconst (0 : Int32) hX dX7_isOne_17 (by decide) ?_
    exact wm_zret hX hr dX7_isOne_18
  · refine wm_iconst (1 : Int32) hX dX7_isOne_13 (by decide) ?_
    refine wm_goto (tgt := 18) hX dX7_isOne_14 (by decide) ?_
    exact wm_zret hX hr dX7_isOne_18
theorem i_Ws_isOne (i0 : Int32) (i1 : Int32) (i2 : Int32) : Im false yX7_isOne cX7_isOne 3 (some .boolean) rm_Ws_isOne injI [.int i0, .int i1, .int i2] (m_Ws_isOne i0 i1 i2) := Im.of RX7 (by decide) rfl (Nat.le_of_ble_eq_true rfl) (fun X hX hr hn hz => w_Ws_isOne hX hr hz i0 i1 i2)
set_option maxRecDepth 20000 in
theorem wb_Ws_goOn_3 {X : CX Int32} (hX : Cx X RX7 cX7_goOn 9 rm_Ws_goOn) (hr : Rt X injI (some .boolean) rm_Ws_goOn.cells rm_Ws_goOn.slots) (hz : Zx X false) {k3 : Nat → Int32 → Int32 → Int64 → Int64 → Int32 → M Int32} (h3 : ∀ (a0 : Nat) (i1 : Int32) (i3 : Int32) (l4 : Int64) (l6 : Int64) (i8 : Int32), WM X 3 [(0, .ref a0), (1, .int i1), (3, .int i3), (4, .long l4), (6, .long l6), (8, .int i8)] [] 0 0 (k3 a0 i1 i3 l4 l6 i8)) (a0 : Nat) (i1 : Int32) (i3 : Int32) (l4 : Int64) (l6 : Int64) (i8 : Int32) : WM X 3 [(0, .ref a0), (1, .int i1), (3, .int i3), (4, .long l4), (6, .long l6), (8, .int i8)] [] 0 0 (b_Ws_goOn_3 k3 a0 i1 i3 l4 l6 i8) := by
  unfold b_Ws_goOn_3
  refine wm_iload 5 hX dX7_goOn_3 rfl ?_
  refine wm_iload_n 2 hX dX7_goOn_5 rfl rfl ?_
  refine wm_icmp_ge 68 hX dX7_goOn_6 (by decide) ?_ ?_
  · refine wm_iconst (1 : Int32) hX dX7_goOn_68 (by decide) ?_
    exact wm_zret hX hr dX7_goOn_69
  · refine wm_aload_n 0 hX dX7_goOn_9 rfl rfl ?_
    refine wm_gR hX fl_RX7_11 dX7_goOn_10 (fun v1 => ?_)
    refine wm_iload 5 hX dX7_goOn_13 rfl ?_
    refine wm_iconst (1 : Int32) hX dX7_goOn_15 (by decide) ?_
    refine wm_iadd hX dX7_goOn_16 ?_
    refine wm_ldR (by decide) hX dX7_goOn_17 (fun v2 => ?_)
    refine wm_aload_n 0 hX dX7_goOn_18 rfl rfl ?_
    refine wm_gR hX fl_RX7_11 dX7_goOn_19 (fun v3 => ?_)
    refine wm_iload 5 hX dX7_goOn_22 rfl ?_
    refine wm_ldR (by decide) hX dX7_goOn_24 (fun v4 => ?_)
    refine wm_cVv (st := []) hX hz (i_Tw_becomeLike v2 v4) Ckd.of rfl cal_Tw_becomeLike wd_735 rfl (fits_Ws_goOn_Tw_becomeLike) (Nat.le_of_ble_eq_true rfl) dX7_goOn_25 ?_
    refine wm_aload_n 0 hX dX7_goOn_28 rfl rfl ?_
    refine wm_gR hX fl_RX7_11 dX7_goOn_29 (fun v5 => ?_)
    refine wm_iload 5 hX dX7_goOn_32 rfl ?_
    refine wm_iconst (1 : Int32) hX dX7_goOn_34 (by decide) ?_
    refine wm_iadd hX dX7_goOn_35 ?_
    refine wm_ldR (by decide) hX dX7_goOn_36 (fun v6 => ?_)
    refine wm_iload_n 1 hX dX7_goOn_37 rfl rfl ?_
    refine wm_iload 5 hX dX7_goOn_38 rfl ?_
    refine wm_iload_n 2 hX dX7_goOn_40 rfl rfl ?_
    refine wm_cSi (st := [.ref v6]) hX hz (i_Ws_isOne i1 i8 i3) cal_Ws_isOne wd_736 rfl (fits_Ws_goOn_Ws_isOne) (Nat.le_of_ble_eq_true rfl) dX7_goOn_41 (fun v7 => ?_)
    refine wm_if_eq 52 hX dX7_goOn_44 (by decide) ?_ ?_
    · refine wm_lload 3 hX dX7_goOn_52 rfl ?_
      refine wm_cVi (st := []) hX hz (i_Tw_makeStep v6 l4) Ckd.of rfl cal_Tw_makeStep wd_739 rfl (fits_Ws_goOn_Tw_makeStep) (Nat.le_of_ble_eq_true rfl) dX7_goOn_54 (fun v8 => ?_)
      refine wm_if_ne 62 hX dX7_goOn_57 (by decide) ?_ ?_
      · refine wm_iinc (i8 + 1) 5 [(8, .int (i8 + 1)), (0, .ref a0), (1, .int i1), (3, .int i3), (4, .long l4), (6, .long l6)] hX dX7_goOn_62 rfl rfl (by decide) rfl ?_
        refine wm_goto (tgt := 3) hX dX7_goOn_65 (by decide) ?_
        refine wm_sub [1, 2, 3, 4, 5, 0] [(0, .ref a0), (1, .int i1), (3, .int i3), (4, .long l4), (6, .long l6), (8, .int (i8 + 1))] rfl ?_
        exact h3 a0 i1 i3 l4 l6 (i8 + 1)
      · refine wm_iconst (0 : Int32) hX dX7_goOn_60 (by decide) ?_
        exact wm_zret hX hr dX7_goOn_61
    · refine wm_lload 4 hX dX7_goOn_47 rfl ?_
      refine wm_goto (tgt := 54) hX dX7_goOn_49 (by decide) ?_
      refine wm_cVi (st := []) hX hz (i_Tw_makeStep v6 l6) Ckd.of rfl cal_Tw_makeStep wd_739 rfl (fits_Ws_goOn_Tw_makeStep) (Nat.le_of_ble_eq_true rfl) dX7_goOn_54 (fun v9 => ?_)
      refine wm_if_ne 62 hX dX7_goOn_57 (by decide) ?_ ?_
      · refine wm_iinc (i8 + 1) 5 [(8, .int (i8 + 1)), (0, .ref a0), (1, .int i1), (3, .int i3), (4, .long l4), (6, .long l6)] hX dX7_goOn_62 rfl rfl (by decide) rfl ?_
        refine wm_goto (tgt := 3) hX dX7_goOn_65 (by decide) ?_
        refine wm_sub [1, 2, 3, 4, 5, 0] [(0, .ref a0), (1, .int i1), (3, .int i3), (4, .long l4), (6, .long l6), (8, .int (i8 + 1))] rfl ?_
        exact h3 a0 i1 i3 l4 l6 (i8 + 1)
      · refine wm_iconst (0 : Int32) hX dX7_goOn_60 (by decide) ?_
        exact wm_zret hX hr dX7_goOn_61
theorem wl_Ws_goOn_3 {X : CX Int32} (hX : Cx X RX7 cX7_goOn 9 rm_Ws_goOn) (hr : Rt X injI (some .boolean) rm_Ws_goOn.cells rm_Ws_goOn.slots) (hz : Zx X false) : ∀ (n : Nat) (a0 : Nat) (i1 : Int32) (i3 : Int32) (l4 : Int64) (l6 : Int64) (i8 : Int32), WM X 3 [(0, .ref a0), (1, .int i1), (3, .int i3), (4, .long l4), (6, .long l6), (8, .int i8)] [] 0 0 (l_Ws_goOn_3 n a0 i1 i3 l4 l6 i8)
  | 0, _, _, _, _, _, _ => wm_fl
  | n + 1, a0, i1, i3, l4, l6, i8 => wb_Ws_goOn_3 hX hr hz (wl_Ws_goOn_3 hX hr hz n) a0 i1 i3 l4 l6 i8
set_option maxRecDepth 20000 in
theorem w_Ws_goOn {X : CX Int32} (hX : Cx X RX7 cX7_goOn 9 rm_Ws_goOn) (hr : Rt X injI (some .boolean) rm_Ws_goOn.cells rm_Ws_goOn.slots) (hz : Zx X false) (a0 : Nat) (i1 : Int32) (i2 : Int32) (i3 : Int32) (l4 : Int64) (l6 : Int64) : WM X 0 [(0, .ref a0), (1, .int i1), (2, .int i2), (3, .int i3), (4, .long l4), (6, .long l6)] [] 0 0 (m_Ws_goOn a0 i1 i2 i3 l4 l6) := by
  unfold m_Ws_goOn
  refine wm_ckd ?_
  refine wm_iload_n 2 hX dX7_goOn_0 rfl rfl ?_
  refine wm_istore [(8, .int i2), (0, .ref a0), (1, .int i1), (2, .int i2), (3, .int i3), (4, .long l4), (6, .long l6)] hX dX7_goOn_1 (by decide) rfl ?_
  refine wm_sub [1, 2, 4, 5, 6, 0] [(0, .ref a0), (1, .int i1), (3, .int i3), (4, .long l4), (6, .long l6), (8, .int i2)] rfl ?_
  exact wl_Ws_goOn_3 hX hr hz FU a0 i1 i3 l4 l6 i2
theorem i_Ws_goOn (a0 : Nat) (i1 : Int32) (i2 : Int32) (i3 : Int32) (l4 : Int64) (l6 : Int64) : Im false yX7_goOn cX7_goOn 9 (some .boolean) rm_Ws_goOn injI [.ref a0, .int i1, .int i2, .int i3, .long l4, .long l6] (m_Ws_goOn a0 i1 i2 i3 l4 l6) := Im.of RX7 (by decide) rfl (Nat.le_of_ble_eq_true rfl) (fun X hX hr hn hz => w_Ws_goOn hX hr hz a0 i1 i2 i3 l4 l6)
set_option maxRecDepth 20000 in
theorem w_Ws_goThroughAll_66 {X : CX Int32} (hX : Cx X RX7 cX7_goThroughAll 15 rm_Ws_goThroughAll) (hr : Rt X injI (some .boolean) rm_Ws_goThroughAll.cells rm_Ws_goThroughAll.slots) (hz : Zx X false) {k41 : Nat → Int32 → Int64 → Int64 → Int32 → Int32 → Int64 → Int32 → Int32 → M Int32} (h41 : ∀ (a0 : Nat) (i1 : Int32) (l2 : Int64) (l4 : Int64) (i6 : Int32) (i7 : Int32) (l8 : Int64) (i10 : Int32) (i11 : Int32), WM X 41 [(0, .ref a0), (1, .int i1), (2, .long l2), (4, .long l4), (6, .int i6), (7, .int i7), (8, .long l8), (10, .int i10), (11, .int i11)] [] 0 0 (k41 a0 i1 l2 l4 i6 i7 l8 i10 i11)) (a0 : Nat) (i1 : Int32) (l2 : Int64) (l4 : Int64) (i6 : Int32) (i7 : Int32) (l8 : Int64) (i10 : Int32) (i11 : Int32) (s0 : Int32) : WM X 66 [(0, .ref a0), (1, .int i1), (2, .long l2), (4, .long l4), (6, .int i6), (7, .int i7), (8, .long l8), (10, .int i10), (11, .int i11)] [.int s0] 0 0 (m_Ws_goThroughAll_66 k41 a0 i1 l2 l4 i6 i7 l8 i10 i11 s0) := by
  unfold m_Ws_goThroughAll_66
  refine wm_istore [(12, .int s0), (0, .ref a0), (1, .int i1), (2, .long l2), (4, .long l4), (6, .int i6), (7, .int i7), (8, .long l8), (10, .int i10), (11, .int i11)] hX dX7_goThroughAll_66 (by decide) rfl ?_
  refine wm_aload_n 1 hX dX7_goThroughAll_68 rfl rfl ?_
  refine wm_iload 9 hX dX7_goThroughAll_69 rfl ?_
  refine wm_iload 0 hX dX7_goThroughAll_71 rfl ?_
  refine wm_iload_n 2 hX dX7_goThroughAll_73 rfl rfl ?_
  refine wm_lload_n 3 hX dX7_goThroughAll_74 rfl rfl ?_
  refine wm_lload 4 hX dX7_goThroughAll_75 rfl ?_
  refine wm_cVi (st := []) hX hz (i_Ws_goOn a0 i11 s0 i1 l2 l4) Ckd.of rfl cal_Ws_goOn wd_731 rfl (fits_Ws_goThroughAll_Ws_goOn) (Nat.le_of_ble_eq_true rfl) dX7_goThroughAll_77 (fun v1 => ?_)
  refine wm_if_ne 85 hX dX7_goThroughAll_80 (by decide) ?_ ?_
  · refine wm_aload_n 1 hX dX7_goThroughAll_85 rfl rfl ?_
    refine wm_gR hX fl_RX7_11 dX7_goThroughAll_86 (fun v2 => ?_)
    refine wm_iload_n 2 hX dX7_goThroughAll_89 rfl rfl ?_
    refine wm_ldR (by decide) hX dX7_goThroughAll_90 (fun v3 => ?_)
    refine wm_gR hX fl_RX7_64 dX7_goThroughAll_91 (fun v4 => ?_)
    refine wm_iload 6 hX dX7_goThroughAll_94 rfl ?_
    refine wm_ldL hX dX7_goThroughAll_96 (fun v5 => ?_)
    refine wm_mabs hX wd_740 wd_519 wd_53 mc_abs ⟨Nat.le_of_ble_eq_true rfl, Nat.le_of_ble_eq_true rfl⟩ ⟨Nat.le_of_ble_eq_true rfl, Nat.le_of_ble_eq_true rfl⟩ dX7_goThroughAll_97 ?_
    refine wm_letl (fun v6 => ?_)
    refine wm_lstore [(13, .long v6), (12, .int s0), (0, .ref a0), (1, .int i1), (2, .long l2), (4, .long l4), (6, .int i6), (7, .int i7), (8, .long l8), (10, .int i10), (11, .int i11)] hX dX7_goThroughAll_100 (by decide) rfl ?_
    refine wm_lload 0 hX dX7_goThroughAll_102 rfl ?_
    refine wm_lload 8 hX dX7_goThroughAll_104 rfl ?_
    refine wm_lif_le 118 hX dX7_goThroughAll_106 dX7_goThroughAll_107 (by decide) ?_ ?_
    · refine wm_iinc (i11 + 1) 10 [(11, .int (i11 + 1)), (13, .long v6), (12, .int s0), (0, .ref a0), (1, .int i1), (2, .long l2), (4, .long l4), (6, .int i6), (7, .int i7), (8, .long l8), (10, .int i10)] hX dX7_goThroughAll_118 rfl rfl (by decide) rfl ?_
      refine wm_goto (tgt := 41) hX dX7_goThroughAll_121 (by decide) ?_
      refine wm_sub [3, 4, 5, 6, 7, 8, 9, 10, 0] [(0, .ref a0), (1, .int i1), (2, .long l2), (4, .long l4), (6, .int i6), (7, .int i7), (8, .long l8), (10, .int i10), (11, .int (i11 + 1))] rfl ?_
      exact h41 a0 i1 l2 l4 i6 i7 l8 i10 (i11 + 1)
    · refine wm_lload 0 hX dX7_goThroughAll_110 rfl ?_
      refine wm_lstore [(8, .long v6), (13, .long v6), (12, .int s0), (0, .ref a0), (1, .int i1), (2, .long l2), (4, .long l4), (6, .int i6), (7, .int i7), (10, .int i10), (11, .int i11)] hX dX7_goThroughAll_112 (by decide) rfl ?_
      refine wm_iload 10 hX dX7_goThroughAll_114 rfl ?_
      refine wm_istore [(10, .int i11), (8, .long v6), (13, .long v6), (12, .int s0), (0, .ref a0), (1, .int i1), (2, .long l2), (4, .long l4), (6, .int i6), (7, .int i7), (11, .int i11)] hX dX7_goThroughAll_116 (by decide) rfl ?_
      refine wm_iinc (i11 + 1) 10 [(11, .int (i11 + 1)), (10, .int i11), (8, .long v6), (13, .long v6), (12, .int s0), (0, .ref a0), (1, .int i1), (2, .long l2), (4, .long l4), (6, .int i6), (7, .int i7)] hX dX7_goThroughAll_118 rfl rfl (by decide) rfl ?_
      refine wm_goto (tgt := 41) hX dX7_goThroughAll_121 (by decide) ?_
      refine wm_sub [5, 6, 7, 8, 9, 10, 2, 1, 0] [(0, .ref a0), (1, .int i1), (2, .long l2), (4, .long l4), (6, .int i6), (7, .int i7), (8, .long v6), (10, .int i11), (11, .int (i11 + 1))] rfl ?_
      exact h41 a0 i1 l2 l4 i6 i7 v6 i11 (i11 + 1)
  · refine wm_iconst (0 : Int32) hX dX7_goThroughAll_83 (by decide) ?_
    exact wm_zret hX hr dX7_goThroughAll_84
set_option maxRecDepth 20000 in
theorem wb_Ws_goThroughAll_41 {X : CX Int32} (hX : Cx X RX7 cX7_goThroughAll 15 rm_Ws_goThroughAll) (hr : Rt X injI (some .boolean) rm_Ws_goThroughAll.cells rm_Ws_goThroughAll.slots) (hz : Zx X false) {k41 : Nat → Int32 → Int64 → Int64 → Int32 → Int32 → Int64 → Int32 → Int32 → M Int32} (h41 : ∀ (a0 : Nat) (i1 : Int32) (l2 : Int64) (l4 : Int64) (i6 : Int32) (i7 : Int32) (l8 : Int64) (i10 : Int32) (i11 : Int32), WM X 41 [(0, .ref a0), (1, .int i1), (2, .long l2), (4, .long l4), (6, .int i6), (7, .int i7), (8, .long l8), (10, .int i10), (11, .int i11)] [] 0 0 (k41 a0 i1 l2 l4 i6 i7 l8 i10 i11)) (a0 : Nat) (i1 : Int32) (l2 : Int64) (l4 : Int64) (i6 : Int32) (i7 : Int32) (l8 : Int64) (i10 : Int32) (i11 : Int32) : WM X 41 [(0, .ref a0), (1, .int i1), (2, .long l2), (4, .long l4), (6, .int i6), (7, .int i7), (8, .long l8), (10, .int i10), (11, .int i11)] [] 0 0 (b_Ws_goThroughAll_41 k41 a0 i1 l2 l4 i6 i7 l8 i10 i11) := by
  unfold b_Ws_goThroughAll_41
  refine wm_iload 8 hX dX7_goThroughAll_41 rfl ?_
  refine wm_iload 4 hX dX7_goThroughAll_43 rfl ?_
  refine wm_icmp_ge 124 hX dX7_goThroughAll_45 (by decide) ?_ ?_
  · refine wm_aload_n 0 hX dX7_goThroughAll_124 rfl rfl ?_
    refine wm_lload 6 hX dX7_goThroughAll_125 rfl ?_
    refine wm_pL hX fp_RX7_21 dX7_goThroughAll_127 ?_
    refine wm_aload_n 0 hX dX7_goThroughAll_130 rfl rfl ?_
    refine wm_iload_n 1 hX dX7_goThroughAll_131 rfl rfl ?_
    refine wm_pI hX fp_RX7_25 dX7_goThroughAll_132 ?_
    refine wm_aload_n 0 hX dX7_goThroughAll_135 rfl rfl ?_
    refine wm_iload 7 hX dX7_goThroughAll_136 rfl ?_
    refine wm_pI hX fp_RX7_28 dX7_goThroughAll_138 ?_
    refine wm_aload_n 0 hX dX7_goThroughAll_141 rfl rfl ?_
    refine wm_lload_n 2 hX dX7_goThroughAll_142 rfl rfl ?_
    refine wm_pL hX fp_RX7_31 dX7_goThroughAll_143 ?_
    refine wm_aload_n 0 hX dX7_goThroughAll_146 rfl rfl ?_
    refine wm_lload 3 hX dX7_goThroughAll_147 rfl ?_
    refine wm_pL hX fp_RX7_34 dX7_goThroughAll_149 ?_
    refine wm_iconst (1 : Int32) hX dX7_goThroughAll_152 (by decide) ?_
    exact wm_zret hX hr dX7_goThroughAll_153
  · refine wm_iload 8 hX dX7_goThroughAll_48 rfl ?_
    refine wm_if_ne 57 hX dX7_goThroughAll_50 (by decide) ?_ ?_
    · refine wm_iload_n 1 hX dX7_goThroughAll_57 rfl rfl ?_
      refine wm_iconst (1 : Int32) hX dX7_goThroughAll_58 (by decide) ?_
      refine wm_isub hX dX7_goThroughAll_59 ?_
      refine wm_iload 8 hX dX7_goThroughAll_60 rfl ?_
      refine wm_cSi (st := [.int (i1 - (1 : Int32))]) hX hz (i_J6_numberOfTrailingZeros_0f7a4 i11) cal_J6_numberOfTrailingZeros_0f7a4 wd_727 rfl (fits_Ws_goThroughAll_J6_numberOfTrailingZeros_0f7a4) (Nat.le_of_ble_eq_true rfl) dX7_goThroughAll_62 (fun v1 => ?_)
      refine wm_isub hX dX7_goThroughAll_65 ?_
      exact w_Ws_goThroughAll_66 hX hr hz h41 a0 i1 l2 l4 i6 i7 l8 i10 i11 ((i1 - (1 : Int32)) - v1)
    · refine wm_iconst (0 : Int32) hX dX7_goThroughAll_53 (by decide) ?_
      refine wm_goto (tgt := 66) hX dX7_goThroughAll_54 (by decide) ?_
      exact w_Ws_goThroughAll_66 hX hr hz h41 a0 i1 l2 l4 i6 i7 l8 i10 i11 (0 : Int32)
theorem wl_Ws_goThroughAll_41 {X : CX Int32} (hX : Cx X RX7 cX7_goThroughAll 15 rm_Ws_goThroughAll) (hr : Rt X injI (some .boolean) rm_Ws_goThroughAll.cells rm_Ws_goThroughAll.slots) (hz : Zx X false) : ∀ (n : Nat) (a0 : Nat) (i1 : Int32) (l2 : Int64) (l4 : Int64) (i6 : Int32) (i7 : Int32) (l8 : Int64) (i10 : Int32) (i11 : Int32), WM X 41 [(0, .ref a0), (1, .int i1), (2, .long l2), (4, .long l4), (6, .int i6), (7, .int i7), (8, .long l8), (10, .int i10), (11, .int i11)] [] 0 0 (l_Ws_goThroughAll_41 n a0 i1 l2 l4 i6 i7 l8 i10 i11)
  | 0, _, _, _, _, _, _, _, _, _ => wm_fl
  | n + 1, a0, i1, l2, l4, i6, i7, l8, i10, i11 => wb_Ws_goThroughAll_41 hX hr hz (wl_Ws_goThroughAll_41 hX hr hz n) a0 i1 l2 l4 i6 i7 l8 i10 i11
set_option maxRecDepth 20000 in
theorem w_Ws_goThroughAll {X : CX Int32} (hX : Cx X RX7 cX7_goThroughAll 15 rm_Ws_goThroughAll) (hr : Rt X injI (some .boolean) rm_Ws_goThroughAll.cells rm_Ws_goThroughAll.slots) (hz : Zx X false) (a0 : Nat) (i1 : Int32) (l2 : Int64) (l4 : Int64) : WM X 0 [(0, .ref a0), (1, .int i1), (2, .long l2), (4, .long l4)] [] 0 0 (m_Ws_goThroughAll a0 i1 l2 l4) := by
  unfold m_Ws_goThroughAll
  refine wm_ckd ?_
  refine wm_iconst (1 : Int32) hX dX7_goThroughAll_0 (by decide) ?_
  refine wm_iload_n 1 hX dX7_goThroughAll_1 rfl rfl ?_
  refine wm_ishl hX dX7_goThroughAll_2 ?_
  refine wm_leti (fun v1 => ?_)
  refine wm_istore [(6, .int v1), (0, .ref a0), (1, .int i1), (2, .long l2), (4, .long l4)] hX dX7_goThroughAll_3 (by decide) rfl ?_
  refine wm_aload_n 1 hX dX7_goThroughAll_5 rfl rfl ?_
  refine wm_gR hX fl_RX7_37 dX7_goThroughAll_6 (fun v2 => ?_)
  refine wm_gI hX fl_RX7_44 dX7_goThroughAll_9 (fun v3 => ?_)
  refine wm_iconst (1 : Int32) hX dX7_goThroughAll_12 (by decide) ?_
  refine wm_isub hX dX7_goThroughAll_13 ?_
  refine wm_bipush (6 : Int32) hX dX7_goThroughAll_14 (by decide) ?_
  refine wm_imul hX dX7_goThroughAll_16 ?_
  refine wm_iconst (0 : Int32) hX dX7_goThroughAll_17 (by decide) ?_
  refine wm_iadd hX dX7_goThroughAll_18 ?_
  refine wm_leti (fun v4 => ?_)
  refine wm_istore [(7, .int v4), (6, .int v1), (0, .ref a0), (1, .int i1), (2, .long l2), (4, .long l4)] hX dX7_goThroughAll_19 (by decide) rfl ?_
  refine wm_ldc2 hX dX7_goThroughAll_21 wd_725 ?_
  refine wm_lstore [(8, .long (-1 : Int64)), (7, .int v4), (6, .int v1), (0, .ref a0), (1, .int i1), (2, .long l2), (4, .long l4)] hX dX7_goThroughAll_24 (by decide) rfl ?_
  refine wm_iconst (0 : Int32) hX dX7_goThroughAll_26 (by decide) ?_
  refine wm_istore [(10, .int (0 : Int32)), (8, .long (-1 : Int64)), (7, .int v4), (6, .int v1), (0, .ref a0), (1, .int i1), (2, .long l2), (4, .long l4)] hX dX7_goThroughAll_27 (by decide) rfl ?_
  refine wm_aload_n 4 hX dX7_goThroughAll_29 rfl rfl ?_
  refine wm_gR hX fl_RX7_11 dX7_goThroughAll_30 (fun v5 => ?_)
  refine wm_iconst (0 : Int32) hX dX7_goThroughAll_33 (by decide) ?_
  refine wm_ldR (by decide) hX dX7_goThroughAll_34 (fun v6 => ?_)
  refine wm_cVv (st := []) hX hz (i_Tw_beginAgain v6) Ckd.of rfl cal_Tw_beginAgain wd_726 rfl (fits_Ws_goThroughAll_Tw_beginAgain) (Nat.le_of_ble_eq_true rfl) dX7_goThroughAll_35 ?_
  refine wm_iconst (0 : Int32) hX dX7_goThroughAll_38 (by decide) ?_
  refine wm_istore [(11, .int (0 : Int32)), (10, .int (0 : Int32)), (8, .long (-1 : Int64)), (7, .int v4), (6, .int v1), (0, .ref a0), (1, .int i1), (2, .long l2), (4, .long l4)] hX dX7_goThroughAll_39 (by decide) rfl ?_
  refine wm_sub [5, 6, 7, 8, 4, 3, 2, 1, 0] [(0, .ref a0), (1, .int i1), (2, .long l2), (4, .long l4), (6, .int v1), (7, .int v4), (8, .long (-1 : Int64)), (10, .int (0 : Int32)), (11, .int (0 : Int32))] rfl ?_
  exact wl_Ws_goThroughAll_41 hX hr hz FU a0 i1 l2 l4 v1 v4 (-1 : Int64) (0 : Int32) (0 : Int32)
theorem i_Ws_goThroughAll (a0 : Nat) (i1 : Int32) (l2 : Int64) (l4 : Int64) : Im false yX7_goThroughAll cX7_goThroughAll 15 (some .boolean) rm_Ws_goThroughAll injI [.ref a0, .int i1, .long l2, .long l4] (m_Ws_goThroughAll a0 i1 l2 l4) := Im.of RX7 (by decide) rfl (Nat.le_of_ble_eq_true rfl) (fun X hX hr hn hz => w_Ws_goThroughAll hX hr hz a0 i1 l2 l4)
set_option maxRecDepth 20000 in
theorem w_Ob_worst_81 {X : CX Int64} (hX : Cx X RX8 cX8_worst 7 rm_Ob_worst) (hr : Rt X injL (some .long) rm_Ob_worst.cells rm_Ob_worst.slots) (hz : Zx X false) (a0 : Nat) (i6 : Int32) : WM X 81 [(0, .ref a0), (6, .int i6)] [] 0 0 (m_Ob_worst_81 a0 i6) := by
  unfold m_Ob_worst_81
  refine wm_aload_n 0 hX dX8_worst_81 rfl rfl ?_
  refine wm_gR hX fl_RX8_54 dX8_worst_82 (fun v1 => ?_)
  refine wm_iload 1 hX dX8_worst_85 rfl ?_
  refine wm_pI hX fp_RX8_268 dX8_worst_87 ?_
  refine wm_iload 1 hX dX8_worst_90 rfl ?_
  refine wm_if_ne 105 hX dX8_worst_92 (by decide) ?_ ?_
  · refine wm_ldc2 hX dX8_worst_105 wd_582 ?_
    exact wm_lret hX hr dX8_worst_108
  · refine wm_aload_n 0 hX dX8_worst_95 rfl rfl ?_
    refine wm_gR hX fl_RX8_54 dX8_worst_96 (fun v2 => ?_)
    refine wm_gL hX fl_RX8_271 dX8_worst_99 (fun v3 => ?_)
    refine wm_goto (tgt := 108) hX dX8_worst_102 (by decide) ?_
    exact wm_lret hX hr dX8_worst_108
set_option maxRecDepth 20000 in
theorem w_Ob_worst {X : CX Int64} (hX : Cx X RX8 cX8_worst 7 rm_Ob_worst) (hr : Rt X injL (some .long) rm_Ob_worst.cells rm_Ob_worst.slots) (hz : Zx X false) (a0 : Nat) (i1 : Int32) (l2 : Int64) (l4 : Int64) : WM X 0 [(0, .ref a0), (1, .int i1), (2, .long l2), (4, .long l4)] [] 0 0 (m_Ob_worst a0 i1 l2 l4) := by
  unfold m_Ob_worst
  refine wm_ckd ?_
  refine wm_iconst (0 : Int32) hX dX8_worst_0 (by decide) ?_
  refine wm_istore [(6, .int (0 : Int32)), (0, .ref a0), (1, .int i1), (2, .long l2), (4, .long l4)] hX dX8_worst_1 (by decide) rfl ?_
  refine wm_iload_n 2 hX dX8_worst_3 rfl rfl ?_
  refine wm_iconst (1 : Int32) hX dX8_worst_4 (by decide) ?_
  refine wm_icmp_lt 29 hX dX8_worst_5 (by decide) ?_ ?_
  · refine wm_bipush (-2 : Int32) hX dX8_worst_29 (by decide) ?_
    refine wm_istore [(6, .int (-2 : Int32)), (0, .ref a0), (1, .int i1), (2, .long l2), (4, .long l4)] hX dX8_worst_31 (by decide) rfl ?_
    refine wm_goto (tgt := 81) hX dX8_worst_33 (by decide) ?_
    refine wm_sub [1, 0] [(0, .ref a0), (6, .int (-2 : Int32))] rfl ?_
    exact w_Ob_worst_81 hX hr hz a0 (-2 : Int32)
  · refine wm_iload_n 2 hX dX8_worst_8 rfl rfl ?_
    refine wm_bipush (12 : Int32) hX dX8_worst_9 (by decide) ?_
    refine wm_icmp_gt 29 hX dX8_worst_11 (by decide) ?_ ?_
    · refine wm_bipush (-2 : Int32) hX dX8_worst_29 (by decide) ?_
      refine wm_istore [(6, .int (-2 : Int32)), (0, .ref a0), (1, .int i1), (2, .long l2), (4, .long l4)] hX dX8_worst_31 (by decide) rfl ?_
      refine wm_goto (tgt := 81) hX dX8_worst_33 (by decide) ?_
      refine wm_sub [1, 0] [(0, .ref a0), (6, .int (-2 : Int32))] rfl ?_
      exact w_Ob_worst_81 hX hr hz a0 (-2 : Int32)
    · refine wm_lload_n 3 hX dX8_worst_14 rfl rfl ?_
      refine wm_cSi (st := []) hX hz (i_Ob_isSample l2) cal_Ob_isSample wd_466 rfl (fits_Ob_worst_Ob_isSample) (Nat.le_of_ble_eq_true rfl) dX8_worst_15 (fun v1 => ?_)
      refine wm_if_eq 29 hX dX8_worst_18 (by decide) ?_ ?_
      · refine wm_bipush (-2 : Int32) hX dX8_worst_29 (by decide) ?_
        refine wm_istore [(6, .int (-2 : Int32)), (0, .ref a0), (1, .int i1), (2, .long l2), (4, .long l4)] hX dX8_worst_31 (by decide) rfl ?_
        refine wm_goto (tgt := 81) hX dX8_worst_33 (by decide) ?_
        refine wm_sub [1, 0] [(0, .ref a0), (6, .int (-2 : Int32))] rfl ?_
        exact w_Ob_worst_81 hX hr hz a0 (-2 : Int32)
      · refine wm_lload 4 hX dX8_worst_21 rfl ?_
        refine wm_cSi (st := []) hX hz (i_Ob_isSample l4) cal_Ob_isSample wd_466 rfl (fits_Ob_worst_Ob_isSample) (Nat.le_of_ble_eq_true rfl) dX8_worst_23 (fun v2 => ?_)
        refine wm_if_ne 36 hX dX8_worst_26 (by decide) ?_ ?_
        · refine wm_aload_n 1 hX dX8_worst_36 rfl rfl ?_
          refine wm_gR hX fl_RX8_19 dX8_worst_37 (fun v3 => ?_)
          refine wm_gI hX fl_RX8_141 dX8_worst_40 (fun v4 => ?_)
          refine wm_if_eq 56 hX dX8_worst_43 (by decide) ?_ ?_
          · refine wm_bipush (-7 : Int32) hX dX8_worst_56 (by decide) ?_
            refine wm_istore [(6, .int (-7 : Int32)), (0, .ref a0), (1, .int i1), (2, .long l2), (4, .long l4)] hX dX8_worst_58 (by decide) rfl ?_
            refine wm_goto (tgt := 81) hX dX8_worst_60 (by decide) ?_
            refine wm_sub [1, 0] [(0, .ref a0), (6, .int (-7 : Int32))] rfl ?_
            exact w_Ob_worst_81 hX hr hz a0 (-7 : Int32)
          · refine wm_aload_n 1 hX dX8_worst_46 rfl rfl ?_
            refine wm_gR hX fl_RX8_19 dX8_worst_47 (fun v5 => ?_)
            refine wm_gI hX fl_RX8_169 dX8_worst_50 (fun v6 => ?_)
            refine wm_if_eq 63 hX dX8_worst_53 (by decide) ?_ ?_
            · refine wm_aload_n 1 hX dX8_worst_63 rfl rfl ?_
              refine wm_gR hX fl_RX8_54 dX8_worst_64 (fun v7 => ?_)
              refine wm_iload_n 2 hX dX8_worst_67 rfl rfl ?_
              refine wm_lload_n 3 hX dX8_worst_68 rfl rfl ?_
              refine wm_lload 4 hX dX8_worst_69 rfl ?_
              refine wm_cVi (st := []) hX hz (i_Ws_goThroughAll v7 i1 l2 l4) Ckd.of rfl cal_Ws_goThroughAll wd_721 rfl (fits_Ob_worst_Ws_goThroughAll) (Nat.le_of_ble_eq_true rfl) dX8_worst_71 (fun v8 => ?_)
              refine wm_if_ne 81 hX dX8_worst_74 (by decide) ?_ ?_
              · refine wm_sub [1, 0] [(0, .ref a0), (6, .int (0 : Int32))] rfl ?_
                exact w_Ob_worst_81 hX hr hz a0 (0 : Int32)
              · refine wm_bipush (-6 : Int32) hX dX8_worst_77 (by decide) ?_
                refine wm_istore [(6, .int (-6 : Int32)), (0, .ref a0), (1, .int i1), (2, .long l2), (4, .long l4)] hX dX8_worst_79 (by decide) rfl ?_
                refine wm_sub [1, 0] [(0, .ref a0), (6, .int (-6 : Int32))] rfl ?_
                exact w_Ob_worst_81 hX hr hz a0 (-6 : Int32)
            · refine wm_bipush (-7 : Int32) hX dX8_worst_56 (by decide) ?_
              refine wm_istore [(6, .int (-7 : Int32)), (0, .ref a0), (1, .int i1), (2, .long l2), (4, .long l4)] hX dX8_worst_58 (by decide) rfl ?_
              refine wm_goto (tgt := 81) hX dX8_worst_60 (by decide) ?_
              refine wm_sub [1, 0] [(0, .ref a0), (6, .int (-7 : Int32))] rfl ?_
              exact w_Ob_worst_81 hX hr hz a0 (-7 : Int32)
        · refine wm_bipush (-2 : Int32) hX dX8_worst_29 (by decide) ?_
          refine wm_istore [(6, .int (-2 : Int32)), (0, .ref a0), (1, .int i1), (2, .long l2), (4, .long l4)] hX dX8_worst_31 (by decide) rfl ?_
          refine wm_goto (tgt := 81) hX dX8_worst_33 (by decide) ?_
          refine wm_sub [1, 0] [(0, .ref a0), (6, .int (-2 : Int32))] rfl ?_
          exact w_Ob_worst_81 hX hr hz a0 (-2 : Int32)
theorem i_Ob_worst (a0 : Nat) (i1 : Int32) (l2 : Int64) (l4 : Int64) : Im false yX8_worst cX8_worst 7 (some .long) rm_Ob_worst injL [.ref a0, .int i1, .long l2, .long l4] (m_Ob_worst a0 i1 l2 l4) := Im.of RX8 (by decide) rfl (Nat.le_of_ble_eq_true rfl) (fun X hX hr hn hz => w_Ob_worst hX hr hz a0 i1 l2 l4)
set_option maxRecDepth 20000 in
theorem w_Md_refuses {X : CX Int64} (hX : Cx X RX9 cX9_refuses 2 rm_Md_refuses) (hr : Rt X injL (some .long) rm_Md_refuses.cells rm_Md_refuses.slots) (hz : Zx X false) (a0 : Nat) (i1 : Int32) : WM X 0 [(0, .ref a0), (1, .int i1)] [] 0 0 (m_Md_refuses a0 i1) := by
  unfold m_Md_refuses
  refine wm_ckd ?_
  refine wm_aload_n 0 hX dX9_refuses_0 rfl rfl ?_
  refine wm_iload_n 1 hX dX9_refuses_1 rfl rfl ?_
  refine wm_pI hX fp_RX9_276 dX9_refuses_2 ?_
  refine wm_ldc2 hX dX9_refuses_5 wd_1045 ?_
  exact wm_lret hX hr dX9_refuses_8
theorem i_Md_refuses (a0 : Nat) (i1 : Int32) : Im false yX9_refuses cX9_refuses 2 (some .long) rm_Md_refuses injL [.ref a0, .int i1] (m_Md_refuses a0 i1) := Im.of RX9 (by decide) rfl (Nat.le_of_ble_eq_true rfl) (fun X hX hr hn hz => w_Md_refuses hX hr hz a0 i1)
set_option maxRecDepth 20000 in
theorem w_Md_worst_159 {X : CX Int64} (hX : Cx X RX9 cX9_worst 14 rm_Md_worst) (hr : Rt X injL (some .long) rm_Md_worst.cells rm_Md_worst.slots) (hz : Zx X false) {k66 : Nat → Int32 → Int64 → Int64 → Int64 → Int32 → Int32 → M Int64} (h66 : ∀ (a0 : Nat) (i1 : Int32) (l2 : Int64) (l4 : Int64) (l6 : Int64) (i8 : Int32) (i9 : Int32), WM X 66 [(0, .ref a0), (1, .int i1), (2, .long l2), (4, .long l4), (6, .long l6), (8, .int i8), (9, .int i9)] [] 0 0 (k66 a0 i1 l2 l4 l6 i8 i9)) (a0 : Nat) (i1 : Int32) (l2 : Int64) (l4 : Int64) (l6 : Int64) (i8 : Int32) (i9 : Int32) (s0 : Int64) : WM X 159 [(0, .ref a0), (1, .int i1), (2, .long l2), (4, .long l4), (6, .long l6), (8, .int i8), (9, .int i9)] [.long s0] 0 0 (m_Md_worst_159 k66 a0 i1 l2 l4 l6 i8 i9 s0) := by
  unfold m_Md_worst_159
  refine wm_lstore [(12, .long s0), (0, .ref a0), (1, .int i1), (2, .long l2), (4, .long l4), (6, .long l6), (8, .int i8), (9, .int i9)] hX dX9_worst_159 (by decide) rfl ?_
  refine wm_lload 0 hX dX9_worst_161 rfl ?_
  refine wm_lload 5 hX dX9_worst_163 rfl ?_
  refine wm_lif_le 177 hX dX9_worst_165 dX9_worst_166 (by decide) ?_ ?_
  · refine wm_iinc (i9 + 1) 7 [(9, .int (i9 + 1)), (12, .long s0), (0, .ref a0), (1, .int i1), (2, .long l2), (4, .long l4), (6, .long l6), (8, .int i8)] hX dX9_worst_177 rfl rfl (by decide) rfl ?_
    refine wm_goto (tgt := 66) hX dX9_worst_180 (by decide) ?_
    refine wm_sub [2, 3, 4, 5, 6, 7, 0] [(0, .ref a0), (1, .int i1), (2, .long l2), (4, .long l4), (6, .long l6), (8, .int i8), (9, .int (i9 + 1))] rfl ?_
    exact h66 a0 i1 l2 l4 l6 i8 (i9 + 1)
  · refine wm_lload 0 hX dX9_worst_169 rfl ?_
    refine wm_lstore [(6, .long s0), (12, .long s0), (0, .ref a0), (1, .int i1), (2, .long l2), (4, .long l4), (8, .int i8), (9, .int i9)] hX dX9_worst_171 (by decide) rfl ?_
    refine wm_iload 7 hX dX9_worst_173 rfl ?_
    refine wm_istore [(8, .int i9), (6, .long s0), (12, .long s0), (0, .ref a0), (1, .int i1), (2, .long l2), (4, .long l4), (9, .int i9)] hX dX9_worst_175 (by decide) rfl ?_
    refine wm_iinc (i9 + 1) 7 [(9, .int (i9 + 1)), (8, .int i9), (6, .long s0), (12, .long s0), (0, .ref a0), (1, .int i1), (2, .long l2), (4, .long l4)] hX dX9_worst_177 rfl rfl (by decide) rfl ?_
    refine wm_goto (tgt := 66) hX dX9_worst_180 (by decide) ?_
    refine wm_sub [4, 5, 6, 7, 2, 1, 0] [(0, .ref a0), (1, .int i1), (2, .long l2), (4, .long l4), (6, .long s0), (8, .int i9), (9, .int (i9 + 1))] rfl ?_
    exact h66 a0 i1 l2 l4 s0 i9 (i9 + 1)
set_option maxRecDepth 20000 in
theorem wb_Md_worst_81 {X : CX Int64} (hX : Cx X RX9 cX9_worst 14 rm_Md_worst) (hr : Rt X injL (some .long) rm_Md_worst.cells rm_Md_worst.slots) (hz : Zx X false) {k66 : Nat → Int32 → Int64 → Int64 → Int64 → Int32 → Int32 → M Int64} (h66 : ∀ (a0 : Nat) (i1 : Int32) (l2 : Int64) (l4 : Int64) (l6 : Int64) (i8 : Int32) (i9 : Int32), WM X 66 [(0, .ref a0), (1, .int i1), (2, .long l2), (4, .long l4), (6, .long l6), (8, .int i8), (9, .int i9)] [] 0 0 (k66 a0 i1 l2 l4 l6 i8 i9)) {k81 : Nat → Int32 → Int64 → Int64 → Int64 → Int32 → Int32 → Int32 → M Int64} (h81 : ∀ (a0 : Nat) (i1 : Int32) (l2 : Int64) (l4 : Int64) (l6 : Int64) (i8 : Int32) (i9 : Int32) (i10 : Int32), WM X 81 [(0, .ref a0), (1, .int i1), (2, .long l2), (4, .long l4), (6, .long l6), (8, .int i8), (9, .int i9), (10, .int i10)] [] 0 0 (k81 a0 i1 l2 l4 l6 i8 i9 i10)) (a0 : Nat) (i1 : Int32) (l2 : Int64) (l4 : Int64) (l6 : Int64) (i8 : Int32) (i9 : Int32) (i10 : Int32) : WM X 81 [(0, .ref a0), (1, .int i1), (2, .long l2), (4, .long l4), (6, .long l6), (8, .int i8), (9, .int i9), (10, .int i10)] [] 0 0 (b_Md_worst_81 k66 k81 a0 i1 l2 l4 l6 i8 i9 i10) := by
  unfold b_Md_worst_81
  refine wm_iload 7 hX dX9_worst_81 rfl ?_
  refine wm_iload_n 1 hX dX9_worst_83 rfl rfl ?_
  refine wm_icmp_ge 127 hX dX9_worst_84 (by decide) ?_ ?_
  · refine wm_aload_n 0 hX dX9_worst_127 rfl rfl ?_
    refine wm_gR hX fl_RX9_51 dX9_worst_128 (fun v1 => ?_)
    refine wm_bipush (6 : Int32) hX dX9_worst_131 (by decide) ?_
    refine wm_aload_n 0 hX dX9_worst_133 rfl rfl ?_
    refine wm_gI hX fl_RX9_160 dX9_worst_134 (fun v2 => ?_)
    refine wm_imul hX dX9_worst_137 ?_
    refine wm_bipush (6 : Int32) hX dX9_worst_138 (by decide) ?_
    refine wm_isub hX dX9_worst_140 ?_
    refine wm_ldL hX dX9_worst_141 (fun v3 => ?_)
    refine wm_lstore [(10, .long v3), (0, .ref a0), (1, .int i1), (2, .long l2), (4, .long l4), (6, .long l6), (8, .int i8), (9, .int i9)] hX dX9_worst_142 (by decide) rfl ?_
    refine wm_lload 0 hX dX9_worst_144 rfl ?_
    refine wm_lconst (0 : Int64) hX dX9_worst_146 (by decide) ?_
    refine wm_lif_ge 157 hX dX9_worst_147 dX9_worst_148 (by decide) ?_ ?_
    · refine wm_lload 0 hX dX9_worst_157 rfl ?_
      refine wm_sub [1, 2, 3, 4, 5, 6, 7] [(0, .ref a0), (1, .int i1), (2, .long l2), (4, .long l4), (6, .long l6), (8, .int i8), (9, .int i9)] rfl ?_
      exact w_Md_worst_159 hX hr hz h66 a0 i1 l2 l4 l6 i8 i9 v3
    · refine wm_lload 0 hX dX9_worst_151 rfl ?_
      refine wm_lneg hX dX9_worst_153 ?_
      refine wm_goto (tgt := 159) hX dX9_worst_154 (by decide) ?_
      refine wm_sub [1, 2, 3, 4, 5, 6, 7] [(0, .ref a0), (1, .int i1), (2, .long l2), (4, .long l4), (6, .long l6), (8, .int i8), (9, .int i9)] rfl ?_
      exact w_Md_worst_159 hX hr hz h66 a0 i1 l2 l4 l6 i8 i9 (-v3)
  · refine wm_aload_n 0 hX dX9_worst_87 rfl rfl ?_
    refine wm_iload 6 hX dX9_worst_88 rfl ?_
    refine wm_iload_n 1 hX dX9_worst_90 rfl rfl ?_
    refine wm_iconst (1 : Int32) hX dX9_worst_91 (by decide) ?_
    refine wm_isub hX dX9_worst_92 ?_
    refine wm_iload 7 hX dX9_worst_93 rfl ?_
    refine wm_isub hX dX9_worst_95 ?_
    refine wm_ishr hX dX9_worst_96 ?_
    refine wm_iconst (1 : Int32) hX dX9_worst_97 (by decide) ?_
    refine wm_iand hX dX9_worst_98 ?_
    refine wm_if_ne 106 hX dX9_worst_99 (by decide) ?_ ?_
    · refine wm_lload 3 hX dX9_worst_106 rfl ?_
      refine wm_cVi (st := []) hX hz (i_Md_tries a0 l4) Ckd.of rfl cal_Md_tries wd_987 rfl (fits_Md_worst_Md_tries) (Nat.le_of_ble_eq_true rfl) dX9_worst_108 (fun v4 => ?_)
      refine wm_if_ne 121 hX dX9_worst_111 (by decide) ?_ ?_
      · refine wm_iinc (i10 + 1) 7 [(10, .int (i10 + 1)), (0, .ref a0), (1, .int i1), (2, .long l2), (4, .long l4), (6, .long l6), (8, .int i8), (9, .int i9)] hX dX9_worst_121 rfl rfl (by decide) rfl ?_
        refine wm_goto (tgt := 81) hX dX9_worst_124 (by decide) ?_
        refine wm_sub [1, 2, 3, 4, 5, 6, 7, 0] [(0, .ref a0), (1, .int i1), (2, .long l2), (4, .long l4), (6, .long l6), (8, .int i8), (9, .int i9), (10, .int (i10 + 1))] rfl ?_
        exact h81 a0 i1 l2 l4 l6 i8 i9 (i10 + 1)
      · refine wm_aload_n 0 hX dX9_worst_114 rfl rfl ?_
        refine wm_bipush (-6 : Int32) hX dX9_worst_115 (by decide) ?_
        refine wm_cVl (st := []) hX hz (i_Md_refuses a0 (-6 : Int32)) Ckd.of rfl cal_Md_refuses wd_1123 rfl (fits_Md_worst_Md_refuses) (Nat.le_of_ble_eq_true rfl) dX9_worst_117 (fun v5 => ?_)
        exact wm_lret hX hr dX9_worst_120
    · refine wm_lload_n 2 hX dX9_worst_102 rfl rfl ?_
      refine wm_goto (tgt := 108) hX dX9_worst_103 (by decide) ?_
      refine wm_cVi (st := []) hX hz (i_Md_tries a0 l2) Ckd.of rfl cal_Md_tries wd_987 rfl (fits_Md_worst_Md_tries) (Nat.le_of_ble_eq_true rfl) dX9_worst_108 (fun v6 => ?_)
      refine wm_if_ne 121 hX dX9_worst_111 (by decide) ?_ ?_
      · refine wm_iinc (i10 + 1) 7 [(10, .int (i10 + 1)), (0, .ref a0), (1, .int i1), (2, .long l2), (4, .long l4), (6, .long l6), (8, .int i8), (9, .int i9)] hX dX9_worst_121 rfl rfl (by decide) rfl ?_
        refine wm_goto (tgt := 81) hX dX9_worst_124 (by decide) ?_
        refine wm_sub [1, 2, 3, 4, 5, 6, 7, 0] [(0, .ref a0), (1, .int i1), (2, .long l2), (4, .long l4), (6, .long l6), (8, .int i8), (9, .int i9), (10, .int (i10 + 1))] rfl ?_
        exact h81 a0 i1 l2 l4 l6 i8 i9 (i10 + 1)
      · refine wm_aload_n 0 hX dX9_worst_114 rfl rfl ?_
        refine wm_bipush (-6 : Int32) hX dX9_worst_115 (by decide) ?_
        refine wm_cVl (st := []) hX hz (i_Md_refuses a0 (-6 : Int32)) Ckd.of rfl cal_Md_refuses wd_1123 rfl (fits_Md_worst_Md_refuses) (Nat.le_of_ble_eq_true rfl) dX9_worst_117 (fun v7 => ?_)
        exact wm_lret hX hr dX9_worst_120
theorem wl_Md_worst_81 {X : CX Int64} (hX : Cx X RX9 cX9_worst 14 rm_Md_worst) (hr : Rt X injL (some .long) rm_Md_worst.cells rm_Md_worst.slots) (hz : Zx X false) {k66 : Nat → Int32 → Int64 → Int64 → Int64 → Int32 → Int32 → M Int64} (h66 : ∀ (a0 : Nat) (i1 : Int32) (l2 : Int64) (l4 : Int64) (l6 : Int64) (i8 : Int32) (i9 : Int32), WM X 66 [(0, .ref a0), (1, .int i1), (2, .long l2), (4, .long l4), (6, .long l6), (8, .int i8), (9, .int i9)] [] 0 0 (k66 a0 i1 l2 l4 l6 i8 i9)) : ∀ (n : Nat) (a0 : Nat) (i1 : Int32) (l2 : Int64) (l4 : Int64) (l6 : Int64) (i8 : Int32) (i9 : Int32) (i10 : Int32), WM X 81 [(0, .ref a0), (1, .int i1), (2, .long l2), (4, .long l4), (6, .long l6), (8, .int i8), (9, .int i9), (10, .int i10)] [] 0 0 (l_Md_worst_81 k66 n a0 i1 l2 l4 l6 i8 i9 i10)
  | 0, _, _, _, _, _, _, _, _ => wm_fl
  | n + 1, a0, i1, l2, l4, l6, i8, i9, i10 => wb_Md_worst_81 hX hr hz h66 (wl_Md_worst_81 hX hr hz h66 n) a0 i1 l2 l4 l6 i8 i9 i10
set_option maxRecDepth 20000 in
theorem wb_Md_worst_196 {X : CX Int64} (hX : Cx X RX9 cX9_worst 14 rm_Md_worst) (hr : Rt X injL (some .long) rm_Md_worst.cells rm_Md_worst.slots) (hz : Zx X false) {k196 : Nat → Int32 → Int64 → Int64 → Int64 → Int32 → Int32 → M Int64} (h196 : ∀ (a0 : Nat) (i1 : Int32) (l2 : Int64) (l4 : Int64) (l6 : Int64) (i8 : Int32) (i9 : Int32), WM X 196 [(0, .ref a0), (1, .int i1), (2, .long l2), (4, .long l4), (6, .long l6), (8, .int i8), (9, .int i9)] [] 0 0 (k196 a0 i1 l2 l4 l6 i8 i9)) (a0 : Nat) (i1 : Int32) (l2 : Int64) (l4 : Int64) (l6 : Int64) (i8 : Int32) (i9 : Int32) : WM X 196 [(0, .ref a0), (1, .int i1), (2, .long l2), (4, .long l4), (6, .long l6), (8, .int i8), (9, .int i9)] [] 0 0 (b_Md_worst_196 k196 a0 i1 l2 l4 l6 i8 i9) := by
  unfold b_Md_worst_196
  refine wm_iload 6 hX dX9_worst_196 rfl ?_
  refine wm_iload_n 1 hX dX9_worst_198 rfl rfl ?_
  refine wm_icmp_ge 235 hX dX9_worst_199 (by decide) ?_ ?_
  · refine wm_lload 4 hX dX9_worst_235 rfl ?_
    exact wm_lret hX hr dX9_worst_237
  · refine wm_aload_n 0 hX dX9_worst_202 rfl rfl ?_
    refine wm_gR hX fl_RX9_84 dX9_worst_203 (fun v1 => ?_)
    refine wm_iload 6 hX dX9_worst_206 rfl ?_
    refine wm_iload 5 hX dX9_worst_208 rfl ?_
    refine wm_iload_n 1 hX dX9_worst_210 rfl rfl ?_
    refine wm_iconst (1 : Int32) hX dX9_worst_211 (by decide) ?_
    refine wm_isub hX dX9_worst_212 ?_
    refine wm_iload 6 hX dX9_worst_213 rfl ?_
    refine wm_isub hX dX9_worst_215 ?_
    refine wm_ishr hX dX9_worst_216 ?_
    refine wm_iconst (1 : Int32) hX dX9_worst_217 (by decide) ?_
    refine wm_iand hX dX9_worst_218 ?_
    refine wm_if_ne 226 hX dX9_worst_219 (by decide) ?_ ?_
    · refine wm_lload 3 hX dX9_worst_226 rfl ?_
      refine wm_stL hX dX9_worst_228 ?_
      refine wm_iinc (i9 + 1) 6 [(9, .int (i9 + 1)), (0, .ref a0), (1, .int i1), (2, .long l2), (4, .long l4), (6, .long l6), (8, .int i8)] hX dX9_worst_229 rfl rfl (by decide) rfl ?_
      refine wm_goto (tgt := 196) hX dX9_worst_232 (by decide) ?_
      refine wm_sub [1, 2, 3, 4, 5, 6, 0] [(0, .ref a0), (1, .int i1), (2, .long l2), (4, .long l4), (6, .long l6), (8, .int i8), (9, .int (i9 + 1))] rfl ?_
      exact h196 a0 i1 l2 l4 l6 i8 (i9 + 1)
    · refine wm_lload_n 2 hX dX9_worst_222 rfl rfl ?_
      refine wm_goto (tgt := 228) hX dX9_worst_223 (by decide) ?_
      refine wm_stL hX dX9_worst_228 ?_
      refine wm_iinc (i9 + 1) 6 [(9, .int (i9 + 1)), (0, .ref a0), (1, .int i1), (2, .long l2), (4, .long l4), (6, .long l6), (8, .int i8)] hX dX9_worst_229 rfl rfl (by decide) rfl ?_
      refine wm_goto (tgt := 196) hX dX9_worst_232 (by decide) ?_
      refine wm_sub [1, 2, 3, 4, 5, 6, 0] [(0, .ref a0), (1, .int i1), (2, .long l2), (4, .long l4), (6, .long l6), (8, .int i8), (9, .int (i9 + 1))] rfl ?_
      exact h196 a0 i1 l2 l4 l6 i8 (i9 + 1)
theorem wl_Md_worst_196 {X : CX Int64} (hX : Cx X RX9 cX9_worst 14 rm_Md_worst) (hr : Rt X injL (some .long) rm_Md_worst.cells rm_Md_worst.slots) (hz : Zx X false) : ∀ (n : Nat) (a0 : Nat) (i1 : Int32) (l2 : Int64) (l4 : Int64) (l6 : Int64) (i8 : Int32) (i9 : Int32), WM X 196 [(0, .ref a0), (1, .int i1), (2, .long l2), (4, .long l4), (6, .long l6), (8, .int i8), (9, .int i9)] [] 0 0 (l_Md_worst_196 n a0 i1 l2 l4 l6 i8 i9)
  | 0, _, _, _, _, _, _, _ => wm_fl
  | n + 1, a0, i1, l2, l4, l6, i8, i9 => wb_Md_worst_196 hX hr hz (wl_Md_worst_196 hX hr hz n) a0 i1 l2 l4 l6 i8 i9
set_option maxRecDepth 20000 in
theorem wb_Md_worst_66 {X : CX Int64} (hX : Cx X RX9 cX9_worst 14 rm_Md_worst) (hr : Rt X injL (some .long) rm_Md_worst.cells rm_Md_worst.slots) (hz : Zx X false) {k66 : Nat → Int32 → Int64 → Int64 → Int64 → Int32 → Int32 → M Int64} (h66 : ∀ (a0 : Nat) (i1 : Int32) (l2 : Int64) (l4 : Int64) (l6 : Int64) (i8 : Int32) (i9 : Int32), WM X 66 [(0, .ref a0), (1, .int i1), (2, .long l2), (4, .long l4), (6, .long l6), (8, .int i8), (9, .int i9)] [] 0 0 (k66 a0 i1 l2 l4 l6 i8 i9)) (a0 : Nat) (i1 : Int32) (l2 : Int64) (l4 : Int64) (l6 : Int64) (i8 : Int32) (i9 : Int32) : WM X 66 [(0, .ref a0), (1, .int i1), (2, .long l2), (4, .long l4), (6, .long l6), (8, .int i8), (9, .int i9)] [] 0 0 (b_Md_worst_66 k66 a0 i1 l2 l4 l6 i8 i9) := by
  unfold b_Md_worst_66
  refine wm_iload 6 hX dX9_worst_66 rfl ?_
  refine wm_iconst (1 : Int32) hX dX9_worst_68 (by decide) ?_
  refine wm_iload_n 1 hX dX9_worst_69 rfl rfl ?_
  refine wm_ishl hX dX9_worst_70 ?_
  refine wm_icmp_ge 183 hX dX9_worst_71 (by decide) ?_ ?_
  · refine wm_aload_n 0 hX dX9_worst_183 rfl rfl ?_
    refine wm_iconst (0 : Int32) hX dX9_worst_184 (by decide) ?_
    refine wm_pI hX fp_RX9_276 dX9_worst_185 ?_
    refine wm_aload_n 0 hX dX9_worst_188 rfl rfl ?_
    refine wm_iload_n 1 hX dX9_worst_189 rfl rfl ?_
    refine wm_pI hX fp_RX9_285 dX9_worst_190 ?_
    refine wm_iconst (0 : Int32) hX dX9_worst_193 (by decide) ?_
    refine wm_istore [(9, .int (0 : Int32)), (0, .ref a0), (1, .int i1), (2, .long l2), (4, .long l4), (6, .long l6), (8, .int i8)] hX dX9_worst_194 (by decide) rfl ?_
    refine wm_sub [1, 2, 3, 4, 5, 6, 0] [(0, .ref a0), (1, .int i1), (2, .long l2), (4, .long l4), (6, .long l6), (8, .int i8), (9, .int (0 : Int32))] rfl ?_
    exact wl_Md_worst_196 hX hr hz FU a0 i1 l2 l4 l6 i8 (0 : Int32)
  · refine wm_aload_n 0 hX dX9_worst_74 rfl rfl ?_
    refine wm_cVv (st := []) hX hz (i_Md_rest a0) Ckd.of rfl cal_Md_rest wd_1032 rfl (fits_Md_worst_Md_rest) (Nat.le_of_ble_eq_true rfl) dX9_worst_75 ?_
    refine wm_iconst (0 : Int32) hX dX9_worst_78 (by decide) ?_
    refine wm_istore [(10, .int (0 : Int32)), (0, .ref a0), (1, .int i1), (2, .long l2), (4, .long l4), (6, .long l6), (8, .int i8), (9, .int i9)] hX dX9_worst_79 (by decide) rfl ?_
    refine wm_sub [1, 2, 3, 4, 5, 6, 7, 0] [(0, .ref a0), (1, .int i1), (2, .long l2), (4, .long l4), (6, .long l6), (8, .int i8), (9, .int i9), (10, .int (0 : Int32))] rfl ?_
    exact wl_Md_worst_81 hX hr hz h66 FU a0 i1 l2 l4 l6 i8 i9 (0 : Int32)
theorem wl_Md_worst_66 {X : CX Int64} (hX : Cx X RX9 cX9_worst 14 rm_Md_worst) (hr : Rt X injL (some .long) rm_Md_worst.cells rm_Md_worst.slots) (hz : Zx X false) : ∀ (n : Nat) (a0 : Nat) (i1 : Int32) (l2 : Int64) (l4 : Int64) (l6 : Int64) (i8 : Int32) (i9 : Int32), WM X 66 [(0, .ref a0), (1, .int i1), (2, .long l2), (4, .long l4), (6, .long l6), (8, .int i8), (9, .int i9)] [] 0 0 (l_Md_worst_66 n a0 i1 l2 l4 l6 i8 i9)
  | 0, _, _, _, _, _, _, _ => wm_fl
  | n + 1, a0, i1, l2, l4, l6, i8, i9 => wb_Md_worst_66 hX hr hz (wl_Md_worst_66 hX hr hz n) a0 i1 l2 l4 l6 i8 i9
set_option maxRecDepth 20000 in
theorem w_Md_worst {X : CX Int64} (hX : Cx X RX9 cX9_worst 14 rm_Md_worst) (hr : Rt X injL (some .long) rm_Md_worst.cells rm_Md_worst.slots) (hz : Zx X false) (a0 : Nat) (i1 : Int32) (l2 : Int64) (l4 : Int64) : WM X 0 [(0, .ref a0), (1, .int i1), (2, .long l2), (4, .long l4)] [] 0 0 (m_Md_worst a0 i1 l2 l4) := by
  unfold m_Md_worst
  refine wm_ckd ?_
  refine wm_iload_n 1 hX dX9_worst_0 rfl rfl ?_
  refine wm_i2l hX dX9_worst_1 ?_
  refine wm_lconst (1 : Int64) hX dX9_worst_2 (by decide) ?_
  refine wm_ldc2 hX dX9_worst_3 wd_1122 ?_
  refine wm_cSi (st := []) hX hz (i_Md_in (i1.toInt64) (1 : Int64) (12 : Int64)) cal_Md_in wd_896 rfl (fits_Md_worst_Md_in) (Nat.le_of_ble_eq_true rfl) dX9_worst_6 (fun v1 => ?_)
  refine wm_if_eq 27 hX dX9_worst_9 (by decide) ?_ ?_
  · refine wm_aload_n 0 hX dX9_worst_27 rfl rfl ?_
    refine wm_bipush (-2 : Int32) hX dX9_worst_28 (by decide) ?_
    refine wm_cVl (st := []) hX hz (i_Md_refuses a0 (-2 : Int32)) Ckd.of rfl cal_Md_refuses wd_1123 rfl (fits_Md_worst_Md_refuses) (Nat.le_of_ble_eq_true rfl) dX9_worst_30 (fun v2 => ?_)
    exact wm_lret hX hr dX9_worst_33
  · refine wm_lload_n 2 hX dX9_worst_12 rfl rfl ?_
    refine wm_cSi (st := []) hX hz (i_Md_isSample l2) cal_Md_isSample wd_963 rfl (fits_Md_worst_Md_isSample) (Nat.le_of_ble_eq_true rfl) dX9_worst_13 (fun v3 => ?_)
    refine wm_if_eq 27 hX dX9_worst_16 (by decide) ?_ ?_
    · refine wm_aload_n 0 hX dX9_worst_27 rfl rfl ?_
      refine wm_bipush (-2 : Int32) hX dX9_worst_28 (by decide) ?_
      refine wm_cVl (st := []) hX hz (i_Md_refuses a0 (-2 : Int32)) Ckd.of rfl cal_Md_refuses wd_1123 rfl (fits_Md_worst_Md_refuses) (Nat.le_of_ble_eq_true rfl) dX9_worst_30 (fun v4 => ?_)
      exact wm_lret hX hr dX9_worst_33
    · refine wm_lload 3 hX dX9_worst_19 rfl ?_
      refine wm_cSi (st := []) hX hz (i_Md_isSample l4) cal_Md_isSample wd_963 rfl (fits_Md_worst_Md_isSample) (Nat.le_of_ble_eq_true rfl) dX9_worst_21 (fun v5 => ?_)
      refine wm_if_ne 34 hX dX9_worst_24 (by decide) ?_ ?_
      · refine wm_aload_n 0 hX dX9_worst_34 rfl rfl ?_
        refine wm_gI hX fl_RX9_160 dX9_worst_35 (fun v6 => ?_)
        refine wm_if_eq 48 hX dX9_worst_38 (by decide) ?_ ?_
        · refine wm_aload_n 0 hX dX9_worst_48 rfl rfl ?_
          refine wm_bipush (-7 : Int32) hX dX9_worst_49 (by decide) ?_
          refine wm_cVl (st := []) hX hz (i_Md_refuses a0 (-7 : Int32)) Ckd.of rfl cal_Md_refuses wd_1123 rfl (fits_Md_worst_Md_refuses) (Nat.le_of_ble_eq_true rfl) dX9_worst_51 (fun v7 => ?_)
          exact wm_lret hX hr dX9_worst_54
        · refine wm_aload_n 0 hX dX9_worst_41 rfl rfl ?_
          refine wm_gI hX fl_RX9_173 dX9_worst_42 (fun v8 => ?_)
          refine wm_if_le 55 hX dX9_worst_45 (by decide) ?_ ?_
          · refine wm_ldc2 hX dX9_worst_55 wd_765 ?_
            refine wm_lstore [(6, .long (-1 : Int64)), (0, .ref a0), (1, .int i1), (2, .long l2), (4, .long l4)] hX dX9_worst_58 (by decide) rfl ?_
            refine wm_iconst (0 : Int32) hX dX9_worst_60 (by decide) ?_
            refine wm_istore [(8, .int (0 : Int32)), (6, .long (-1 : Int64)), (0, .ref a0), (1, .int i1), (2, .long l2), (4, .long l4)] hX dX9_worst_61 (by decide) rfl ?_
            refine wm_iconst (0 : Int32) hX dX9_worst_63 (by decide) ?_
            refine wm_istore [(9, .int (0 : Int32)), (8, .int (0 : Int32)), (6, .long (-1 : Int64)), (0, .ref a0), (1, .int i1), (2, .long l2), (4, .long l4)] hX dX9_worst_64 (by decide) rfl ?_
            refine wm_sub [3, 4, 5, 6, 2, 1, 0] [(0, .ref a0), (1, .int i1), (2, .long l2), (4, .long l4), (6, .long (-1 : Int64)), (8, .int (0 : Int32)), (9, .int (0 : Int32))] rfl ?_
            exact wl_Md_worst_66 hX hr hz FU a0 i1 l2 l4 (-1 : Int64) (0 : Int32) (0 : Int32)
          · refine wm_aload_n 0 hX dX9_worst_48 rfl rfl ?_
            refine wm_bipush (-7 : Int32) hX dX9_worst_49 (by decide) ?_
            refine wm_cVl (st := []) hX hz (i_Md_refuses a0 (-7 : Int32)) Ckd.of rfl cal_Md_refuses wd_1123 rfl (fits_Md_worst_Md_refuses) (Nat.le_of_ble_eq_true rfl) dX9_worst_51 (fun v9 => ?_)
            exact wm_lret hX hr dX9_worst_54
      · refine wm_aload_n 0 hX dX9_worst_27 rfl rfl ?_
        refine wm_bipush (-2 : Int32) hX dX9_worst_28 (by decide) ?_
        refine wm_cVl (st := []) hX hz (i_Md_refuses a0 (-2 : Int32)) Ckd.of rfl cal_Md_refuses wd_1123 rfl (fits_Md_worst_Md_refuses) (Nat.le_of_ble_eq_true rfl) dX9_worst_30 (fun v10 => ?_)
        exact wm_lret hX hr dX9_worst_33
theorem i_Md_worst (a0 : Nat) (i1 : Int32) (l2 : Int64) (l4 : Int64) : Im false yX9_worst cX9_worst 14 (some .long) rm_Md_worst injL [.ref a0, .int i1, .long l2, .long l4] (m_Md_worst a0 i1 l2 l4) := Im.of RX9 (by decide) rfl (Nat.le_of_ble_eq_true rfl) (fun X hX hr hn hz => w_Md_worst hX hr hz a0 i1 l2 l4)
set_option maxRecDepth 20000 in
theorem w_Ws_sampleOf {X : CX Int64} (hX : Cx X RX7 cX7_sampleOf 2 rm_Ws_sampleOf) (hr : Rt X injL (some .long) rm_Ws_sampleOf.cells rm_Ws_sampleOf.slots) (hz : Zx X false) (a0 : Nat) (i1 : Int32) : WM X 0 [(0, .ref a0), (1, .int i1)] [] 0 0 (m_Ws_sampleOf a0 i1) := by
  unfold m_Ws_sampleOf
  refine wm_ckd ?_
  refine wm_iload_n 1 hX dX7_sampleOf_0 rfl rfl ?_
  refine wm_if_lt 12 hX dX7_sampleOf_1 (by decide) ?_ ?_
  · refine wm_lconst (0 : Int64) hX dX7_sampleOf_12 (by decide) ?_
    exact wm_lret hX hr dX7_sampleOf_13
  · refine wm_iload_n 1 hX dX7_sampleOf_4 rfl rfl ?_
    refine wm_aload_n 0 hX dX7_sampleOf_5 rfl rfl ?_
    refine wm_gI hX fl_RX7_25 dX7_sampleOf_6 (fun v1 => ?_)
    refine wm_icmp_lt 14 hX dX7_sampleOf_9 (by decide) ?_ ?_
    · refine wm_aload_n 0 hX dX7_sampleOf_14 rfl rfl ?_
      refine wm_gI hX fl_RX7_28 dX7_sampleOf_15 (fun v2 => ?_)
      refine wm_iload_n 1 hX dX7_sampleOf_18 rfl rfl ?_
      refine wm_aload_n 0 hX dX7_sampleOf_19 rfl rfl ?_
      refine wm_gI hX fl_RX7_25 dX7_sampleOf_20 (fun v3 => ?_)
      refine wm_cSi (st := []) hX hz (i_Ws_isOne v2 i1 v3) cal_Ws_isOne wd_736 rfl (fits_Ws_sampleOf_Ws_isOne) (Nat.le_of_ble_eq_true rfl) dX7_sampleOf_23 (fun v4 => ?_)
      refine wm_if_eq 36 hX dX7_sampleOf_26 (by decide) ?_ ?_
      · refine wm_aload_n 0 hX dX7_sampleOf_36 rfl rfl ?_
        refine wm_gL hX fl_RX7_31 dX7_sampleOf_37 (fun v5 => ?_)
        exact wm_lret hX hr dX7_sampleOf_40
      · refine wm_aload_n 0 hX dX7_sampleOf_29 rfl rfl ?_
        refine wm_gL hX fl_RX7_34 dX7_sampleOf_30 (fun v6 => ?_)
        refine wm_goto (tgt := 40) hX dX7_sampleOf_33 (by decide) ?_
        exact wm_lret hX hr dX7_sampleOf_40
    · refine wm_lconst (0 : Int64) hX dX7_sampleOf_12 (by decide) ?_
      exact wm_lret hX hr dX7_sampleOf_13
theorem i_Ws_sampleOf (a0 : Nat) (i1 : Int32) : Im false yX7_sampleOf cX7_sampleOf 2 (some .long) rm_Ws_sampleOf injL [.ref a0, .int i1] (m_Ws_sampleOf a0 i1) := Im.of RX7 (by decide) rfl (Nat.le_of_ble_eq_true rfl) (fun X hX hr hn hz => w_Ws_sampleOf hX hr hz a0 i1)
set_option maxRecDepth 20000 in
theorem w_Ob_worstAt {X : CX Int64} (hX : Cx X RX8 cX8_worstAt 2 rm_Ob_worstAt) (hr : Rt X injL (some .long) rm_Ob_worstAt.cells rm_Ob_worstAt.slots) (hz : Zx X false) (a0 : Nat) (i1 : Int32) : WM X 0 [(0, .ref a0), (1, .int i1)] [] 0 0 (m_Ob_worstAt a0 i1) := by
  unfold m_Ob_worstAt
  refine wm_ckd ?_
  refine wm_aload_n 0 hX dX8_worstAt_0 rfl rfl ?_
  refine wm_gR hX fl_RX8_54 dX8_worstAt_1 (fun v1 => ?_)
  refine wm_iload_n 1 hX dX8_worstAt_4 rfl rfl ?_
  refine wm_cVl (st := []) hX hz (i_Ws_sampleOf v1 i1) Ckd.of rfl cal_Ws_sampleOf wd_745 rfl (fits_Ob_worstAt_Ws_sampleOf) (Nat.le_of_ble_eq_true rfl) dX8_worstAt_5 (fun v2 => ?_)
  exact wm_lret hX hr dX8_worstAt_8
theorem i_Ob_worstAt (a0 : Nat) (i1 : Int32) : Im false yX8_worstAt cX8_worstAt 2 (some .long) rm_Ob_worstAt injL [.ref a0, .int i1] (m_Ob_worstAt a0 i1) := Im.of RX8 (by decide) rfl (Nat.le_of_ble_eq_true rfl) (fun X hX hr hn hz => w_Ob_worstAt hX hr hz a0 i1)
set_option maxRecDepth 20000 in
theorem w_Md_worstAt {X : CX Int64} (hX : Cx X RX9 cX9_worstAt 2 rm_Md_worstAt) (hr : Rt X injL (some .long) rm_Md_worstAt.cells rm_Md_worstAt.slots) (hz : Zx X false) (a0 : Nat) (i1 : Int32) : WM X 0 [(0, .ref a0), (1, .int i1)] [] 0 0 (m_Md_worstAt a0 i1) := by
  unfold m_Md_worstAt
  refine wm_ckd ?_
  refine wm_iload_n 1 hX dX9_worstAt_0 rfl rfl ?_
  refine wm_i2l hX dX9_worstAt_1 ?_
  refine wm_lconst (0 : Int64) hX dX9_worstAt_2 (by decide) ?_
  refine wm_aload_n 0 hX dX9_worstAt_3 rfl rfl ?_
  refine wm_gI hX fl_RX9_285 dX9_worstAt_4 (fun v1 => ?_)
  refine wm_iconst (1 : Int32) hX dX9_worstAt_7 (by decide) ?_
  refine wm_isub hX dX9_worstAt_8 ?_
  refine wm_i2l hX dX9_worstAt_9 ?_
  refine wm_cSi (st := []) hX hz (i_Md_in (i1.toInt64) (0 : Int64) ((v1 - (1 : Int32)).toInt64)) cal_Md_in wd_896 rfl (fits_Md_worstAt_Md_in) (Nat.le_of_ble_eq_true rfl) dX9_worstAt_10 (fun v2 => ?_)
  refine wm_if_eq 25 hX dX9_worstAt_13 (by decide) ?_ ?_
  · refine wm_lconst (0 : Int64) hX dX9_worstAt_25 (by decide) ?_
    exact wm_lret hX hr dX9_worstAt_26
  · refine wm_aload_n 0 hX dX9_worstAt_16 rfl rfl ?_
    refine wm_gR hX fl_RX9_84 dX9_worstAt_17 (fun v3 => ?_)
    refine wm_iload_n 1 hX dX9_worstAt_20 rfl rfl ?_
    refine wm_ldL hX dX9_worstAt_21 (fun v4 => ?_)
    refine wm_goto (tgt := 26) hX dX9_worstAt_22 (by decide) ?_
    exact wm_lret hX hr dX9_worstAt_26
theorem i_Md_worstAt (a0 : Nat) (i1 : Int32) : Im false yX9_worstAt cX9_worstAt 2 (some .long) rm_Md_worstAt injL [.ref a0, .int i1] (m_Md_worstAt a0 i1) := Im.of RX9 (by decide) rfl (Nat.le_of_ble_eq_true rfl) (fun X hX hr hn hz => w_Md_worstAt hX hr hz a0 i1)
set_option maxRecDepth 20000 in
theorem w_Ob_count {X : CX Int32} (hX : Cx X RX8 cX8_count 2 rm_Ob_count) (hr : Rt X injI (some .int) rm_Ob_count.cells rm_Ob_count.slots) (hz : Zx X false) (a0 : Nat) (i1 : Int32) : WM X 0 [(0, .ref a0), (1, .int i1)] [] 0 0 (m_Ob_count a0 i1) := by
  unfold m_Ob_count
  refine wm_ckd ?_
  refine wm_iload_n 1 hX dX8_count_0 rfl rfl ?_
  refine wm_tsw [40, 48, 56, 64, 72, 77] 85 hX dX8_count_1 (by decide) (by decide) (by decide) ⟨?_, ?_, ?_, ?_, ?_, ?_, trivial⟩ ?_
  · refine wm_aload_n 0 hX dX8_count_40 rfl rfl ?_
    refine wm_gR hX fl_RX8_19 dX8_count_41 (fun v1 => ?_)
    refine wm_gI hX fl_RX8_141 dX8_count_44 (fun v2 => ?_)
    exact wm_iret hX hr dX8_count_47
  · refine wm_aload_n 0 hX dX8_count_48 rfl rfl ?_
    refine wm_gR hX fl_RX8_19 dX8_count_49 (fun v3 => ?_)
    refine wm_gI hX fl_RX8_275 dX8_count_52 (fun v4 => ?_)
    exact wm_iret hX hr dX8_count_55
  · refine wm_aload_n 0 hX dX8_count_56 rfl rfl ?_
    refine wm_gR hX fl_RX8_26 dX8_count_57 (fun v5 => ?_)
    refine wm_gI hX fl_RX8_138 dX8_count_60 (fun v6 => ?_)
    exact wm_iret hX hr dX8_count_63
  · refine wm_aload_n 0 hX dX8_count_64 rfl rfl ?_
    refine wm_gR hX fl_RX8_65 dX8_count_65 (fun v7 => ?_)
    refine wm_gI hX fl_RX8_227 dX8_count_68 (fun v8 => ?_)
    exact wm_iret hX hr dX8_count_71
  · refine wm_aload_n 0 hX dX8_count_72 rfl rfl ?_
    refine wm_gI hX fl_RX8_72 dX8_count_73 (fun v9 => ?_)
    exact wm_iret hX hr dX8_count_76
  · refine wm_aload_n 0 hX dX8_count_77 rfl rfl ?_
    refine wm_gR hX fl_RX8_54 dX8_count_78 (fun v10 => ?_)
    refine wm_gI hX fl_RX8_268 dX8_count_81 (fun v11 => ?_)
    exact wm_iret hX hr dX8_count_84
  · refine wm_bipush (-2 : Int32) hX dX8_count_85 (by decide) ?_
    exact wm_iret hX hr dX8_count_87
theorem i_Ob_count (a0 : Nat) (i1 : Int32) : Im false yX8_count cX8_count 2 (some .int) rm_Ob_count injI [.ref a0, .int i1] (m_Ob_count a0 i1) := Im.of RX8 (by decide) rfl (Nat.le_of_ble_eq_true rfl) (fun X hX hr hn hz => w_Ob_count hX hr hz a0 i1)
set_option maxRecDepth 20000 in
theorem w_Md_count {X : CX Int32} (hX : Cx X RX9 cX9_count 2 rm_Md_count) (hr : Rt X injI (some .int) rm_Md_count.cells rm_Md_count.slots) (hz : Zx X false) (a0 : Nat) (i1 : Int32) : WM X 0 [(0, .ref a0), (1, .int i1)] [] 0 0 (m_Md_count a0 i1) := by
  unfold m_Md_count
  refine wm_ckd ?_
  refine wm_iload_n 1 hX dX9_count_0 rfl rfl ?_
  refine wm_tsw [40, 45, 50, 55, 60, 65] 70 hX dX9_count_1 (by decide) (by decide) (by decide) ⟨?_, ?_, ?_, ?_, ?_, ?_, trivial⟩ ?_
  · refine wm_aload_n 0 hX dX9_count_40 rfl rfl ?_
    refine wm_gI hX fl_RX9_160 dX9_count_41 (fun v1 => ?_)
    exact wm_iret hX hr dX9_count_44
  · refine wm_aload_n 0 hX dX9_count_45 rfl rfl ?_
    refine wm_gI hX fl_RX9_87 dX9_count_46 (fun v2 => ?_)
    exact wm_iret hX hr dX9_count_49
  · refine wm_aload_n 0 hX dX9_count_50 rfl rfl ?_
    refine wm_gI hX fl_RX9_129 dX9_count_51 (fun v3 => ?_)
    exact wm_iret hX hr dX9_count_54
  · refine wm_aload_n 0 hX dX9_count_55 rfl rfl ?_
    refine wm_gI hX fl_RX9_231 dX9_count_56 (fun v4 => ?_)
    exact wm_iret hX hr dX9_count_59
  · refine wm_aload_n 0 hX dX9_count_60 rfl rfl ?_
    refine wm_gI hX fl_RX9_93 dX9_count_61 (fun v5 => ?_)
    exact wm_iret hX hr dX9_count_64
  · refine wm_aload_n 0 hX dX9_count_65 rfl rfl ?_
    refine wm_gI hX fl_RX9_276 dX9_count_66 (fun v6 => ?_)
    exact wm_iret hX hr dX9_count_69
  · refine wm_bipush (-2 : Int32) hX dX9_count_70 (by decide) ?_
    exact wm_iret hX hr dX9_count_72
theorem i_Md_count (a0 : Nat) (i1 : Int32) : Im false yX9_count cX9_count 2 (some .int) rm_Md_count injI [.ref a0, .int i1] (m_Md_count a0 i1) := Im.of RX9 (by decide) rfl (Nat.le_of_ble_eq_true rfl) (fun X hX hr hn hz => w_Md_count hX hr hz a0 i1)
set_option maxRecDepth 20000 in
theorem wb_Ob_digest_20 {X : CX Int64} (hX : Cx X RX8 cX8_digest 5 rm_Ob_digest) (hr : Rt X injL (some .long) rm_Ob_digest.cells rm_Ob_digest.slots) (hz : Zx X false) {k6 : Nat → Int64 → Int32 → M Int64} (h6 : ∀ (a0 : Nat) (l1 : Int64) (i3 : Int32), WM X 6 [(0, .ref a0), (1, .long l1), (3, .int i3)] [] 0 0 (k6 a0 l1 i3)) {k20 : Nat → Int64 → Int32 → Int32 → M Int64} (h20 : ∀ (a0 : Nat) (l1 : Int64) (i3 : Int32) (i4 : Int32), WM X 20 [(0, .ref a0), (1, .long l1), (3, .int i3), (4, .int i4)] [] 0 0 (k20 a0 l1 i3 i4)) (a0 : Nat) (l1 : Int64) (i3 : Int32) (i4 : Int32) : WM X 20 [(0, .ref a0), (1, .long l1), (3, .int i3), (4, .int i4)] [] 0 0 (b_Ob_digest_20 k6 k20 a0 l1 i3 i4) := by
  unfold b_Ob_digest_20
  refine wm_iload 3 hX dX8_digest_20 rfl ?_
  refine wm_bipush (6 : Int32) hX dX8_digest_22 (by decide) ?_
  refine wm_icmp_ge 55 hX dX8_digest_24 (by decide) ?_ ?_
  · refine wm_ldc2 hX dX8_digest_55 wd_758 ?_
    refine wm_lload_n 1 hX dX8_digest_58 rfl rfl ?_
    refine wm_lmul hX dX8_digest_59 ?_
    refine wm_aload_n 0 hX dX8_digest_60 rfl rfl ?_
    refine wm_gR hX fl_RX8_19 dX8_digest_61 (fun v1 => ?_)
    refine wm_gR hX fl_RX8_201 dX8_digest_64 (fun v2 => ?_)
    refine wm_iload_n 2 hX dX8_digest_67 rfl rfl ?_
    refine wm_ldI hX dX8_digest_68 (fun v3 => ?_)
    refine wm_i2l hX dX8_digest_69 ?_
    refine wm_ladd hX dX8_digest_70 ?_
    refine wm_letl (fun v4 => ?_)
    refine wm_lstore_n [(1, .long v4), (0, .ref a0), (3, .int i3), (4, .int i4)] hX dX8_digest_71 rfl (by decide) rfl ?_
    refine wm_iinc (i3 + 1) 2 [(3, .int (i3 + 1)), (1, .long v4), (0, .ref a0), (4, .int i4)] hX dX8_digest_72 rfl rfl (by decide) rfl ?_
    refine wm_goto (tgt := 6) hX dX8_digest_75 (by decide) ?_
    refine wm_sub [2, 1, 0] [(0, .ref a0), (1, .long v4), (3, .int (i3 + 1))] rfl ?_
    exact h6 a0 v4 (i3 + 1)
  · refine wm_ldc2 hX dX8_digest_27 wd_758 ?_
    refine wm_lload_n 1 hX dX8_digest_30 rfl rfl ?_
    refine wm_lmul hX dX8_digest_31 ?_
    refine wm_aload_n 0 hX dX8_digest_32 rfl rfl ?_
    refine wm_gR hX fl_RX8_65 dX8_digest_33 (fun v5 => ?_)
    refine wm_gR hX fl_RX8_204 dX8_digest_36 (fun v6 => ?_)
    refine wm_iload_n 2 hX dX8_digest_39 rfl rfl ?_
    refine wm_bipush (6 : Int32) hX dX8_digest_40 (by decide) ?_
    refine wm_imul hX dX8_digest_42 ?_
    refine wm_iload 3 hX dX8_digest_43 rfl ?_
    refine wm_iadd hX dX8_digest_45 ?_
    refine wm_ldL hX dX8_digest_46 (fun v7 => ?_)
    refine wm_ladd hX dX8_digest_47 ?_
    refine wm_letl (fun v8 => ?_)
    refine wm_lstore_n [(1, .long v8), (0, .ref a0), (3, .int i3), (4, .int i4)] hX dX8_digest_48 rfl (by decide) rfl ?_
    refine wm_iinc (i4 + 1) 3 [(4, .int (i4 + 1)), (1, .long v8), (0, .ref a0), (3, .int i3)] hX dX8_digest_49 rfl rfl (by decide) rfl ?_
    refine wm_goto (tgt := 20) hX dX8_digest_52 (by decide) ?_
    refine wm_sub [2, 1, 3, 0] [(0, .ref a0), (1, .long v8), (3, .int i3), (4, .int (i4 + 1))] rfl ?_
    exact h20 a0 v8 i3 (i4 + 1)
theorem wl_Ob_digest_20 {X : CX Int64} (hX : Cx X RX8 cX8_digest 5 rm_Ob_digest) (hr : Rt X injL (some .long) rm_Ob_digest.cells rm_Ob_digest.slots) (hz : Zx X false) {k6 : Nat → Int64 → Int32 → M Int64} (h6 : ∀ (a0 : Nat) (l1 : Int64) (i3 : Int32), WM X 6 [(0, .ref a0), (1, .long l1), (3, .int i3)] [] 0 0 (k6 a0 l1 i3)) : ∀ (n : Nat) (a0 : Nat) (l1 : Int64) (i3 : Int32) (i4 : Int32), WM X 20 [(0, .ref a0), (1, .long l1), (3, .int i3), (4, .int i4)] [] 0 0 (l_Ob_digest_20 k6 n a0 l1 i3 i4)
  | 0, _, _, _, _ => wm_fl
  | n + 1, a0, l1, i3, i4 => wb_Ob_digest_20 hX hr hz h6 (wl_Ob_digest_20 hX hr hz h6 n) a0 l1 i3 i4
set_option maxRecDepth 20000 in
theorem wb_Ob_digest_129 {X : CX Int64} (hX : Cx X RX8 cX8_digest 5 rm_Ob_digest) (hr : Rt X injL (some .long) rm_Ob_digest.cells rm_Ob_digest.slots) (hz : Zx X false) {k129 : Nat → Int64 → Int32 → M Int64} (h129 : ∀ (a0 : Nat) (l1 : Int64) (i3 : Int32), WM X 129 [(0, .ref a0), (1, .long l1), (3, .int i3)] [] 0 0 (k129 a0 l1 i3)) (a0 : Nat) (l1 : Int64) (i3 : Int32) : WM X 129 [(0, .ref a0), (1, .long l1), (3, .int i3)] [] 0 0 (b_Ob_digest_129 k129 a0 l1 i3) := by
  unfold b_Ob_digest_129
  refine wm_iload_n 2 hX dX8_digest_129 rfl rfl ?_
  refine wm_aload_n 0 hX dX8_digest_130 rfl rfl ?_
  refine wm_gR hX fl_RX8_26 dX8_digest_131 (fun v1 => ?_)
  refine wm_gI hX fl_RX8_138 dX8_digest_134 (fun v2 => ?_)
  refine wm_icmp_ge 182 hX dX8_digest_137 (by decide) ?_ ?_
  · refine wm_lload_n 1 hX dX8_digest_182 rfl rfl ?_
    exact wm_lret hX hr dX8_digest_183
  · refine wm_ldc2 hX dX8_digest_140 wd_758 ?_
    refine wm_lload_n 1 hX dX8_digest_143 rfl rfl ?_
    refine wm_lmul hX dX8_digest_144 ?_
    refine wm_aload_n 0 hX dX8_digest_145 rfl rfl ?_
    refine wm_gR hX fl_RX8_26 dX8_digest_146 (fun v3 => ?_)
    refine wm_gR hX fl_RX8_210 dX8_digest_149 (fun v4 => ?_)
    refine wm_iload_n 2 hX dX8_digest_152 rfl rfl ?_
    refine wm_bipush (7 : Int32) hX dX8_digest_153 (by decide) ?_
    refine wm_imul hX dX8_digest_155 ?_
    refine wm_iconst (0 : Int32) hX dX8_digest_156 (by decide) ?_
    refine wm_iadd hX dX8_digest_157 ?_
    refine wm_ldL hX dX8_digest_158 (fun v5 => ?_)
    refine wm_ladd hX dX8_digest_159 ?_
    refine wm_letl (fun v6 => ?_)
    refine wm_lstore_n [(1, .long v6), (0, .ref a0), (3, .int i3)] hX dX8_digest_160 rfl (by decide) rfl ?_
    refine wm_ldc2 hX dX8_digest_161 wd_758 ?_
    refine wm_lload_n 0 hX dX8_digest_164 rfl rfl ?_
    refine wm_lmul hX dX8_digest_165 ?_
    refine wm_aload_n 1 hX dX8_digest_166 rfl rfl ?_
    refine wm_gR hX fl_RX8_26 dX8_digest_167 (fun v7 => ?_)
    refine wm_iload_n 2 hX dX8_digest_170 rfl rfl ?_
    refine wm_cVl (st := [.long ((31 : Int64) * v6)]) hX hz (i_Lg_levelOf v7 i3) Ckd.of rfl cal_Lg_levelOf wd_619 rfl (fits_Ob_digest_Lg_levelOf) (Nat.le_of_ble_eq_true rfl) dX8_digest_171 (fun v8 => ?_)
    refine wm_ladd hX dX8_digest_174 ?_
    refine wm_letl (fun v9 => ?_)
    refine wm_lstore_n [(1, .long v9), (0, .ref a0), (3, .int i3)] hX dX8_digest_175 rfl (by decide) rfl ?_
    refine wm_iinc (i3 + 1) 2 [(3, .int (i3 + 1)), (1, .long v9), (0, .ref a0)] hX dX8_digest_176 rfl rfl (by decide) rfl ?_
    refine wm_goto (tgt := 129) hX dX8_digest_179 (by decide) ?_
    refine wm_sub [2, 1, 0] [(0, .ref a0), (1, .long v9), (3, .int (i3 + 1))] rfl ?_
    exact h129 a0 v9 (i3 + 1)
theorem wl_Ob_digest_129 {X : CX Int64} (hX : Cx X RX8 cX8_digest 5 rm_Ob_digest) (hr : Rt X injL (some .long) rm_Ob_digest.cells rm_Ob_digest.slots) (hz : Zx X false) : ∀ (n : Nat) (a0 : Nat) (l1 : Int64) (i3 : Int32), WM X 129 [(0, .ref a0), (1, .long l1), (3, .int i3)] [] 0 0 (l_Ob_digest_129 n a0 l1 i3)
  | 0, _, _, _ => wm_fl
  | n + 1, a0, l1, i3 => wb_Ob_digest_129 hX hr hz (wl_Ob_digest_129 hX hr hz n) a0 l1 i3
set_option maxRecDepth 20000 in
theorem wb_Ob_digest_80 {X : CX Int64} (hX : Cx X RX8 cX8_digest 5 rm_Ob_digest) (hr : Rt X injL (some .long) rm_Ob_digest.cells rm_Ob_digest.slots) (hz : Zx X false) {k80 : Nat → Int64 → Int32 → M Int64} (h80 : ∀ (a0 : Nat) (l1 : Int64) (i3 : Int32), WM X 80 [(0, .ref a0), (1, .long l1), (3, .int i3)] [] 0 0 (k80 a0 l1 i3)) (a0 : Nat) (l1 : Int64) (i3 : Int32) : WM X 80 [(0, .ref a0), (1, .long l1), (3, .int i3)] [] 0 0 (b_Ob_digest_80 k80 a0 l1 i3) := by
  unfold b_Ob_digest_80
  refine wm_iload_n 2 hX dX8_digest_80 rfl rfl ?_
  refine wm_aload_n 0 hX dX8_digest_81 rfl rfl ?_
  refine wm_gR hX fl_RX8_19 dX8_digest_82 (fun v1 => ?_)
  refine wm_gI hX fl_RX8_275 dX8_digest_85 (fun v2 => ?_)
  refine wm_icmp_ge 113 hX dX8_digest_88 (by decide) ?_ ?_
  · refine wm_ldc2 hX dX8_digest_113 wd_758 ?_
    refine wm_lload_n 1 hX dX8_digest_116 rfl rfl ?_
    refine wm_lmul hX dX8_digest_117 ?_
    refine wm_aload_n 0 hX dX8_digest_118 rfl rfl ?_
    refine wm_gR hX fl_RX8_65 dX8_digest_119 (fun v3 => ?_)
    refine wm_gL hX fl_RX8_176 dX8_digest_122 (fun v4 => ?_)
    refine wm_ladd hX dX8_digest_125 ?_
    refine wm_letl (fun v5 => ?_)
    refine wm_lstore_n [(1, .long v5), (0, .ref a0), (3, .int i3)] hX dX8_digest_126 rfl (by decide) rfl ?_
    refine wm_iconst (0 : Int32) hX dX8_digest_127 (by decide) ?_
    refine wm_istore_n [(3, .int (0 : Int32)), (1, .long v5), (0, .ref a0)] hX dX8_digest_128 rfl (by decide) rfl ?_
    refine wm_sub [2, 1, 0] [(0, .ref a0), (1, .long v5), (3, .int (0 : Int32))] rfl ?_
    exact wl_Ob_digest_129 hX hr hz FU a0 v5 (0 : Int32)
  · refine wm_ldc2 hX dX8_digest_91 wd_758 ?_
    refine wm_lload_n 1 hX dX8_digest_94 rfl rfl ?_
    refine wm_lmul hX dX8_digest_95 ?_
    refine wm_aload_n 0 hX dX8_digest_96 rfl rfl ?_
    refine wm_gR hX fl_RX8_19 dX8_digest_97 (fun v6 => ?_)
    refine wm_gR hX fl_RX8_165 dX8_digest_100 (fun v7 => ?_)
    refine wm_iload_n 2 hX dX8_digest_103 rfl rfl ?_
    refine wm_ldL hX dX8_digest_104 (fun v8 => ?_)
    refine wm_ladd hX dX8_digest_105 ?_
    refine wm_letl (fun v9 => ?_)
    refine wm_lstore_n [(1, .long v9), (0, .ref a0), (3, .int i3)] hX dX8_digest_106 rfl (by decide) rfl ?_
    refine wm_iinc (i3 + 1) 2 [(3, .int (i3 + 1)), (1, .long v9), (0, .ref a0)] hX dX8_digest_107 rfl rfl (by decide) rfl ?_
    refine wm_goto (tgt := 80) hX dX8_digest_110 (by decide) ?_
    refine wm_sub [2, 1, 0] [(0, .ref a0), (1, .long v9), (3, .int (i3 + 1))] rfl ?_
    exact h80 a0 v9 (i3 + 1)
theorem wl_Ob_digest_80 {X : CX Int64} (hX : Cx X RX8 cX8_digest 5 rm_Ob_digest) (hr : Rt X injL (some .long) rm_Ob_digest.cells rm_Ob_digest.slots) (hz : Zx X false) : ∀ (n : Nat) (a0 : Nat) (l1 : Int64) (i3 : Int32), WM X 80 [(0, .ref a0), (1, .long l1), (3, .int i3)] [] 0 0 (l_Ob_digest_80 n a0 l1 i3)
  | 0, _, _, _ => wm_fl
  | n + 1, a0, l1, i3 => wb_Ob_digest_80 hX hr hz (wl_Ob_digest_80 hX hr hz n) a0 l1 i3
set_option maxRecDepth 20000 in
theorem wb_Ob_digest_6 {X : CX Int64} (hX : Cx X RX8 cX8_digest 5 rm_Ob_digest) (hr : Rt X injL (some .long) rm_Ob_digest.cells rm_Ob_digest.slots) (hz : Zx X false) {k6 : Nat → Int64 → Int32 → M Int64} (h6 : ∀ (a0 : Nat) (l1 : Int64) (i3 : Int32), WM X 6 [(0, .ref a0), (1, .long l1), (3, .int i3)] [] 0 0 (k6 a0 l1 i3)) (a0 : Nat) (l1 : Int64) (i3 : Int32) : WM X 6 [(0, .ref a0), (1, .long l1), (3, .int i3)] [] 0 0 (b_Ob_digest_6 k6 a0 l1 i3) := by
  unfold b_Ob_digest_6
  refine wm_iload_n 2 hX dX8_digest_6 rfl rfl ?_
  refine wm_aload_n 0 hX dX8_digest_7 rfl rfl ?_
  refine wm_gR hX fl_RX8_19 dX8_digest_8 (fun v1 => ?_)
  refine wm_gI hX fl_RX8_141 dX8_digest_11 (fun v2 => ?_)
  refine wm_icmp_ge 78 hX dX8_digest_14 (by decide) ?_ ?_
  · refine wm_iconst (0 : Int32) hX dX8_digest_78 (by decide) ?_
    refine wm_istore_n [(3, .int (0 : Int32)), (0, .ref a0), (1, .long l1)] hX dX8_digest_79 rfl (by decide) rfl ?_
    refine wm_sub [1, 2, 0] [(0, .ref a0), (1, .long l1), (3, .int (0 : Int32))] rfl ?_
    exact wl_Ob_digest_80 hX hr hz FU a0 l1 (0 : Int32)
  · refine wm_iconst (0 : Int32) hX dX8_digest_17 (by decide) ?_
    refine wm_istore [(4, .int (0 : Int32)), (0, .ref a0), (1, .long l1), (3, .int i3)] hX dX8_digest_18 (by decide) rfl ?_
    refine wm_sub [1, 2, 3, 0] [(0, .ref a0), (1, .long l1), (3, .int i3), (4, .int (0 : Int32))] rfl ?_
    exact wl_Ob_digest_20 hX hr hz h6 FU a0 l1 i3 (0 : Int32)
theorem wl_Ob_digest_6 {X : CX Int64} (hX : Cx X RX8 cX8_digest 5 rm_Ob_digest) (hr : Rt X injL (some .long) rm_Ob_digest.cells rm_Ob_digest.slots) (hz : Zx X false) : ∀ (n : Nat) (a0 : Nat) (l1 : Int64) (i3 : Int32), WM X 6 [(0, .ref a0), (1, .long l1), (3, .int i3)] [] 0 0 (l_Ob_digest_6 n a0 l1 i3)
  | 0, _, _, _ => wm_fl
  | n + 1, a0, l1, i3 => wb_Ob_digest_6 hX hr hz (wl_Ob_digest_6 hX hr hz n) a0 l1 i3
set_option maxRecDepth 20000 in
theorem w_Ob_digest {X : CX Int64} (hX : Cx X RX8 cX8_digest 5 rm_Ob_digest) (hr : Rt X injL (some .long) rm_Ob_digest.cells rm_Ob_digest.slots) (hz : Zx X false) (a0 : Nat) : WM X 0 [(0, .ref a0)] [] 0 0 (m_Ob_digest a0) := by
  unfold m_Ob_digest
  refine wm_ckd ?_
  refine wm_ldc2 hX dX8_digest_0 wd_757 ?_
  refine wm_lstore_n [(1, .long (17 : Int64)), (0, .ref a0)] hX dX8_digest_3 rfl (by decide) rfl ?_
  refine wm_iconst (0 : Int32) hX dX8_digest_4 (by decide) ?_
  refine wm_istore_n [(3, .int (0 : Int32)), (1, .long (17 : Int64)), (0, .ref a0)] hX dX8_digest_5 rfl (by decide) rfl ?_
  refine wm_sub [2, 1, 0] [(0, .ref a0), (1, .long (17 : Int64)), (3, .int (0 : Int32))] rfl ?_
  exact wl_Ob_digest_6 hX hr hz FU a0 (17 : Int64) (0 : Int32)
theorem i_Ob_digest (a0 : Nat) : Im false yX8_digest cX8_digest 5 (some .long) rm_Ob_digest injL [.ref a0] (m_Ob_digest a0) := Im.of RX8 (by decide) rfl (Nat.le_of_ble_eq_true rfl) (fun X hX hr hn hz => w_Ob_digest hX hr hz a0)
set_option maxRecDepth 20000 in
theorem wb_Md_digest_17 {X : CX Int64} (hX : Cx X RX9 cX9_digest 5 rm_Md_digest) (hr : Rt X injL (some .long) rm_Md_digest.cells rm_Md_digest.slots) (hz : Zx X false) {k6 : Nat → Int64 → Int32 → M Int64} (h6 : ∀ (a0 : Nat) (l1 : Int64) (i3 : Int32), WM X 6 [(0, .ref a0), (1, .long l1), (3, .int i3)] [] 0 0 (k6 a0 l1 i3)) {k17 : Nat → Int64 → Int32 → Int32 → M Int64} (h17 : ∀ (a0 : Nat) (l1 : Int64) (i3 : Int32) (i4 : Int32), WM X 17 [(0, .ref a0), (1, .long l1), (3, .int i3), (4, .int i4)] [] 0 0 (k17 a0 l1 i3 i4)) (a0 : Nat) (l1 : Int64) (i3 : Int32) (i4 : Int32) : WM X 17 [(0, .ref a0), (1, .long l1), (3, .int i3), (4, .int i4)] [] 0 0 (b_Md_digest_17 k6 k17 a0 l1 i3 i4) := by
  unfold b_Md_digest_17
  refine wm_iload 3 hX dX9_digest_17 rfl ?_
  refine wm_bipush (7 : Int32) hX dX9_digest_19 (by decide) ?_
  refine wm_icmp_ge 44 hX dX9_digest_21 (by decide) ?_ ?_
  · refine wm_iinc (i3 + 1) 2 [(3, .int (i3 + 1)), (0, .ref a0), (1, .long l1), (4, .int i4)] hX dX9_digest_44 rfl rfl (by decide) rfl ?_
    refine wm_goto (tgt := 6) hX dX9_digest_47 (by decide) ?_
    refine wm_sub [1, 2, 0] [(0, .ref a0), (1, .long l1), (3, .int (i3 + 1))] rfl ?_
    exact h6 a0 l1 (i3 + 1)
  · refine wm_ldc2 hX dX9_digest_24 wd_1140 ?_
    refine wm_lload_n 1 hX dX9_digest_27 rfl rfl ?_
    refine wm_lmul hX dX9_digest_28 ?_
    refine wm_aload_n 0 hX dX9_digest_29 rfl rfl ?_
    refine wm_iload_n 2 hX dX9_digest_30 rfl rfl ?_
    refine wm_iload 3 hX dX9_digest_31 rfl ?_
    refine wm_cVl (st := [.long ((31 : Int64) * l1)]) hX hz (i_Md_stageAt a0 i3 i4) Ckd.of rfl cal_Md_stageAt wd_1141 rfl (fits_Md_digest_Md_stageAt) (Nat.le_of_ble_eq_true rfl) dX9_digest_33 (fun v1 => ?_)
    refine wm_ladd hX dX9_digest_36 ?_
    refine wm_letl (fun v2 => ?_)
    refine wm_lstore_n [(1, .long v2), (0, .ref a0), (3, .int i3), (4, .int i4)] hX dX9_digest_37 rfl (by decide) rfl ?_
    refine wm_iinc (i4 + 1) 3 [(4, .int (i4 + 1)), (1, .long v2), (0, .ref a0), (3, .int i3)] hX dX9_digest_38 rfl rfl (by decide) rfl ?_
    refine wm_goto (tgt := 17) hX dX9_digest_41 (by decide) ?_
    refine wm_sub [2, 1, 3, 0] [(0, .ref a0), (1, .long v2), (3, .int i3), (4, .int (i4 + 1))] rfl ?_
    exact h17 a0 v2 i3 (i4 + 1)
theorem wl_Md_digest_17 {X : CX Int64} (hX : Cx X RX9 cX9_digest 5 rm_Md_digest) (hr : Rt X injL (some .long) rm_Md_digest.cells rm_Md_digest.slots) (hz : Zx X false) {k6 : Nat → Int64 → Int32 → M Int64} (h6 : ∀ (a0 : Nat) (l1 : Int64) (i3 : Int32), WM X 6 [(0, .ref a0), (1, .long l1), (3, .int i3)] [] 0 0 (k6 a0 l1 i3)) : ∀ (n : Nat) (a0 : Nat) (l1 : Int64) (i3 : Int32) (i4 : Int32), WM X 17 [(0, .ref a0), (1, .long l1), (3, .int i3), (4, .int i4)] [] 0 0 (l_Md_digest_17 k6 n a0 l1 i3 i4)
  | 0, _, _, _, _ => wm_fl
  | n + 1, a0, l1, i3, i4 => wb_Md_digest_17 hX hr hz h6 (wl_Md_digest_17 hX hr hz h6 n) a0 l1 i3 i4
set_option maxRecDepth 20000 in
theorem wb_Md_digest_92 {X : CX Int64} (hX : Cx X RX9 cX9_digest 5 rm_Md_digest) (hr : Rt X injL (some .long) rm_Md_digest.cells rm_Md_digest.slots) (hz : Zx X false) {k92 : Nat → Int64 → Int32 → M Int64} (h92 : ∀ (a0 : Nat) (l1 : Int64) (i3 : Int32), WM X 92 [(0, .ref a0), (1, .long l1), (3, .int i3)] [] 0 0 (k92 a0 l1 i3)) (a0 : Nat) (l1 : Int64) (i3 : Int32) : WM X 92 [(0, .ref a0), (1, .long l1), (3, .int i3)] [] 0 0 (b_Md_digest_92 k92 a0 l1 i3) := by
  unfold b_Md_digest_92
  refine wm_iload_n 2 hX dX9_digest_92 rfl rfl ?_
  refine wm_aload_n 0 hX dX9_digest_93 rfl rfl ?_
  refine wm_gI hX fl_RX9_129 dX9_digest_94 (fun v1 => ?_)
  refine wm_icmp_ge 140 hX dX9_digest_97 (by decide) ?_ ?_
  · refine wm_lload_n 1 hX dX9_digest_140 rfl rfl ?_
    exact wm_lret hX hr dX9_digest_141
  · refine wm_ldc2 hX dX9_digest_100 wd_1140 ?_
    refine wm_lload_n 1 hX dX9_digest_103 rfl rfl ?_
    refine wm_lmul hX dX9_digest_104 ?_
    refine wm_aload_n 0 hX dX9_digest_105 rfl rfl ?_
    refine wm_gR hX fl_RX9_45 dX9_digest_106 (fun v2 => ?_)
    refine wm_bipush (7 : Int32) hX dX9_digest_109 (by decide) ?_
    refine wm_iload_n 2 hX dX9_digest_111 rfl rfl ?_
    refine wm_imul hX dX9_digest_112 ?_
    refine wm_ldL hX dX9_digest_113 (fun v3 => ?_)
    refine wm_ladd hX dX9_digest_114 ?_
    refine wm_letl (fun v4 => ?_)
    refine wm_lstore_n [(1, .long v4), (0, .ref a0), (3, .int i3)] hX dX9_digest_115 rfl (by decide) rfl ?_
    refine wm_ldc2 hX dX9_digest_116 wd_1140 ?_
    refine wm_lload_n 0 hX dX9_digest_119 rfl rfl ?_
    refine wm_lmul hX dX9_digest_120 ?_
    refine wm_aload_n 1 hX dX9_digest_121 rfl rfl ?_
    refine wm_gR hX fl_RX9_45 dX9_digest_122 (fun v5 => ?_)
    refine wm_bipush (7 : Int32) hX dX9_digest_125 (by decide) ?_
    refine wm_iload_n 2 hX dX9_digest_127 rfl rfl ?_
    refine wm_imul hX dX9_digest_128 ?_
    refine wm_iconst (1 : Int32) hX dX9_digest_129 (by decide) ?_
    refine wm_iadd hX dX9_digest_130 ?_
    refine wm_ldL hX dX9_digest_131 (fun v6 => ?_)
    refine wm_ladd hX dX9_digest_132 ?_
    refine wm_letl (fun v7 => ?_)
    refine wm_lstore_n [(1, .long v7), (0, .ref a0), (3, .int i3)] hX dX9_digest_133 rfl (by decide) rfl ?_
    refine wm_iinc (i3 + 1) 2 [(3, .int (i3 + 1)), (1, .long v7), (0, .ref a0)] hX dX9_digest_134 rfl rfl (by decide) rfl ?_
    refine wm_goto (tgt := 92) hX dX9_digest_137 (by decide) ?_
    refine wm_sub [2, 1, 0] [(0, .ref a0), (1, .long v7), (3, .int (i3 + 1))] rfl ?_
    exact h92 a0 v7 (i3 + 1)
theorem wl_Md_digest_92 {X : CX Int64} (hX : Cx X RX9 cX9_digest 5 rm_Md_digest) (hr : Rt X injL (some .long) rm_Md_digest.cells rm_Md_digest.slots) (hz : Zx X false) : ∀ (n : Nat) (a0 : Nat) (l1 : Int64) (i3 : Int32), WM X 92 [(0, .ref a0), (1, .long l1), (3, .int i3)] [] 0 0 (l_Md_digest_92 n a0 l1 i3)
  | 0, _, _, _ => wm_fl
  | n + 1, a0, l1, i3 => wb_Md_digest_92 hX hr hz (wl_Md_digest_92 hX hr hz n) a0 l1 i3
set_option maxRecDepth 20000 in
theorem wb_Md_digest_52 {X : CX Int64} (hX : Cx X RX9 cX9_digest 5 rm_Md_digest) (hr : Rt X injL (some .long) rm_Md_digest.cells rm_Md_digest.slots) (hz : Zx X false) {k52 : Nat → Int64 → Int32 → M Int64} (h52 : ∀ (a0 : Nat) (l1 : Int64) (i3 : Int32), WM X 52 [(0, .ref a0), (1, .long l1), (3, .int i3)] [] 0 0 (k52 a0 l1 i3)) (a0 : Nat) (l1 : Int64) (i3 : Int32) : WM X 52 [(0, .ref a0), (1, .long l1), (3, .int i3)] [] 0 0 (b_Md_digest_52 k52 a0 l1 i3) := by
  unfold b_Md_digest_52
  refine wm_iload_n 2 hX dX9_digest_52 rfl rfl ?_
  refine wm_aload_n 0 hX dX9_digest_53 rfl rfl ?_
  refine wm_gI hX fl_RX9_87 dX9_digest_54 (fun v1 => ?_)
  refine wm_icmp_ge 79 hX dX9_digest_57 (by decide) ?_ ?_
  · refine wm_ldc2 hX dX9_digest_79 wd_1140 ?_
    refine wm_lload_n 1 hX dX9_digest_82 rfl rfl ?_
    refine wm_lmul hX dX9_digest_83 ?_
    refine wm_aload_n 0 hX dX9_digest_84 rfl rfl ?_
    refine wm_gL hX fl_RX9_180 dX9_digest_85 (fun v2 => ?_)
    refine wm_ladd hX dX9_digest_88 ?_
    refine wm_letl (fun v3 => ?_)
    refine wm_lstore_n [(1, .long v3), (0, .ref a0), (3, .int i3)] hX dX9_digest_89 rfl (by decide) rfl ?_
    refine wm_iconst (0 : Int32) hX dX9_digest_90 (by decide) ?_
    refine wm_istore_n [(3, .int (0 : Int32)), (1, .long v3), (0, .ref a0)] hX dX9_digest_91 rfl (by decide) rfl ?_
    refine wm_sub [2, 1, 0] [(0, .ref a0), (1, .long v3), (3, .int (0 : Int32))] rfl ?_
    exact wl_Md_digest_92 hX hr hz FU a0 v3 (0 : Int32)
  · refine wm_ldc2 hX dX9_digest_60 wd_1140 ?_
    refine wm_lload_n 1 hX dX9_digest_63 rfl rfl ?_
    refine wm_lmul hX dX9_digest_64 ?_
    refine wm_aload_n 0 hX dX9_digest_65 rfl rfl ?_
    refine wm_gR hX fl_RX9_36 dX9_digest_66 (fun v4 => ?_)
    refine wm_iload_n 2 hX dX9_digest_69 rfl rfl ?_
    refine wm_ldL hX dX9_digest_70 (fun v5 => ?_)
    refine wm_ladd hX dX9_digest_71 ?_
    refine wm_letl (fun v6 => ?_)
    refine wm_lstore_n [(1, .long v6), (0, .ref a0), (3, .int i3)] hX dX9_digest_72 rfl (by decide) rfl ?_
    refine wm_iinc (i3 + 1) 2 [(3, .int (i3 + 1)), (1, .long v6), (0, .ref a0)] hX dX9_digest_73 rfl rfl (by decide) rfl ?_
    refine wm_goto (tgt := 52) hX dX9_digest_76 (by decide) ?_
    refine wm_sub [2, 1, 0] [(0, .ref a0), (1, .long v6), (3, .int (i3 + 1))] rfl ?_
    exact h52 a0 v6 (i3 + 1)
theorem wl_Md_digest_52 {X : CX Int64} (hX : Cx X RX9 cX9_digest 5 rm_Md_digest) (hr : Rt X injL (some .long) rm_Md_digest.cells rm_Md_digest.slots) (hz : Zx X false) : ∀ (n : Nat) (a0 : Nat) (l1 : Int64) (i3 : Int32), WM X 52 [(0, .ref a0), (1, .long l1), (3, .int i3)] [] 0 0 (l_Md_digest_52 n a0 l1 i3)
  | 0, _, _, _ => wm_fl
  | n + 1, a0, l1, i3 => wb_Md_digest_52 hX hr hz (wl_Md_digest_52 hX hr hz n) a0 l1 i3
set_option maxRecDepth 20000 in
theorem wb_Md_digest_6 {X : CX Int64} (hX : Cx X RX9 cX9_digest 5 rm_Md_digest) (hr : Rt X injL (some .long) rm_Md_digest.cells rm_Md_digest.slots) (hz : Zx X false) {k6 : Nat → Int64 → Int32 → M Int64} (h6 : ∀ (a0 : Nat) (l1 : Int64) (i3 : Int32), WM X 6 [(0, .ref a0), (1, .long l1), (3, .int i3)] [] 0 0 (k6 a0 l1 i3)) (a0 : Nat) (l1 : Int64) (i3 : Int32) : WM X 6 [(0, .ref a0), (1, .long l1), (3, .int i3)] [] 0 0 (b_Md_digest_6 k6 a0 l1 i3) := by
  unfold b_Md_digest_6
  refine wm_iload_n 2 hX dX9_digest_6 rfl rfl ?_
  refine wm_aload_n 0 hX dX9_digest_7 rfl rfl ?_
  refine wm_gI hX fl_RX9_160 dX9_digest_8 (fun v1 => ?_)
  refine wm_icmp_ge 50 hX dX9_digest_11 (by decide) ?_ ?_
  · refine wm_iconst (0 : Int32) hX dX9_digest_50 (by decide) ?_
    refine wm_istore_n [(3, .int (0 : Int32)), (0, .ref a0), (1, .long l1)] hX dX9_digest_51 rfl (by decide) rfl ?_
    refine wm_sub [1, 2, 0] [(0, .ref a0), (1, .long l1), (3, .int (0 : Int32))] rfl ?_
    exact wl_Md_digest_52 hX hr hz FU a0 l1 (0 : Int32)
  · refine wm_iconst (0 : Int32) hX dX9_digest_14 (by decide) ?_
    refine wm_istore [(4, .int (0 : Int32)), (0, .ref a0), (1, .long l1), (3, .int i3)] hX dX9_digest_15 (by decide) rfl ?_
    refine wm_sub [1, 2, 3, 0] [(0, .ref a0), (1, .long l1), (3, .int i3), (4, .int (0 : Int32))] rfl ?_
    exact wl_Md_digest_17 hX hr hz h6 FU a0 l1 i3 (0 : Int32)
theorem wl_Md_digest_6 {X : CX Int64} (hX : Cx X RX9 cX9_digest 5 rm_Md_digest) (hr : Rt X injL (some .long) rm_Md_digest.cells rm_Md_digest.slots) (hz : Zx X false) : ∀ (n : Nat) (a0 : Nat) (l1 : Int64) (i3 : Int32), WM X 6 [(0, .ref a0), (1, .long l1), (3, .int i3)] [] 0 0 (l_Md_digest_6 n a0 l1 i3)
  | 0, _, _, _ => wm_fl
  | n + 1, a0, l1, i3 => wb_Md_digest_6 hX hr hz (wl_Md_digest_6 hX hr hz n) a0 l1 i3
set_option maxRecDepth 20000 in
theorem w_Md_digest {X : CX Int64} (hX : Cx X RX9 cX9_digest 5 rm_Md_digest) (hr : Rt X injL (some .long) rm_Md_digest.cells rm_Md_digest.slots) (hz : Zx X false) (a0 : Nat) : WM X 0 [(0, .ref a0)] [] 0 0 (m_Md_digest a0) := by
  unfold m_Md_digest
  refine wm_ckd ?_
  refine wm_ldc2 hX dX9_digest_0 wd_1139 ?_
  refine wm_lstore_n [(1, .long (17 : Int64)), (0, .ref a0)] hX dX9_digest_3 rfl (by decide) rfl ?_
  refine wm_iconst (0 : Int32) hX dX9_digest_4 (by decide) ?_
  refine wm_istore_n [(3, .int (0 : Int32)), (1, .long (17 : Int64)), (0, .ref a0)] hX dX9_digest_5 rfl (by decide) rfl ?_
  refine wm_sub [2, 1, 0] [(0, .ref a0), (1, .long (17 : Int64)), (3, .int (0 : Int32))] rfl ?_
  exact wl_Md_digest_6 hX hr hz FU a0 (17 : Int64) (0 : Int32)
theorem i_Md_digest (a0 : Nat) : Im false yX9_digest cX9_digest 5 (some .long) rm_Md_digest injL [.ref a0] (m_Md_digest a0) := Im.of RX9 (by decide) rfl (Nat.le_of_ble_eq_true rfl) (fun X hX hr hn hz => w_Md_digest hX hr hz a0)
