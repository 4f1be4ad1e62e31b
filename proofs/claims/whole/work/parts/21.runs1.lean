set_option maxRecDepth 20000 in
theorem wb_Md_tries_102 {X : CX Int32} (hX : Cx X RX9 cX9_tries 10 rm_Md_tries) (hr : Rt X injI (some .boolean) rm_Md_tries.cells rm_Md_tries.slots) (hz : Zx X false) {k102 : Nat → Int64 → Int64 → Int32 → M Int32} (h102 : ∀ (a0 : Nat) (l1 : Int64) (l7 : Int64) (i9 : Int32), WM X 102 [(0, .ref a0), (1, .long l1), (7, .long l7), (9, .int i9)] [] 0 0 (k102 a0 l1 l7 i9)) (a0 : Nat) (l1 : Int64) (l7 : Int64) (i9 : Int32) : WM X 102 [(0, .ref a0), (1, .long l1), (7, .long l7), (9, .int i9)] [] 0 0 (b_Md_tries_102 k102 a0 l1 l7 i9) := by
  unfold b_Md_tries_102
  refine wm_iload 3 hX dX9_tries_102 rfl ?_
  refine wm_aload_n 0 hX dX9_tries_104 rfl rfl ?_
  refine wm_gI hX fl_RX9_160 dX9_tries_105 (fun v1 => ?_)
  refine wm_icmp_ge 187 hX dX9_tries_108 (by decide) ?_ ?_
  · refine wm_iconst (1 : Int32) hX dX9_tries_187 (by decide) ?_
    exact wm_zret hX hr dX9_tries_188
  · refine wm_aload_n 0 hX dX9_tries_111 rfl rfl ?_
    refine wm_iload 3 hX dX9_tries_112 rfl ?_
    refine wm_lload 2 hX dX9_tries_114 rfl ?_
    refine wm_aload_n 0 hX dX9_tries_116 rfl rfl ?_
    refine wm_gR hX fl_RX9_36 dX9_tries_117 (fun v2 => ?_)
    refine wm_aload_n 0 hX dX9_tries_120 rfl rfl ?_
    refine wm_gI hX fl_RX9_211 dX9_tries_121 (fun v3 => ?_)
    refine wm_ldL hX dX9_tries_124 (fun v4 => ?_)
    refine wm_lload_n 1 hX dX9_tries_125 rfl rfl ?_
    refine wm_cVv (st := []) hX hz (i_Md_takes a0 i9 l7 v4 l1) Ckd.of rfl cal_Md_takes wd_997 rfl (fits_Md_tries_Md_takes) (Nat.le_of_ble_eq_true rfl) dX9_tries_126 ?_
    refine wm_aload_n 0 hX dX9_tries_129 rfl rfl ?_
    refine wm_gR hX fl_RX9_51 dX9_tries_130 (fun v5 => ?_)
    refine wm_bipush (6 : Int32) hX dX9_tries_133 (by decide) ?_
    refine wm_iload 3 hX dX9_tries_135 rfl ?_
    refine wm_imul hX dX9_tries_137 ?_
    refine wm_ldL hX dX9_tries_138 (fun v6 => ?_)
    refine wm_lstore [(7, .long v6), (0, .ref a0), (1, .long l1), (9, .int i9)] hX dX9_tries_139 (by decide) rfl ?_
    refine wm_lload 0 hX dX9_tries_141 rfl ?_
    refine wm_ldc2 hX dX9_tries_143 wd_1017 ?_
    refine wm_ldc2 hX dX9_tries_146 wd_1018 ?_
    refine wm_cSi (st := []) hX hz (i_Md_in v6 (-1125899906842623 : Int64) (1125899906842623 : Int64)) cal_Md_in wd_896 rfl (fits_Md_tries_Md_in) (Nat.le_of_ble_eq_true rfl) dX9_tries_149 (fun v7 => ?_)
    refine wm_if_eq 179 hX dX9_tries_152 (by decide) ?_ ?_
    · refine wm_iconst (0 : Int32) hX dX9_tries_179 (by decide) ?_
      exact wm_zret hX hr dX9_tries_180
    · refine wm_aload_n 1 hX dX9_tries_155 rfl rfl ?_
      refine wm_gR hX fl_RX9_51 dX9_tries_156 (fun v8 => ?_)
      refine wm_bipush (6 : Int32) hX dX9_tries_159 (by decide) ?_
      refine wm_iload 3 hX dX9_tries_161 rfl ?_
      refine wm_imul hX dX9_tries_163 ?_
      refine wm_iconst (1 : Int32) hX dX9_tries_164 (by decide) ?_
      refine wm_iadd hX dX9_tries_165 ?_
      refine wm_ldL hX dX9_tries_166 (fun v9 => ?_)
      refine wm_ldc2 hX dX9_tries_167 wd_1017 ?_
      refine wm_ldc2 hX dX9_tries_170 wd_1018 ?_
      refine wm_cSi (st := []) hX hz (i_Md_in v9 (-1125899906842623 : Int64) (1125899906842623 : Int64)) cal_Md_in wd_896 rfl (fits_Md_tries_Md_in) (Nat.le_of_ble_eq_true rfl) dX9_tries_173 (fun v10 => ?_)
      refine wm_if_ne 181 hX dX9_tries_176 (by decide) ?_ ?_
      · refine wm_iinc (i9 + 1) 3 [(9, .int (i9 + 1)), (7, .long v6), (0, .ref a0), (1, .long l1)] hX dX9_tries_181 rfl rfl (by decide) rfl ?_
        refine wm_goto (tgt := 102) hX dX9_tries_184 (by decide) ?_
        refine wm_sub [2, 3, 1, 0] [(0, .ref a0), (1, .long l1), (7, .long v6), (9, .int (i9 + 1))] rfl ?_
        exact h102 a0 l1 v6 (i9 + 1)
      · refine wm_iconst (0 : Int32) hX dX9_tries_179 (by decide) ?_
        exact wm_zret hX hr dX9_tries_180
theorem wl_Md_tries_102 {X : CX Int32} (hX : Cx X RX9 cX9_tries 10 rm_Md_tries) (hr : Rt X injI (some .boolean) rm_Md_tries.cells rm_Md_tries.slots) (hz : Zx X false) : ∀ (n : Nat) (a0 : Nat) (l1 : Int64) (l7 : Int64) (i9 : Int32), WM X 102 [(0, .ref a0), (1, .long l1), (7, .long l7), (9, .int i9)] [] 0 0 (l_Md_tries_102 n a0 l1 l7 i9)
  | 0, _, _, _, _ => wm_fl
  | n + 1, a0, l1, l7, i9 => wb_Md_tries_102 hX hr hz (wl_Md_tries_102 hX hr hz n) a0 l1 l7 i9
set_option maxRecDepth 20000 in
theorem w_Md_tries_82 {X : CX Int32} (hX : Cx X RX9 cX9_tries 10 rm_Md_tries) (hr : Rt X injI (some .boolean) rm_Md_tries.cells rm_Md_tries.slots) (hz : Zx X false) (a0 : Nat) (l1 : Int64) (l3 : Int64) (s0 : Int64) : WM X 82 [(0, .ref a0), (1, .long l1), (3, .long l3)] [.long s0] 0 0 (m_Md_tries_82 a0 l1 l3 s0) := by
  unfold m_Md_tries_82
  refine wm_lstore [(5, .long s0), (0, .ref a0), (1, .long l1), (3, .long l3)] hX dX9_tries_82 (by decide) rfl ?_
  refine wm_aload_n 1 hX dX9_tries_84 rfl rfl ?_
  refine wm_aload_n 1 hX dX9_tries_85 rfl rfl ?_
  refine wm_lload 0 hX dX9_tries_86 rfl ?_
  refine wm_lload_n 3 hX dX9_tries_88 rfl rfl ?_
  refine wm_ladd hX dX9_tries_89 ?_
  refine wm_cVi (st := [.ref a0]) hX hz (i_Md_nearest a0 (s0 + l3)) Ckd.of rfl cal_Md_nearest wd_993 rfl (fits_Md_tries_Md_nearest) (Nat.le_of_ble_eq_true rfl) dX9_tries_90 (fun v1 => ?_)
  refine wm_pI hX fp_RX9_211 dX9_tries_93 ?_
  refine wm_lload_n 2 hX dX9_tries_96 rfl rfl ?_
  refine wm_lstore [(7, .long l1), (5, .long s0), (0, .ref a0), (1, .long l1), (3, .long l3)] hX dX9_tries_97 (by decide) rfl ?_
  refine wm_iconst (0 : Int32) hX dX9_tries_99 (by decide) ?_
  refine wm_istore [(9, .int (0 : Int32)), (7, .long l1), (5, .long s0), (0, .ref a0), (1, .long l1), (3, .long l3)] hX dX9_tries_100 (by decide) rfl ?_
  refine wm_sub [3, 4, 1, 0] [(0, .ref a0), (1, .long l1), (7, .long l1), (9, .int (0 : Int32))] rfl ?_
  exact wl_Md_tries_102 hX hr hz FU a0 l1 l1 (0 : Int32)
set_option maxRecDepth 20000 in
theorem w_Md_tries_56 {X : CX Int32} (hX : Cx X RX9 cX9_tries 10 rm_Md_tries) (hr : Rt X injI (some .boolean) rm_Md_tries.cells rm_Md_tries.slots) (hz : Zx X false) (a0 : Nat) (l1 : Int64) (l3 : Int64) : WM X 56 [(0, .ref a0), (1, .long l1), (3, .long l3)] [] 0 0 (m_Md_tries_56 a0 l1 l3) := by
  unfold m_Md_tries_56
  refine wm_aload_n 0 hX dX9_tries_56 rfl rfl ?_
  refine wm_gI hX fl_RX9_160 dX9_tries_57 (fun v1 => ?_)
  refine wm_if_ne 67 hX dX9_tries_60 (by decide) ?_ ?_
  · refine wm_aload_n 0 hX dX9_tries_67 rfl rfl ?_
    refine wm_gR hX fl_RX9_51 dX9_tries_68 (fun v2 => ?_)
    refine wm_bipush (6 : Int32) hX dX9_tries_71 (by decide) ?_
    refine wm_aload_n 0 hX dX9_tries_73 rfl rfl ?_
    refine wm_gI hX fl_RX9_160 dX9_tries_74 (fun v3 => ?_)
    refine wm_imul hX dX9_tries_77 ?_
    refine wm_bipush (6 : Int32) hX dX9_tries_78 (by decide) ?_
    refine wm_isub hX dX9_tries_80 ?_
    refine wm_ldL hX dX9_tries_81 (fun v4 => ?_)
    exact w_Md_tries_82 hX hr hz a0 l1 l3 v4
  · refine wm_lload_n 1 hX dX9_tries_63 rfl rfl ?_
    refine wm_goto (tgt := 82) hX dX9_tries_64 (by decide) ?_
    exact w_Md_tries_82 hX hr hz a0 l1 l3 l1
set_option maxRecDepth 20000 in
theorem w_Md_tries {X : CX Int32} (hX : Cx X RX9 cX9_tries 10 rm_Md_tries) (hr : Rt X injI (some .boolean) rm_Md_tries.cells rm_Md_tries.slots) (hz : Zx X false) (a0 : Nat) (l1 : Int64) : WM X 0 [(0, .ref a0), (1, .long l1)] [] 0 0 (m_Md_tries a0 l1) := by
  unfold m_Md_tries
  refine wm_ckd ?_
  refine wm_aload_n 0 hX dX9_tries_0 rfl rfl ?_
  refine wm_iconst (0 : Int32) hX dX9_tries_1 (by decide) ?_
  refine wm_pI hX fp_RX9_186 dX9_tries_2 ?_
  refine wm_lconst (0 : Int64) hX dX9_tries_5 (by decide) ?_
  refine wm_lstore_n [(3, .long (0 : Int64)), (0, .ref a0), (1, .long l1)] hX dX9_tries_6 rfl (by decide) rfl ?_
  refine wm_aload_n 1 hX dX9_tries_7 rfl rfl ?_
  refine wm_gI hX fl_RX9_173 dX9_tries_8 (fun v1 => ?_)
  refine wm_if_le 56 hX dX9_tries_11 (by decide) ?_ ?_
  · refine wm_sub [1, 2, 0] [(0, .ref a0), (1, .long l1), (3, .long (0 : Int64))] rfl ?_
    exact w_Md_tries_56 hX hr hz a0 l1 (0 : Int64)
  · refine wm_aload_n 1 hX dX9_tries_14 rfl rfl ?_
    refine wm_ldc2 hX dX9_tries_15 wd_991 ?_
    refine wm_aload_n 1 hX dX9_tries_18 rfl rfl ?_
    refine wm_gL hX fl_RX9_183 dX9_tries_19 (fun v2 => ?_)
    refine wm_lmul hX dX9_tries_22 ?_
    refine wm_ldc2 hX dX9_tries_23 wd_992 ?_
    refine wm_ladd hX dX9_tries_26 ?_
    refine wm_pL hX fp_RX9_183 dX9_tries_27 ?_
    refine wm_aload_n 1 hX dX9_tries_30 rfl rfl ?_
    refine wm_gL hX fl_RX9_183 dX9_tries_31 (fun v3 => ?_)
    refine wm_bipush (33 : Int32) hX dX9_tries_34 (by decide) ?_
    refine wm_lushr hX dX9_tries_36 ?_
    refine wm_ldc2 hX dX9_tries_37 wd_961 ?_
    refine wm_aload_n 1 hX dX9_tries_40 rfl rfl ?_
    refine wm_gI hX fl_RX9_173 dX9_tries_41 (fun v4 => ?_)
    refine wm_i2l hX dX9_tries_44 ?_
    refine wm_lmul hX dX9_tries_45 ?_
    refine wm_lconst (1 : Int64) hX dX9_tries_46 (by decide) ?_
    refine wm_ladd hX dX9_tries_47 ?_
    refine wm_lrm hX dX9_tries_48 (fun v5 => ?_)
    refine wm_aload_n 1 hX dX9_tries_49 rfl rfl ?_
    refine wm_gI hX fl_RX9_173 dX9_tries_50 (fun v6 => ?_)
    refine wm_i2l hX dX9_tries_53 ?_
    refine wm_lsub hX dX9_tries_54 ?_
    refine wm_letl (fun v7 => ?_)
    refine wm_lstore_n [(3, .long v7), (0, .ref a0), (1, .long l1)] hX dX9_tries_55 rfl (by decide) rfl ?_
    refine wm_sub [1, 2, 0] [(0, .ref a0), (1, .long l1), (3, .long v7)] rfl ?_
    exact w_Md_tries_56 hX hr hz a0 l1 v7
theorem i_Md_tries (a0 : Nat) (l1 : Int64) : Im false yX9_tries cX9_tries 10 (some .boolean) rm_Md_tries injI [.ref a0, .long l1] (m_Md_tries a0 l1) := Im.of RX9 (by decide) rfl (Nat.le_of_ble_eq_true rfl) (fun X hX hr hn hz => w_Md_tries hX hr hz a0 l1)
set_option maxRecDepth 20000 in
theorem wb_Md_lay_2 {X : CX Unit} (hX : Cx X RX9 cX9_lay 2 rm_Md_lay) (hr : Rt X injV none rm_Md_lay.cells rm_Md_lay.slots) (hz : Zx X false) {k2 : Nat → Int32 → M Unit} (h2 : ∀ (a0 : Nat) (i1 : Int32), WM X 2 [(0, .ref a0), (1, .int i1)] [] 0 0 (k2 a0 i1)) (a0 : Nat) (i1 : Int32) : WM X 2 [(0, .ref a0), (1, .int i1)] [] 0 0 (b_Md_lay_2 k2 a0 i1) := by
  unfold b_Md_lay_2
  refine wm_iload_n 1 hX dX9_lay_2 rfl rfl ?_
  refine wm_bipush (30 : Int32) hX dX9_lay_3 (by decide) ?_
  refine wm_icmp_ge 26 hX dX9_lay_5 (by decide) ?_ ?_
  · refine wm_aload_n 0 hX dX9_lay_26 rfl rfl ?_
    refine wm_aload_n 0 hX dX9_lay_27 rfl rfl ?_
    refine wm_gL hX fl_RX9_183 dX9_lay_28 (fun v1 => ?_)
    refine wm_pL hX fp_RX9_180 dX9_lay_31 ?_
    exact wm_vret hX hr dX9_lay_34
  · refine wm_aload_n 0 hX dX9_lay_8 rfl rfl ?_
    refine wm_gR hX fl_RX9_39 dX9_lay_9 (fun v2 => ?_)
    refine wm_iload_n 1 hX dX9_lay_12 rfl rfl ?_
    refine wm_aload_n 0 hX dX9_lay_13 rfl rfl ?_
    refine wm_gR hX fl_RX9_51 dX9_lay_14 (fun v3 => ?_)
    refine wm_iload_n 1 hX dX9_lay_17 rfl rfl ?_
    refine wm_ldL hX dX9_lay_18 (fun v4 => ?_)
    refine wm_stL hX dX9_lay_19 ?_
    refine wm_iinc (i1 + 1) 1 [(1, .int (i1 + 1)), (0, .ref a0)] hX dX9_lay_20 rfl rfl (by decide) rfl ?_
    refine wm_goto (tgt := 2) hX dX9_lay_23 (by decide) ?_
    refine wm_sub [1, 0] [(0, .ref a0), (1, .int (i1 + 1))] rfl ?_
    exact h2 a0 (i1 + 1)
theorem wl_Md_lay_2 {X : CX Unit} (hX : Cx X RX9 cX9_lay 2 rm_Md_lay) (hr : Rt X injV none rm_Md_lay.cells rm_Md_lay.slots) (hz : Zx X false) : ∀ (n : Nat) (a0 : Nat) (i1 : Int32), WM X 2 [(0, .ref a0), (1, .int i1)] [] 0 0 (l_Md_lay_2 n a0 i1)
  | 0, _, _ => wm_fl
  | n + 1, a0, i1 => wb_Md_lay_2 hX hr hz (wl_Md_lay_2 hX hr hz n) a0 i1
set_option maxRecDepth 20000 in
theorem w_Md_lay {X : CX Unit} (hX : Cx X RX9 cX9_lay 2 rm_Md_lay) (hr : Rt X injV none rm_Md_lay.cells rm_Md_lay.slots) (hz : Zx X false) (a0 : Nat) : WM X 0 [(0, .ref a0)] [] 0 0 (m_Md_lay a0) := by
  unfold m_Md_lay
  refine wm_ckd ?_
  refine wm_iconst (0 : Int32) hX dX9_lay_0 (by decide) ?_
  refine wm_istore_n [(1, .int (0 : Int32)), (0, .ref a0)] hX dX9_lay_1 rfl (by decide) rfl ?_
  refine wm_sub [1, 0] [(0, .ref a0), (1, .int (0 : Int32))] rfl ?_
  exact wl_Md_lay_2 hX hr hz FU a0 (0 : Int32)
theorem i_Md_lay (a0 : Nat) : Im false yX9_lay cX9_lay 2 none rm_Md_lay injV [.ref a0] (m_Md_lay a0) := Im.of RX9 (by decide) rfl (Nat.le_of_ble_eq_true rfl) (fun X hX hr hn hz => w_Md_lay hX hr hz a0)
set_option maxRecDepth 20000 in
theorem wb_Md_does_138 {X : CX Int32} (hX : Cx X RX9 cX9_does 4 rm_Md_does) (hr : Rt X injI (some .int) rm_Md_does.cells rm_Md_does.slots) (hz : Zx X false) {k138 : Nat → Int32 → M Int32} (h138 : ∀ (a0 : Nat) (i3 : Int32), WM X 138 [(0, .ref a0), (3, .int i3)] [] 0 0 (k138 a0 i3)) (a0 : Nat) (i3 : Int32) : WM X 138 [(0, .ref a0), (3, .int i3)] [] 0 0 (b_Md_does_138 k138 a0 i3) := by
  unfold b_Md_does_138
  refine wm_iload_n 1 hX dX9_does_138 rfl rfl ?_
  refine wm_aload_n 0 hX dX9_does_139 rfl rfl ?_
  refine wm_gI hX fl_RX9_231 dX9_does_140 (fun v1 => ?_)
  refine wm_icmp_ge 164 hX dX9_does_143 (by decide) ?_ ?_
  · refine wm_aload_n 0 hX dX9_does_164 rfl rfl ?_
    refine wm_dup hX dX9_does_165 rfl ?_
    refine wm_gI hX fl_RX9_129 dX9_does_166 (fun v2 => ?_)
    refine wm_iconst (1 : Int32) hX dX9_does_169 (by decide) ?_
    refine wm_iadd hX dX9_does_170 ?_
    refine wm_pI hX fp_RX9_129 dX9_does_171 ?_
    refine wm_aload_n 0 hX dX9_does_174 rfl rfl ?_
    refine wm_gI hX fl_RX9_211 dX9_does_175 (fun v3 => ?_)
    exact wm_iret hX hr dX9_does_178
  · refine wm_aload_n 0 hX dX9_does_146 rfl rfl ?_
    refine wm_gR hX fl_RX9_48 dX9_does_147 (fun v4 => ?_)
    refine wm_iload_n 1 hX dX9_does_150 rfl rfl ?_
    refine wm_aload_n 0 hX dX9_does_151 rfl rfl ?_
    refine wm_gR hX fl_RX9_54 dX9_does_152 (fun v5 => ?_)
    refine wm_iload_n 1 hX dX9_does_155 rfl rfl ?_
    refine wm_ldI hX dX9_does_156 (fun v6 => ?_)
    refine wm_stI hX dX9_does_157 ?_
    refine wm_iinc (i3 + 1) 1 [(3, .int (i3 + 1)), (0, .ref a0)] hX dX9_does_158 rfl rfl (by decide) rfl ?_
    refine wm_goto (tgt := 138) hX dX9_does_161 (by decide) ?_
    refine wm_sub [1, 0] [(0, .ref a0), (3, .int (i3 + 1))] rfl ?_
    exact h138 a0 (i3 + 1)
theorem wl_Md_does_138 {X : CX Int32} (hX : Cx X RX9 cX9_does 4 rm_Md_does) (hr : Rt X injI (some .int) rm_Md_does.cells rm_Md_does.slots) (hz : Zx X false) : ∀ (n : Nat) (a0 : Nat) (i3 : Int32), WM X 138 [(0, .ref a0), (3, .int i3)] [] 0 0 (l_Md_does_138 n a0 i3)
  | 0, _, _ => wm_fl
  | n + 1, a0, i3 => wb_Md_does_138 hX hr hz (wl_Md_does_138 hX hr hz n) a0 i3
set_option maxRecDepth 20000 in
theorem wb_Md_does_80 {X : CX Int32} (hX : Cx X RX9 cX9_does 4 rm_Md_does) (hr : Rt X injI (some .int) rm_Md_does.cells rm_Md_does.slots) (hz : Zx X false) {k80 : Nat → Int32 → M Int32} (h80 : ∀ (a0 : Nat) (i3 : Int32), WM X 80 [(0, .ref a0), (3, .int i3)] [] 0 0 (k80 a0 i3)) (a0 : Nat) (i3 : Int32) : WM X 80 [(0, .ref a0), (3, .int i3)] [] 0 0 (b_Md_does_80 k80 a0 i3) := by
  unfold b_Md_does_80
  refine wm_iload_n 1 hX dX9_does_80 rfl rfl ?_
  refine wm_iconst (5 : Int32) hX dX9_does_81 (by decide) ?_
  refine wm_icmp_ge 128 hX dX9_does_82 (by decide) ?_ ?_
  · refine wm_aload_n 0 hX dX9_does_128 rfl rfl ?_
    refine wm_aload_n 0 hX dX9_does_129 rfl rfl ?_
    refine wm_gI hX fl_RX9_186 dX9_does_130 (fun v1 => ?_)
    refine wm_pI hX fp_RX9_231 dX9_does_133 ?_
    refine wm_iconst (0 : Int32) hX dX9_does_136 (by decide) ?_
    refine wm_istore_n [(3, .int (0 : Int32)), (0, .ref a0)] hX dX9_does_137 rfl (by decide) rfl ?_
    refine wm_sub [1, 0] [(0, .ref a0), (3, .int (0 : Int32))] rfl ?_
    exact wl_Md_does_138 hX hr hz FU a0 (0 : Int32)
  · refine wm_aload_n 0 hX dX9_does_85 rfl rfl ?_
    refine wm_gR hX fl_RX9_45 dX9_does_86 (fun v2 => ?_)
    refine wm_bipush (7 : Int32) hX dX9_does_89 (by decide) ?_
    refine wm_aload_n 0 hX dX9_does_91 rfl rfl ?_
    refine wm_gI hX fl_RX9_129 dX9_does_92 (fun v3 => ?_)
    refine wm_imul hX dX9_does_95 ?_
    refine wm_iconst (2 : Int32) hX dX9_does_96 (by decide) ?_
    refine wm_iadd hX dX9_does_97 ?_
    refine wm_iload_n 1 hX dX9_does_98 rfl rfl ?_
    refine wm_iadd hX dX9_does_99 ?_
    refine wm_iload_n 1 hX dX9_does_100 rfl rfl ?_
    refine wm_aload_n 0 hX dX9_does_101 rfl rfl ?_
    refine wm_gI hX fl_RX9_160 dX9_does_102 (fun v4 => ?_)
    refine wm_icmp_ge 120 hX dX9_does_105 (by decide) ?_ ?_
    · refine wm_lconst (0 : Int64) hX dX9_does_120 (by decide) ?_
      refine wm_stL hX dX9_does_121 ?_
      refine wm_iinc (i3 + 1) 1 [(3, .int (i3 + 1)), (0, .ref a0)] hX dX9_does_122 rfl rfl (by decide) rfl ?_
      refine wm_goto (tgt := 80) hX dX9_does_125 (by decide) ?_
      refine wm_sub [1, 0] [(0, .ref a0), (3, .int (i3 + 1))] rfl ?_
      exact h80 a0 (i3 + 1)
    · refine wm_aload_n 0 hX dX9_does_108 rfl rfl ?_
      refine wm_gR hX fl_RX9_39 dX9_does_109 (fun v5 => ?_)
      refine wm_bipush (6 : Int32) hX dX9_does_112 (by decide) ?_
      refine wm_iload_n 1 hX dX9_does_114 rfl rfl ?_
      refine wm_imul hX dX9_does_115 ?_
      refine wm_ldL hX dX9_does_116 (fun v6 => ?_)
      refine wm_goto (tgt := 121) hX dX9_does_117 (by decide) ?_
      refine wm_stL hX dX9_does_121 ?_
      refine wm_iinc (i3 + 1) 1 [(3, .int (i3 + 1)), (0, .ref a0)] hX dX9_does_122 rfl rfl (by decide) rfl ?_
      refine wm_goto (tgt := 80) hX dX9_does_125 (by decide) ?_
      refine wm_sub [1, 0] [(0, .ref a0), (3, .int (i3 + 1))] rfl ?_
      exact h80 a0 (i3 + 1)
theorem wl_Md_does_80 {X : CX Int32} (hX : Cx X RX9 cX9_does 4 rm_Md_does) (hr : Rt X injI (some .int) rm_Md_does.cells rm_Md_does.slots) (hz : Zx X false) : ∀ (n : Nat) (a0 : Nat) (i3 : Int32), WM X 80 [(0, .ref a0), (3, .int i3)] [] 0 0 (l_Md_does_80 n a0 i3)
  | 0, _, _ => wm_fl
  | n + 1, a0, i3 => wb_Md_does_80 hX hr hz (wl_Md_does_80 hX hr hz n) a0 i3
set_option maxRecDepth 20000 in
theorem w_Md_does {X : CX Int32} (hX : Cx X RX9 cX9_does 4 rm_Md_does) (hr : Rt X injI (some .int) rm_Md_does.cells rm_Md_does.slots) (hz : Zx X false) (a0 : Nat) (l1 : Int64) : WM X 0 [(0, .ref a0), (1, .long l1)] [] 0 0 (m_Md_does a0 l1) := by
  unfold m_Md_does
  refine wm_ckd ?_
  refine wm_aload_n 0 hX dX9_does_0 rfl rfl ?_
  refine wm_gI hX fl_RX9_129 dX9_does_1 (fun v1 => ?_)
  refine wm_sipush (300 : Int32) hX dX9_does_4 (by decide) ?_
  refine wm_icmp_ne 13 hX dX9_does_7 (by decide) ?_ ?_
  · refine wm_aload_n 0 hX dX9_does_13 rfl rfl ?_
    refine wm_cVv (st := []) hX hz (i_Md_take a0) Ckd.of rfl cal_Md_take wd_983 rfl (fits_Md_does_Md_take) (Nat.le_of_ble_eq_true rfl) dX9_does_14 ?_
    refine wm_aload_n 0 hX dX9_does_17 rfl rfl ?_
    refine wm_lload_n 1 hX dX9_does_18 rfl rfl ?_
    refine wm_cVi (st := []) hX hz (i_Md_tries a0 l1) Ckd.of rfl cal_Md_tries wd_987 rfl (fits_Md_does_Md_tries) (Nat.le_of_ble_eq_true rfl) dX9_does_19 (fun v2 => ?_)
    refine wm_if_ne 28 hX dX9_does_22 (by decide) ?_ ?_
    · refine wm_aload_n 0 hX dX9_does_28 rfl rfl ?_
      refine wm_cVv (st := []) hX hz (i_Md_lay a0) Ckd.of rfl cal_Md_lay wd_1019 rfl (fits_Md_does_Md_lay) (Nat.le_of_ble_eq_true rfl) dX9_does_29 ?_
      refine wm_aload_n 0 hX dX9_does_32 rfl rfl ?_
      refine wm_gR hX fl_RX9_42 dX9_does_33 (fun v3 => ?_)
      refine wm_aload_n 0 hX dX9_does_36 rfl rfl ?_
      refine wm_gI hX fl_RX9_129 dX9_does_37 (fun v4 => ?_)
      refine wm_lload_n 1 hX dX9_does_40 rfl rfl ?_
      refine wm_stL hX dX9_does_41 ?_
      refine wm_aload_n 0 hX dX9_does_42 rfl rfl ?_
      refine wm_gR hX fl_RX9_45 dX9_does_43 (fun v5 => ?_)
      refine wm_bipush (7 : Int32) hX dX9_does_46 (by decide) ?_
      refine wm_aload_n 0 hX dX9_does_48 rfl rfl ?_
      refine wm_gI hX fl_RX9_129 dX9_does_49 (fun v6 => ?_)
      refine wm_imul hX dX9_does_52 ?_
      refine wm_lload_n 1 hX dX9_does_53 rfl rfl ?_
      refine wm_stL hX dX9_does_54 ?_
      refine wm_aload_n 0 hX dX9_does_55 rfl rfl ?_
      refine wm_gR hX fl_RX9_45 dX9_does_56 (fun v7 => ?_)
      refine wm_bipush (7 : Int32) hX dX9_does_59 (by decide) ?_
      refine wm_aload_n 0 hX dX9_does_61 rfl rfl ?_
      refine wm_gI hX fl_RX9_129 dX9_does_62 (fun v8 => ?_)
      refine wm_imul hX dX9_does_65 ?_
      refine wm_iconst (1 : Int32) hX dX9_does_66 (by decide) ?_
      refine wm_iadd hX dX9_does_67 ?_
      refine wm_aload_n 0 hX dX9_does_68 rfl rfl ?_
      refine wm_gR hX fl_RX9_36 dX9_does_69 (fun v9 => ?_)
      refine wm_aload_n 0 hX dX9_does_72 rfl rfl ?_
      refine wm_gI hX fl_RX9_211 dX9_does_73 (fun v10 => ?_)
      refine wm_ldL hX dX9_does_76 (fun v11 => ?_)
      refine wm_stL hX dX9_does_77 ?_
      refine wm_iconst (0 : Int32) hX dX9_does_78 (by decide) ?_
      refine wm_istore_n [(3, .int (0 : Int32)), (0, .ref a0), (1, .long l1)] hX dX9_does_79 rfl (by decide) rfl ?_
      refine wm_sub [1, 0] [(0, .ref a0), (3, .int (0 : Int32))] rfl ?_
      exact wl_Md_does_80 hX hr hz FU a0 (0 : Int32)
    · refine wm_bipush (-6 : Int32) hX dX9_does_25 (by decide) ?_
      exact wm_iret hX hr dX9_does_27
  · refine wm_bipush (-4 : Int32) hX dX9_does_10 (by decide) ?_
    exact wm_iret hX hr dX9_does_12
theorem i_Md_does (a0 : Nat) (l1 : Int64) : Im false yX9_does cX9_does 4 (some .int) rm_Md_does injI [.ref a0, .long l1] (m_Md_does a0 l1) := Im.of RX9 (by decide) rfl (Nat.le_of_ble_eq_true rfl) (fun X hX hr hn hz => w_Md_does hX hr hz a0 l1)
set_option maxRecDepth 20000 in
theorem w_Md_step {X : CX Int32} (hX : Cx X RX9 cX9_step 3 rm_Md_step) (hr : Rt X injI (some .int) rm_Md_step.cells rm_Md_step.slots) (hz : Zx X false) (a0 : Nat) (l1 : Int64) : WM X 0 [(0, .ref a0), (1, .long l1)] [] 0 0 (m_Md_step a0 l1) := by
  unfold m_Md_step
  refine wm_ckd ?_
  refine wm_lload_n 1 hX dX9_step_0 rfl rfl ?_
  refine wm_cSi (st := []) hX hz (i_Md_isSample l1) cal_Md_isSample wd_963 rfl (fits_Md_step_Md_isSample) (Nat.le_of_ble_eq_true rfl) dX9_step_1 (fun v1 => ?_)
  refine wm_if_eq 15 hX dX9_step_4 (by decide) ?_ ?_
  · refine wm_bipush (-2 : Int32) hX dX9_step_15 (by decide) ?_
    exact wm_iret hX hr dX9_step_17
  · refine wm_aload_n 0 hX dX9_step_7 rfl rfl ?_
    refine wm_lload_n 1 hX dX9_step_8 rfl rfl ?_
    refine wm_cVi (st := []) hX hz (i_Md_does a0 l1) Ckd.of rfl cal_Md_does wd_979 rfl (fits_Md_step_Md_does) (Nat.le_of_ble_eq_true rfl) dX9_step_9 (fun v2 => ?_)
    refine wm_goto (tgt := 17) hX dX9_step_12 (by decide) ?_
    exact wm_iret hX hr dX9_step_17
theorem i_Md_step (a0 : Nat) (l1 : Int64) : Im false yX9_step cX9_step 3 (some .int) rm_Md_step injI [.ref a0, .long l1] (m_Md_step a0 l1) := Im.of RX9 (by decide) rfl (Nat.le_of_ble_eq_true rfl) (fun X hX hr hn hz => w_Md_step hX hr hz a0 l1)
set_option maxRecDepth 20000 in
theorem wb_Ob_run_25 {X : CX Int32} (hX : Cx X RX8 cX8_run 8 rm_Ob_run) (hr : Rt X injI (some .int) rm_Ob_run.cells rm_Ob_run.slots) (hz : Zx X false) {k25 : Nat → Int32 → Int32 → Int32 → Int32 → M Int32} (h25 : ∀ (a0 : Nat) (i1 : Int32) (i2 : Int32) (i3 : Int32) (i4 : Int32), WM X 25 [(0, .ref a0), (1, .int i1), (2, .int i2), (3, .int i3), (4, .int i4)] [] 0 0 (k25 a0 i1 i2 i3 i4)) (a0 : Nat) (i1 : Int32) (i2 : Int32) (i3 : Int32) (i4 : Int32) : WM X 25 [(0, .ref a0), (1, .int i1), (2, .int i2), (3, .int i3), (4, .int i4)] [] 0 0 (b_Ob_run_25 k25 a0 i1 i2 i3 i4) := by
  unfold b_Ob_run_25
  refine wm_iload 4 hX dX8_run_25 rfl ?_
  refine wm_iload_n 3 hX dX8_run_27 rfl rfl ?_
  refine wm_icmp_ge 92 hX dX8_run_28 (by decide) ?_ ?_
  · refine wm_aload_n 0 hX dX8_run_92 rfl rfl ?_
    refine wm_gR hX fl_RX8_26 dX8_run_93 (fun v1 => ?_)
    refine wm_gI hX fl_RX8_138 dX8_run_96 (fun v2 => ?_)
    exact wm_iret hX hr dX8_run_99
  · refine wm_iload_n 2 hX dX8_run_31 rfl rfl ?_
    refine wm_i2l hX dX8_run_32 ?_
    refine wm_iload 4 hX dX8_run_33 rfl ?_
    refine wm_i2l hX dX8_run_35 ?_
    refine wm_ladd hX dX8_run_36 ?_
    refine wm_letl (fun v3 => ?_)
    refine wm_lstore [(5, .long v3), (0, .ref a0), (1, .int i1), (2, .int i2), (3, .int i3), (4, .int i4)] hX dX8_run_37 (by decide) rfl ?_
    refine wm_aload_n 1 hX dX8_run_39 rfl rfl ?_
    refine wm_iload_n 2 hX dX8_run_40 rfl rfl ?_
    refine wm_lload 0 hX dX8_run_41 rfl ?_
    refine wm_cVi (st := []) hX hz (i_Ob_refuseSample a0 i1 v3) Ckd.of rfl cal_Ob_refuseSample wd_417 rfl (fits_Ob_run_Ob_refuseSample) (Nat.le_of_ble_eq_true rfl) dX8_run_43 (fun v4 => ?_)
    refine wm_istore [(7, .int v4), (5, .long v3), (0, .ref a0), (1, .int i1), (2, .int i2), (3, .int i3), (4, .int i4)] hX dX8_run_46 (by decide) rfl ?_
    refine wm_iload 0 hX dX8_run_48 rfl ?_
    refine wm_if_ne 78 hX dX8_run_50 (by decide) ?_ ?_
    · refine wm_iload 0 hX dX8_run_78 rfl ?_
      refine wm_if_ge 86 hX dX8_run_80 (by decide) ?_ ?_
      · refine wm_iinc (i4 + 1) 6 [(4, .int (i4 + 1)), (7, .int v4), (5, .long v3), (0, .ref a0), (1, .int i1), (2, .int i2), (3, .int i3)] hX dX8_run_86 rfl rfl (by decide) rfl ?_
        refine wm_goto (tgt := 25) hX dX8_run_89 (by decide) ?_
        refine wm_sub [3, 4, 5, 6, 0] [(0, .ref a0), (1, .int i1), (2, .int i2), (3, .int i3), (4, .int (i4 + 1))] rfl ?_
        exact h25 a0 i1 i2 i3 (i4 + 1)
      · refine wm_iload 0 hX dX8_run_83 rfl ?_
        exact wm_iret hX hr dX8_run_85
    · refine wm_aload_n 2 hX dX8_run_53 rfl rfl ?_
      refine wm_aload_n 2 hX dX8_run_54 rfl rfl ?_
      refine wm_gR hX fl_RX8_11 dX8_run_55 (fun v5 => ?_)
      refine wm_iload_n 3 hX dX8_run_58 rfl rfl ?_
      refine wm_ldR (by decide) hX dX8_run_59 (fun v6 => ?_)
      refine wm_lload 1 hX dX8_run_60 rfl ?_
      refine wm_l2i hX dX8_run_62 ?_
      refine wm_aload_n 2 hX dX8_run_63 rfl rfl ?_
      refine wm_gR hX fl_RX8_26 dX8_run_64 (fun v7 => ?_)
      refine wm_cVl (st := [.int (v3.toInt32), .ref v6, .ref a0]) hX hz (i_Lg_latestMade v7) Ckd.of rfl cal_Lg_latestMade wd_421 rfl (fits_Ob_run_Lg_latestMade) (Nat.le_of_ble_eq_true rfl) dX8_run_67 (fun v8 => ?_)
      refine wm_cVl (st := [.ref a0]) hX hz (i_Rl_sampleOf v6 (v3.toInt32) v8) Ckd.of rfl cal_Rl_sampleOf wd_425 rfl (fits_Ob_run_Rl_sampleOf) (Nat.le_of_ble_eq_true rfl) dX8_run_70 (fun v9 => ?_)
      refine wm_cVi (st := []) hX hz (i_Ob_makeOne a0 v9) Ckd.of rfl cal_Ob_makeOne wd_494 rfl (fits_Ob_run_Ob_makeOne) (Nat.le_of_ble_eq_true rfl) dX8_run_73 (fun v10 => ?_)
      refine wm_istore [(7, .int v10), (5, .long v3), (0, .ref a0), (1, .int i1), (2, .int i2), (3, .int i3), (4, .int i4)] hX dX8_run_76 (by decide) rfl ?_
      refine wm_iload 0 hX dX8_run_78 rfl ?_
      refine wm_if_ge 86 hX dX8_run_80 (by decide) ?_ ?_
      · refine wm_iinc (i4 + 1) 6 [(4, .int (i4 + 1)), (7, .int v10), (5, .long v3), (0, .ref a0), (1, .int i1), (2, .int i2), (3, .int i3)] hX dX8_run_86 rfl rfl (by decide) rfl ?_
        refine wm_goto (tgt := 25) hX dX8_run_89 (by decide) ?_
        refine wm_sub [3, 4, 5, 6, 0] [(0, .ref a0), (1, .int i1), (2, .int i2), (3, .int i3), (4, .int (i4 + 1))] rfl ?_
        exact h25 a0 i1 i2 i3 (i4 + 1)
      · refine wm_iload 0 hX dX8_run_83 rfl ?_
        exact wm_iret hX hr dX8_run_85
theorem wl_Ob_run_25 {X : CX Int32} (hX : Cx X RX8 cX8_run 8 rm_Ob_run) (hr : Rt X injI (some .int) rm_Ob_run.cells rm_Ob_run.slots) (hz : Zx X false) : ∀ (n : Nat) (a0 : Nat) (i1 : Int32) (i2 : Int32) (i3 : Int32) (i4 : Int32), WM X 25 [(0, .ref a0), (1, .int i1), (2, .int i2), (3, .int i3), (4, .int i4)] [] 0 0 (l_Ob_run_25 n a0 i1 i2 i3 i4)
  | 0, _, _, _, _, _ => wm_fl
  | n + 1, a0, i1, i2, i3, i4 => wb_Ob_run_25 hX hr hz (wl_Ob_run_25 hX hr hz n) a0 i1 i2 i3 i4
set_option maxRecDepth 20000 in
theorem w_Ob_run {X : CX Int32} (hX : Cx X RX8 cX8_run 8 rm_Ob_run) (hr : Rt X injI (some .int) rm_Ob_run.cells rm_Ob_run.slots) (hz : Zx X false) (a0 : Nat) (i1 : Int32) (i2 : Int32) (i3 : Int32) : WM X 0 [(0, .ref a0), (1, .int i1), (2, .int i2), (3, .int i3)] [] 0 0 (m_Ob_run a0 i1 i2 i3) := by
  unfold m_Ob_run
  refine wm_ckd ?_
  refine wm_iload_n 1 hX dX8_run_0 rfl rfl ?_
  refine wm_cSi (st := []) hX hz (i_Ob_isReel i1) cal_Ob_isReel wd_353 rfl (fits_Ob_run_Ob_isReel) (Nat.le_of_ble_eq_true rfl) dX8_run_1 (fun v1 => ?_)
  refine wm_if_eq 19 hX dX8_run_4 (by decide) ?_ ?_
  · refine wm_bipush (-2 : Int32) hX dX8_run_19 (by decide) ?_
    exact wm_iret hX hr dX8_run_21
  · refine wm_iload_n 3 hX dX8_run_7 rfl rfl ?_
    refine wm_iconst (1 : Int32) hX dX8_run_8 (by decide) ?_
    refine wm_icmp_lt 19 hX dX8_run_9 (by decide) ?_ ?_
    · refine wm_bipush (-2 : Int32) hX dX8_run_19 (by decide) ?_
      exact wm_iret hX hr dX8_run_21
    · refine wm_iload_n 3 hX dX8_run_12 rfl rfl ?_
      refine wm_sipush (300 : Int32) hX dX8_run_13 (by decide) ?_
      refine wm_icmp_le 22 hX dX8_run_16 (by decide) ?_ ?_
      · refine wm_iconst (0 : Int32) hX dX8_run_22 (by decide) ?_
        refine wm_istore [(4, .int (0 : Int32)), (0, .ref a0), (1, .int i1), (2, .int i2), (3, .int i3)] hX dX8_run_23 (by decide) rfl ?_
        refine wm_sub [1, 2, 3, 4, 0] [(0, .ref a0), (1, .int i1), (2, .int i2), (3, .int i3), (4, .int (0 : Int32))] rfl ?_
        exact wl_Ob_run_25 hX hr hz FU a0 i1 i2 i3 (0 : Int32)
      · refine wm_bipush (-2 : Int32) hX dX8_run_19 (by decide) ?_
        exact wm_iret hX hr dX8_run_21
theorem i_Ob_run (a0 : Nat) (i1 : Int32) (i2 : Int32) (i3 : Int32) : Im false yX8_run cX8_run 8 (some .int) rm_Ob_run injI [.ref a0, .int i1, .int i2, .int i3] (m_Ob_run a0 i1 i2 i3) := Im.of RX8 (by decide) rfl (Nat.le_of_ble_eq_true rfl) (fun X hX hr hn hz => w_Ob_run hX hr hz a0 i1 i2 i3)
set_option maxRecDepth 20000 in
theorem wb_Md_run_25 {X : CX Int32} (hX : Cx X RX9 cX9_run 7 rm_Md_run) (hr : Rt X injI (some .int) rm_Md_run.cells rm_Md_run.slots) (hz : Zx X false) {k25 : Nat → Int32 → Int32 → Int32 → Int32 → M Int32} (h25 : ∀ (a0 : Nat) (i1 : Int32) (i2 : Int32) (i3 : Int32) (i4 : Int32), WM X 25 [(0, .ref a0), (1, .int i1), (2, .int i2), (3, .int i3), (4, .int i4)] [] 0 0 (k25 a0 i1 i2 i3 i4)) (a0 : Nat) (i1 : Int32) (i2 : Int32) (i3 : Int32) (i4 : Int32) : WM X 25 [(0, .ref a0), (1, .int i1), (2, .int i2), (3, .int i3), (4, .int i4)] [] 0 0 (b_Md_run_25 k25 a0 i1 i2 i3 i4) := by
  unfold b_Md_run_25
  refine wm_iload 4 hX dX9_run_25 rfl ?_
  refine wm_iload_n 3 hX dX9_run_27 rfl rfl ?_
  refine wm_icmp_ge 99 hX dX9_run_28 (by decide) ?_ ?_
  · refine wm_aload_n 0 hX dX9_run_99 rfl rfl ?_
    refine wm_gI hX fl_RX9_129 dX9_run_100 (fun v1 => ?_)
    exact wm_iret hX hr dX9_run_103
  · refine wm_aload_n 0 hX dX9_run_31 rfl rfl ?_
    refine wm_iload_n 1 hX dX9_run_32 rfl rfl ?_
    refine wm_aload_n 0 hX dX9_run_33 rfl rfl ?_
    refine wm_gR hX fl_RX9_13 dX9_run_34 (fun v2 => ?_)
    refine wm_iload_n 1 hX dX9_run_37 rfl rfl ?_
    refine wm_ldI hX dX9_run_38 (fun v3 => ?_)
    refine wm_iload_n 2 hX dX9_run_39 rfl rfl ?_
    refine wm_iload 4 hX dX9_run_40 rfl ?_
    refine wm_iadd hX dX9_run_42 ?_
    refine wm_cVi (st := []) hX hz (i_Md_lacks a0 i1 v3 (i2 + i4)) Ckd.of rfl cal_Md_lacks wd_911 rfl (fits_Md_run_Md_lacks) (Nat.le_of_ble_eq_true rfl) dX9_run_43 (fun v4 => ?_)
    refine wm_istore [(5, .int v4), (0, .ref a0), (1, .int i1), (2, .int i2), (3, .int i3), (4, .int i4)] hX dX9_run_46 (by decide) rfl ?_
    refine wm_iload 0 hX dX9_run_48 rfl ?_
    refine wm_if_le 60 hX dX9_run_50 (by decide) ?_ ?_
    · refine wm_aload_n 1 hX dX9_run_60 rfl rfl ?_
      refine wm_aload_n 1 hX dX9_run_61 rfl rfl ?_
      refine wm_bipush (60 : Int32) hX dX9_run_62 (by decide) ?_
      refine wm_iload_n 2 hX dX9_run_64 rfl rfl ?_
      refine wm_imul hX dX9_run_65 ?_
      refine wm_iload_n 3 hX dX9_run_66 rfl rfl ?_
      refine wm_iadd hX dX9_run_67 ?_
      refine wm_iload 5 hX dX9_run_68 rfl ?_
      refine wm_iadd hX dX9_run_70 ?_
      refine wm_aload_n 1 hX dX9_run_71 rfl rfl ?_
      refine wm_gR hX fl_RX9_13 dX9_run_72 (fun v5 => ?_)
      refine wm_iload_n 2 hX dX9_run_75 rfl rfl ?_
      refine wm_ldI hX dX9_run_76 (fun v6 => ?_)
      refine wm_cVl (st := [.ref a0]) hX hz (i_Md_sampleOf a0 ((((60 : Int32) * i1) + i2) + i4) v6) Ckd.of rfl cal_Md_sampleOf wd_936 rfl (fits_Md_run_Md_sampleOf) (Nat.le_of_ble_eq_true rfl) dX9_run_77 (fun v7 => ?_)
      refine wm_cVi (st := []) hX hz (i_Md_does a0 v7) Ckd.of rfl cal_Md_does wd_979 rfl (fits_Md_run_Md_does) (Nat.le_of_ble_eq_true rfl) dX9_run_80 (fun v8 => ?_)
      refine wm_istore [(6, .int v8), (5, .int v4), (0, .ref a0), (1, .int i1), (2, .int i2), (3, .int i3), (4, .int i4)] hX dX9_run_83 (by decide) rfl ?_
      refine wm_iload 0 hX dX9_run_85 rfl ?_
      refine wm_if_ge 93 hX dX9_run_87 (by decide) ?_ ?_
      · refine wm_iinc (i4 + 1) 6 [(4, .int (i4 + 1)), (6, .int v8), (5, .int v4), (0, .ref a0), (1, .int i1), (2, .int i2), (3, .int i3)] hX dX9_run_93 rfl rfl (by decide) rfl ?_
        refine wm_goto (tgt := 25) hX dX9_run_96 (by decide) ?_
        refine wm_sub [3, 4, 5, 6, 0] [(0, .ref a0), (1, .int i1), (2, .int i2), (3, .int i3), (4, .int (i4 + 1))] rfl ?_
        exact h25 a0 i1 i2 i3 (i4 + 1)
      · refine wm_iload 0 hX dX9_run_90 rfl ?_
        exact wm_iret hX hr dX9_run_92
    · refine wm_aload_n 1 hX dX9_run_53 rfl rfl ?_
      refine wm_iload 0 hX dX9_run_54 rfl ?_
      refine wm_cVi (st := []) hX hz (i_Md_meets a0 v4) Ckd.of rfl cal_Md_meets wd_899 rfl (fits_Md_run_Md_meets) (Nat.le_of_ble_eq_true rfl) dX9_run_56 (fun v9 => ?_)
      exact wm_iret hX hr dX9_run_59
theorem wl_Md_run_25 {X : CX Int32} (hX : Cx X RX9 cX9_run 7 rm_Md_run) (hr : Rt X injI (some .int) rm_Md_run.cells rm_Md_run.slots) (hz : Zx X false) : ∀ (n : Nat) (a0 : Nat) (i1 : Int32) (i2 : Int32) (i3 : Int32) (i4 : Int32), WM X 25 [(0, .ref a0), (1, .int i1), (2, .int i2), (3, .int i3), (4, .int i4)] [] 0 0 (l_Md_run_25 n a0 i1 i2 i3 i4)
  | 0, _, _, _, _, _ => wm_fl
  | n + 1, a0, i1, i2, i3, i4 => wb_Md_run_25 hX hr hz (wl_Md_run_25 hX hr hz n) a0 i1 i2 i3 i4
set_option maxRecDepth 20000 in
theorem w_Md_run {X : CX Int32} (hX : Cx X RX9 cX9_run 7 rm_Md_run) (hr : Rt X injI (some .int) rm_Md_run.cells rm_Md_run.slots) (hz : Zx X false) (a0 : Nat) (i1 : Int32) (i2 : Int32) (i3 : Int32) : WM X 0 [(0, .ref a0), (1, .int i1), (2, .int i2), (3, .int i3)] [] 0 0 (m_Md_run a0 i1 i2 i3) := by
  unfold m_Md_run
  refine wm_ckd ?_
  refine wm_iload_n 1 hX dX9_run_0 rfl rfl ?_
  refine wm_cSi (st := []) hX hz (i_Md_isReel i1) cal_Md_isReel wd_892 rfl (fits_Md_run_Md_isReel) (Nat.le_of_ble_eq_true rfl) dX9_run_1 (fun v1 => ?_)
  refine wm_if_eq 19 hX dX9_run_4 (by decide) ?_ ?_
  · refine wm_bipush (-2 : Int32) hX dX9_run_19 (by decide) ?_
    exact wm_iret hX hr dX9_run_21
  · refine wm_iload_n 3 hX dX9_run_7 rfl rfl ?_
    refine wm_i2l hX dX9_run_8 ?_
    refine wm_lconst (1 : Int64) hX dX9_run_9 (by decide) ?_
    refine wm_ldc2 hX dX9_run_10 wd_1027 ?_
    refine wm_cSi (st := []) hX hz (i_Md_in (i3.toInt64) (1 : Int64) (300 : Int64)) cal_Md_in wd_896 rfl (fits_Md_run_Md_in) (Nat.le_of_ble_eq_true rfl) dX9_run_13 (fun v2 => ?_)
    refine wm_if_ne 22 hX dX9_run_16 (by decide) ?_ ?_
    · refine wm_iconst (0 : Int32) hX dX9_run_22 (by decide) ?_
      refine wm_istore [(4, .int (0 : Int32)), (0, .ref a0), (1, .int i1), (2, .int i2), (3, .int i3)] hX dX9_run_23 (by decide) rfl ?_
      refine wm_sub [1, 2, 3, 4, 0] [(0, .ref a0), (1, .int i1), (2, .int i2), (3, .int i3), (4, .int (0 : Int32))] rfl ?_
      exact wl_Md_run_25 hX hr hz FU a0 i1 i2 i3 (0 : Int32)
    · refine wm_bipush (-2 : Int32) hX dX9_run_19 (by decide) ?_
      exact wm_iret hX hr dX9_run_21
theorem i_Md_run (a0 : Nat) (i1 : Int32) (i2 : Int32) (i3 : Int32) : Im false yX9_run cX9_run 7 (some .int) rm_Md_run injI [.ref a0, .int i1, .int i2, .int i3] (m_Md_run a0 i1 i2 i3) := Im.of RX9 (by decide) rfl (Nat.le_of_ble_eq_true rfl) (fun X hX hr hn hz => w_Md_run hX hr hz a0 i1 i2 i3)
set_option maxRecDepth 20000 in
theorem w_Tw_beginAgain {X : CX Unit} (hX : Cx X RX6 cX6_beginAgain 1 rm_Tw_beginAgain) (hr : Rt X injV none rm_Tw_beginAgain.cells rm_Tw_beginAgain.slots) (hz : Zx X false) (a0 : Nat) : WM X 0 [(0, .ref a0)] [] 0 0 (m_Tw_beginAgain a0) := by
  unfold m_Tw_beginAgain
  refine wm_ckd ?_
  refine wm_aload_n 0 hX dX6_beginAgain_0 rfl rfl ?_
  refine wm_gR hX fl_RX6_9 dX6_beginAgain_1 (fun v1 => ?_)
  refine wm_lconst (0 : Int64) hX dX6_beginAgain_4 (by decide) ?_
  refine wm_cSv (st := []) hX hz (i_J7_fill_d0a16 v1 (0 : Int64)) cal_J7_fill_d0a16 wd_569 rfl (fits_Tw_beginAgain_J7_fill_d0a16) (Nat.le_of_ble_eq_true rfl) dX6_beginAgain_5 ?_
  refine wm_aload_n 0 hX dX6_beginAgain_8 rfl rfl ?_
  refine wm_aload_n 0 hX dX6_beginAgain_9 rfl rfl ?_
  refine wm_gR hX fl_RX6_30 dX6_beginAgain_10 (fun v2 => ?_)
  refine wm_gL hX fl_RX6_40 dX6_beginAgain_13 (fun v3 => ?_)
  refine wm_pL hX fp_RX6_23 dX6_beginAgain_16 ?_
  exact wm_vret hX hr dX6_beginAgain_19
theorem i_Tw_beginAgain (a0 : Nat) : Im false yX6_beginAgain cX6_beginAgain 1 none rm_Tw_beginAgain injV [.ref a0] (m_Tw_beginAgain a0) := Im.of RX6 (by decide) rfl (Nat.le_of_ble_eq_true rfl) (fun X hX hr hn hz => w_Tw_beginAgain hX hr hz a0)
set_option maxRecDepth 20000 in
theorem wb_Ob_undo_44 {X : CX Int32} (hX : Cx X RX8 cX8_undo 3 rm_Ob_undo) (hr : Rt X injI (some .int) rm_Ob_undo.cells rm_Ob_undo.slots) (hz : Zx X false) {k44 : Nat → Int32 → M Int32} (h44 : ∀ (a0 : Nat) (i2 : Int32), WM X 44 [(0, .ref a0), (2, .int i2)] [] 0 0 (k44 a0 i2)) (a0 : Nat) (i2 : Int32) : WM X 44 [(0, .ref a0), (2, .int i2)] [] 0 0 (b_Ob_undo_44 k44 a0 i2) := by
  unfold b_Ob_undo_44
  refine wm_iload_n 1 hX dX8_undo_44 rfl rfl ?_
  refine wm_aload_n 0 hX dX8_undo_45 rfl rfl ?_
  refine wm_gR hX fl_RX8_26 dX8_undo_46 (fun v1 => ?_)
  refine wm_gI hX fl_RX8_138 dX8_undo_49 (fun v2 => ?_)
  refine wm_icmp_ge 78 hX dX8_undo_52 (by decide) ?_ ?_
  · refine wm_aload_n 0 hX dX8_undo_78 rfl rfl ?_
    refine wm_gR hX fl_RX8_65 dX8_undo_79 (fun v3 => ?_)
    refine wm_aload_n 0 hX dX8_undo_82 rfl rfl ?_
    refine wm_gR hX fl_RX8_69 dX8_undo_83 (fun v4 => ?_)
    refine wm_cVv (st := []) hX hz (i_Tw_becomeLike v3 v4) Ckd.of rfl cal_Tw_becomeLike wd_498 rfl (fits_Ob_undo_Tw_becomeLike) (Nat.le_of_ble_eq_true rfl) dX8_undo_86 ?_
    refine wm_aload_n 0 hX dX8_undo_89 rfl rfl ?_
    refine wm_gR hX fl_RX8_26 dX8_undo_90 (fun v5 => ?_)
    refine wm_gI hX fl_RX8_138 dX8_undo_93 (fun v6 => ?_)
    exact wm_iret hX hr dX8_undo_96
  · refine wm_aload_n 0 hX dX8_undo_55 rfl rfl ?_
    refine wm_gR hX fl_RX8_69 dX8_undo_56 (fun v7 => ?_)
    refine wm_aload_n 0 hX dX8_undo_59 rfl rfl ?_
    refine wm_gR hX fl_RX8_26 dX8_undo_60 (fun v8 => ?_)
    refine wm_gR hX fl_RX8_186 dX8_undo_63 (fun v9 => ?_)
    refine wm_iload_n 1 hX dX8_undo_66 rfl rfl ?_
    refine wm_ldL hX dX8_undo_67 (fun v10 => ?_)
    refine wm_cVi (st := []) hX hz (i_Tw_makeStep v7 v10) Ckd.of rfl cal_Tw_makeStep wd_503 rfl (fits_Ob_undo_Tw_makeStep) (Nat.le_of_ble_eq_true rfl) dX8_undo_68 (fun v11 => ?_)
    refine wm_pop hX dX8_undo_71 rfl ?_
    refine wm_iinc (i2 + 1) 1 [(2, .int (i2 + 1)), (0, .ref a0)] hX dX8_undo_72 rfl rfl (by decide) rfl ?_
    refine wm_goto (tgt := 44) hX dX8_undo_75 (by decide) ?_
    refine wm_sub [1, 0] [(0, .ref a0), (2, .int (i2 + 1))] rfl ?_
    exact h44 a0 (i2 + 1)
theorem wl_Ob_undo_44 {X : CX Int32} (hX : Cx X RX8 cX8_undo 3 rm_Ob_undo) (hr : Rt X injI (some .int) rm_Ob_undo.cells rm_Ob_undo.slots) (hz : Zx X false) : ∀ (n : Nat) (a0 : Nat) (i2 : Int32), WM X 44 [(0, .ref a0), (2, .int i2)] [] 0 0 (l_Ob_undo_44 n a0 i2)
  | 0, _, _ => wm_fl
  | n + 1, a0, i2 => wb_Ob_undo_44 hX hr hz (wl_Ob_undo_44 hX hr hz n) a0 i2
set_option maxRecDepth 20000 in
theorem w_Ob_undo {X : CX Int32} (hX : Cx X RX8 cX8_undo 3 rm_Ob_undo) (hr : Rt X injI (some .int) rm_Ob_undo.cells rm_Ob_undo.slots) (hz : Zx X false) (a0 : Nat) (i1 : Int32) : WM X 0 [(0, .ref a0), (1, .int i1)] [] 0 0 (m_Ob_undo a0 i1) := by
  unfold m_Ob_undo
  refine wm_ckd ?_
  refine wm_iload_n 1 hX dX8_undo_0 rfl rfl ?_
  refine wm_if_lt 15 hX dX8_undo_1 (by decide) ?_ ?_
  · refine wm_bipush (-2 : Int32) hX dX8_undo_15 (by decide) ?_
    exact wm_iret hX hr dX8_undo_17
  · refine wm_iload_n 1 hX dX8_undo_4 rfl rfl ?_
    refine wm_aload_n 0 hX dX8_undo_5 rfl rfl ?_
    refine wm_gR hX fl_RX8_26 dX8_undo_6 (fun v1 => ?_)
    refine wm_gI hX fl_RX8_138 dX8_undo_9 (fun v2 => ?_)
    refine wm_icmp_le 18 hX dX8_undo_12 (by decide) ?_ ?_
    · refine wm_iload_n 1 hX dX8_undo_18 rfl rfl ?_
      refine wm_if_le 89 hX dX8_undo_19 (by decide) ?_ ?_
      · refine wm_aload_n 0 hX dX8_undo_89 rfl rfl ?_
        refine wm_gR hX fl_RX8_26 dX8_undo_90 (fun v3 => ?_)
        refine wm_gI hX fl_RX8_138 dX8_undo_93 (fun v4 => ?_)
        exact wm_iret hX hr dX8_undo_96
      · refine wm_aload_n 0 hX dX8_undo_22 rfl rfl ?_
        refine wm_gR hX fl_RX8_26 dX8_undo_23 (fun v5 => ?_)
        refine wm_dup hX dX8_undo_26 rfl ?_
        refine wm_gI hX fl_RX8_138 dX8_undo_27 (fun v6 => ?_)
        refine wm_iload_n 1 hX dX8_undo_30 rfl rfl ?_
        refine wm_isub hX dX8_undo_31 ?_
        refine wm_pI hX fp_RX8_138 dX8_undo_32 ?_
        refine wm_aload_n 0 hX dX8_undo_35 rfl rfl ?_
        refine wm_gR hX fl_RX8_69 dX8_undo_36 (fun v7 => ?_)
        refine wm_cVv (st := []) hX hz (i_Tw_beginAgain v7) Ckd.of rfl cal_Tw_beginAgain wd_565 rfl (fits_Ob_undo_Tw_beginAgain) (Nat.le_of_ble_eq_true rfl) dX8_undo_39 ?_
        refine wm_iconst (0 : Int32) hX dX8_undo_42 (by decide) ?_
        refine wm_istore_n [(2, .int (0 : Int32)), (0, .ref a0), (1, .int i1)] hX dX8_undo_43 rfl (by decide) rfl ?_
        refine wm_sub [1, 0] [(0, .ref a0), (2, .int (0 : Int32))] rfl ?_
        exact wl_Ob_undo_44 hX hr hz FU a0 (0 : Int32)
    · refine wm_bipush (-2 : Int32) hX dX8_undo_15 (by decide) ?_
      exact wm_iret hX hr dX8_undo_17
theorem i_Ob_undo (a0 : Nat) (i1 : Int32) : Im false yX8_undo cX8_undo 3 (some .int) rm_Ob_undo injI [.ref a0, .int i1] (m_Ob_undo a0 i1) := Im.of RX8 (by decide) rfl (Nat.le_of_ble_eq_true rfl) (fun X hX hr hn hz => w_Ob_undo hX hr hz a0 i1)
set_option maxRecDepth 20000 in
theorem wb_Md_rest_2 {X : CX Unit} (hX : Cx X RX9 cX9_rest 2 rm_Md_rest) (hr : Rt X injV none rm_Md_rest.cells rm_Md_rest.slots) (hz : Zx X false) {k2 : Nat → Int32 → M Unit} (h2 : ∀ (a0 : Nat) (i1 : Int32), WM X 2 [(0, .ref a0), (1, .int i1)] [] 0 0 (k2 a0 i1)) (a0 : Nat) (i1 : Int32) : WM X 2 [(0, .ref a0), (1, .int i1)] [] 0 0 (b_Md_rest_2 k2 a0 i1) := by
  unfold b_Md_rest_2
  refine wm_iload_n 1 hX dX9_rest_2 rfl rfl ?_
  refine wm_bipush (30 : Int32) hX dX9_rest_3 (by decide) ?_
  refine wm_icmp_ge 21 hX dX9_rest_5 (by decide) ?_ ?_
  · refine wm_aload_n 0 hX dX9_rest_21 rfl rfl ?_
    refine wm_aload_n 0 hX dX9_rest_22 rfl rfl ?_
    refine wm_gL hX fl_RX9_176 dX9_rest_23 (fun v1 => ?_)
    refine wm_pL hX fp_RX9_183 dX9_rest_26 ?_
    exact wm_vret hX hr dX9_rest_29
  · refine wm_aload_n 0 hX dX9_rest_8 rfl rfl ?_
    refine wm_gR hX fl_RX9_51 dX9_rest_9 (fun v2 => ?_)
    refine wm_iload_n 1 hX dX9_rest_12 rfl rfl ?_
    refine wm_lconst (0 : Int64) hX dX9_rest_13 (by decide) ?_
    refine wm_stL hX dX9_rest_14 ?_
    refine wm_iinc (i1 + 1) 1 [(1, .int (i1 + 1)), (0, .ref a0)] hX dX9_rest_15 rfl rfl (by decide) rfl ?_
    refine wm_goto (tgt := 2) hX dX9_rest_18 (by decide) ?_
    refine wm_sub [1, 0] [(0, .ref a0), (1, .int (i1 + 1))] rfl ?_
    exact h2 a0 (i1 + 1)
theorem wl_Md_rest_2 {X : CX Unit} (hX : Cx X RX9 cX9_rest 2 rm_Md_rest) (hr : Rt X injV none rm_Md_rest.cells rm_Md_rest.slots) (hz : Zx X false) : ∀ (n : Nat) (a0 : Nat) (i1 : Int32), WM X 2 [(0, .ref a0), (1, .int i1)] [] 0 0 (l_Md_rest_2 n a0 i1)
  | 0, _, _ => wm_fl
  | n + 1, a0, i1 => wb_Md_rest_2 hX hr hz (wl_Md_rest_2 hX hr hz n) a0 i1
set_option maxRecDepth 20000 in
theorem w_Md_rest {X : CX Unit} (hX : Cx X RX9 cX9_rest 2 rm_Md_rest) (hr : Rt X injV none rm_Md_rest.cells rm_Md_rest.slots) (hz : Zx X false) (a0 : Nat) : WM X 0 [(0, .ref a0)] [] 0 0 (m_Md_rest a0) := by
  unfold m_Md_rest
  refine wm_ckd ?_
  refine wm_iconst (0 : Int32) hX dX9_rest_0 (by decide) ?_
  refine wm_istore_n [(1, .int (0 : Int32)), (0, .ref a0)] hX dX9_rest_1 rfl (by decide) rfl ?_
  refine wm_sub [1, 0] [(0, .ref a0), (1, .int (0 : Int32))] rfl ?_
  exact wl_Md_rest_2 hX hr hz FU a0 (0 : Int32)
theorem i_Md_rest (a0 : Nat) : Im false yX9_rest cX9_rest 2 none rm_Md_rest injV [.ref a0] (m_Md_rest a0) := Im.of RX9 (by decide) rfl (Nat.le_of_ble_eq_true rfl) (fun X hX hr hn hz => w_Md_rest hX hr hz a0)
set_option maxRecDepth 20000 in
theorem wb_Md_undo_33 {X : CX Int32} (hX : Cx X RX9 cX9_undo 4 rm_Md_undo) (hr : Rt X injI (some .int) rm_Md_undo.cells rm_Md_undo.slots) (hz : Zx X false) {k33 : Nat → Int32 → M Int32} (h33 : ∀ (a0 : Nat) (i2 : Int32), WM X 33 [(0, .ref a0), (2, .int i2)] [] 0 0 (k33 a0 i2)) (a0 : Nat) (i2 : Int32) : WM X 33 [(0, .ref a0), (2, .int i2)] [] 0 0 (b_Md_undo_33 k33 a0 i2) := by
  unfold b_Md_undo_33
  refine wm_iload_n 1 hX dX9_undo_33 rfl rfl ?_
  refine wm_aload_n 0 hX dX9_undo_34 rfl rfl ?_
  refine wm_gI hX fl_RX9_129 dX9_undo_35 (fun v1 => ?_)
  refine wm_icmp_ge 58 hX dX9_undo_38 (by decide) ?_ ?_
  · refine wm_aload_n 0 hX dX9_undo_58 rfl rfl ?_
    refine wm_cVv (st := []) hX hz (i_Md_lay a0) Ckd.of rfl cal_Md_lay wd_1019 rfl (fits_Md_undo_Md_lay) (Nat.le_of_ble_eq_true rfl) dX9_undo_59 ?_
    refine wm_aload_n 0 hX dX9_undo_62 rfl rfl ?_
    refine wm_gI hX fl_RX9_129 dX9_undo_63 (fun v2 => ?_)
    exact wm_iret hX hr dX9_undo_66
  · refine wm_aload_n 0 hX dX9_undo_41 rfl rfl ?_
    refine wm_aload_n 0 hX dX9_undo_42 rfl rfl ?_
    refine wm_gR hX fl_RX9_42 dX9_undo_43 (fun v3 => ?_)
    refine wm_iload_n 1 hX dX9_undo_46 rfl rfl ?_
    refine wm_ldL hX dX9_undo_47 (fun v4 => ?_)
    refine wm_cVi (st := []) hX hz (i_Md_tries a0 v4) Ckd.of rfl cal_Md_tries wd_987 rfl (fits_Md_undo_Md_tries) (Nat.le_of_ble_eq_true rfl) dX9_undo_48 (fun v5 => ?_)
    refine wm_istore_n [(3, .int v5), (0, .ref a0), (2, .int i2)] hX dX9_undo_51 rfl (by decide) rfl ?_
    refine wm_iinc (i2 + 1) 2 [(2, .int (i2 + 1)), (3, .int v5), (0, .ref a0)] hX dX9_undo_52 rfl rfl (by decide) rfl ?_
    refine wm_goto (tgt := 33) hX dX9_undo_55 (by decide) ?_
    refine wm_sub [2, 0] [(0, .ref a0), (2, .int (i2 + 1))] rfl ?_
    exact h33 a0 (i2 + 1)
theorem wl_Md_undo_33 {X : CX Int32} (hX : Cx X RX9 cX9_undo 4 rm_Md_undo) (hr : Rt X injI (some .int) rm_Md_undo.cells rm_Md_undo.slots) (hz : Zx X false) : ∀ (n : Nat) (a0 : Nat) (i2 : Int32), WM X 33 [(0, .ref a0), (2, .int i2)] [] 0 0 (l_Md_undo_33 n a0 i2)
  | 0, _, _ => wm_fl
  | n + 1, a0, i2 => wb_Md_undo_33 hX hr hz (wl_Md_undo_33 hX hr hz n) a0 i2
set_option maxRecDepth 20000 in
theorem w_Md_undo {X : CX Int32} (hX : Cx X RX9 cX9_undo 4 rm_Md_undo) (hr : Rt X injI (some .int) rm_Md_undo.cells rm_Md_undo.slots) (hz : Zx X false) (a0 : Nat) (i1 : Int32) : WM X 0 [(0, .ref a0), (1, .int i1)] [] 0 0 (m_Md_undo a0 i1) := by
  unfold m_Md_undo
  refine wm_ckd ?_
  refine wm_iload_n 1 hX dX9_undo_0 rfl rfl ?_
  refine wm_i2l hX dX9_undo_1 ?_
  refine wm_lconst (0 : Int64) hX dX9_undo_2 (by decide) ?_
  refine wm_aload_n 0 hX dX9_undo_3 rfl rfl ?_
  refine wm_gI hX fl_RX9_129 dX9_undo_4 (fun v1 => ?_)
  refine wm_i2l hX dX9_undo_7 ?_
  refine wm_cSi (st := []) hX hz (i_Md_in (i1.toInt64) (0 : Int64) (v1.toInt64)) cal_Md_in wd_896 rfl (fits_Md_undo_Md_in) (Nat.le_of_ble_eq_true rfl) dX9_undo_8 (fun v2 => ?_)
  refine wm_if_ne 17 hX dX9_undo_11 (by decide) ?_ ?_
  · refine wm_aload_n 0 hX dX9_undo_17 rfl rfl ?_
    refine wm_dup hX dX9_undo_18 rfl ?_
    refine wm_gI hX fl_RX9_129 dX9_undo_19 (fun v3 => ?_)
    refine wm_iload_n 1 hX dX9_undo_22 rfl rfl ?_
    refine wm_isub hX dX9_undo_23 ?_
    refine wm_pI hX fp_RX9_129 dX9_undo_24 ?_
    refine wm_aload_n 0 hX dX9_undo_27 rfl rfl ?_
    refine wm_cVv (st := []) hX hz (i_Md_rest a0) Ckd.of rfl cal_Md_rest wd_1032 rfl (fits_Md_undo_Md_rest) (Nat.le_of_ble_eq_true rfl) dX9_undo_28 ?_
    refine wm_iconst (0 : Int32) hX dX9_undo_31 (by decide) ?_
    refine wm_istore_n [(2, .int (0 : Int32)), (0, .ref a0), (1, .int i1)] hX dX9_undo_32 rfl (by decide) rfl ?_
    refine wm_sub [1, 0] [(0, .ref a0), (2, .int (0 : Int32))] rfl ?_
    exact wl_Md_undo_33 hX hr hz FU a0 (0 : Int32)
  · refine wm_bipush (-2 : Int32) hX dX9_undo_14 (by decide) ?_
    exact wm_iret hX hr dX9_undo_16
theorem i_Md_undo (a0 : Nat) (i1 : Int32) : Im false yX9_undo cX9_undo 4 (some .int) rm_Md_undo injI [.ref a0, .int i1] (m_Md_undo a0 i1) := Im.of RX9 (by decide) rfl (Nat.le_of_ble_eq_true rfl) (fun X hX hr hn hz => w_Md_undo hX hr hz a0 i1)
set_option maxRecDepth 20000 in
theorem w_Ob_clear {X : CX Int32} (hX : Cx X RX8 cX8_clear 2 rm_Ob_clear) (hr : Rt X injI (some .int) rm_Ob_clear.cells rm_Ob_clear.slots) (hz : Zx X false) (a0 : Nat) : WM X 0 [(0, .ref a0)] [] 0 0 (m_Ob_clear a0) := by
  unfold m_Ob_clear
  refine wm_ckd ?_
  refine wm_aload_n 0 hX dX8_clear_0 rfl rfl ?_
  refine wm_gR hX fl_RX8_26 dX8_clear_1 (fun v1 => ?_)
  refine wm_gI hX fl_RX8_138 dX8_clear_4 (fun v2 => ?_)
  refine wm_istore_n [(1, .int v2), (0, .ref a0)] hX dX8_clear_7 rfl (by decide) rfl ?_
  refine wm_aload_n 1 hX dX8_clear_8 rfl rfl ?_
  refine wm_gR hX fl_RX8_26 dX8_clear_9 (fun v3 => ?_)
  refine wm_iconst (0 : Int32) hX dX8_clear_12 (by decide) ?_
  refine wm_pI hX fp_RX8_138 dX8_clear_13 ?_
  refine wm_aload_n 1 hX dX8_clear_16 rfl rfl ?_
  refine wm_gR hX fl_RX8_19 dX8_clear_17 (fun v4 => ?_)
  refine wm_iconst (0 : Int32) hX dX8_clear_20 (by decide) ?_
  refine wm_pI hX fp_RX8_141 dX8_clear_21 ?_
  refine wm_aload_n 1 hX dX8_clear_24 rfl rfl ?_
  refine wm_gR hX fl_RX8_65 dX8_clear_25 (fun v5 => ?_)
  refine wm_cVv (st := []) hX hz (i_Tw_beginAgain v5) Ckd.of rfl cal_Tw_beginAgain wd_565 rfl (fits_Ob_clear_Tw_beginAgain) (Nat.le_of_ble_eq_true rfl) dX8_clear_28 ?_
  refine wm_iload_n 0 hX dX8_clear_31 rfl rfl ?_
  exact wm_iret hX hr dX8_clear_32
theorem i_Ob_clear (a0 : Nat) : Im false yX8_clear cX8_clear 2 (some .int) rm_Ob_clear injI [.ref a0] (m_Ob_clear a0) := Im.of RX8 (by decide) rfl (Nat.le_of_ble_eq_true rfl) (fun X hX hr hn hz => w_Ob_clear hX hr hz a0)
set_option maxRecDepth 20000 in
theorem w_Md_clear {X : CX Int32} (hX : Cx X RX9 cX9_clear 2 rm_Md_clear) (hr : Rt X injI (some .int) rm_Md_clear.cells rm_Md_clear.slots) (hz : Zx X false) (a0 : Nat) : WM X 0 [(0, .ref a0)] [] 0 0 (m_Md_clear a0) := by
  unfold m_Md_clear
  refine wm_ckd ?_
  refine wm_aload_n 0 hX dX9_clear_0 rfl rfl ?_
  refine wm_gI hX fl_RX9_129 dX9_clear_1 (fun v1 => ?_)
  refine wm_istore_n [(1, .int v1), (0, .ref a0)] hX dX9_clear_4 rfl (by decide) rfl ?_
  refine wm_aload_n 1 hX dX9_clear_5 rfl rfl ?_
  refine wm_iconst (0 : Int32) hX dX9_clear_6 (by decide) ?_
  refine wm_pI hX fp_RX9_129 dX9_clear_7 ?_
  refine wm_aload_n 1 hX dX9_clear_10 rfl rfl ?_
  refine wm_iconst (0 : Int32) hX dX9_clear_11 (by decide) ?_
  refine wm_pI hX fp_RX9_160 dX9_clear_12 ?_
  refine wm_aload_n 1 hX dX9_clear_15 rfl rfl ?_
  refine wm_cVv (st := []) hX hz (i_Md_rest a0) Ckd.of rfl cal_Md_rest wd_1032 rfl (fits_Md_clear_Md_rest) (Nat.le_of_ble_eq_true rfl) dX9_clear_16 ?_
  refine wm_aload_n 1 hX dX9_clear_19 rfl rfl ?_
  refine wm_cVv (st := []) hX hz (i_Md_lay a0) Ckd.of rfl cal_Md_lay wd_1019 rfl (fits_Md_clear_Md_lay) (Nat.le_of_ble_eq_true rfl) dX9_clear_20 ?_
  refine wm_iload_n 0 hX dX9_clear_23 rfl rfl ?_
  exact wm_iret hX hr dX9_clear_24
theorem i_Md_clear (a0 : Nat) : Im false yX9_clear cX9_clear 2 (some .int) rm_Md_clear injI [.ref a0] (m_Md_clear a0) := Im.of RX9 (by decide) rfl (Nat.le_of_ble_eq_true rfl) (fun X hX hr hn hz => w_Md_clear hX hr hz a0)
set_option maxRecDepth 20000 in
theorem w_Sp_hasStage {X : CX Int32} (hX : Cx X RX5 cX5_hasStage 2 rm_Sp_hasStage) (hr : Rt X injI (some .boolean) rm_Sp_hasStage.cells rm_Sp_hasStage.slots) (hz : Zx X false) (a0 : Nat) (i1 : Int32) : WM X 0 [(0, .ref a0), (1, .int i1)] [] 0 0 (m_Sp_hasStage a0 i1) := by
  unfold m_Sp_hasStage
  refine wm_ckd ?_
  refine wm_iload_n 1 hX dX5_hasStage_0 rfl rfl ?_
  refine wm_if_lt 16 hX dX5_hasStage_1 (by decide) ?_ ?_
  · refine wm_iconst (0 : Int32) hX dX5_hasStage_16 (by decide) ?_
    exact wm_zret hX hr dX5_hasStage_17
  · refine wm_iload_n 1 hX dX5_hasStage_4 rfl rfl ?_
    refine wm_aload_n 0 hX dX5_hasStage_5 rfl rfl ?_
    refine wm_gI hX fl_RX5_25 dX5_hasStage_6 (fun v1 => ?_)
    refine wm_icmp_ge 16 hX dX5_hasStage_9 (by decide) ?_ ?_
    · refine wm_iconst (0 : Int32) hX dX5_hasStage_16 (by decide) ?_
      exact wm_zret hX hr dX5_hasStage_17
    · refine wm_iconst (1 : Int32) hX dX5_hasStage_12 (by decide) ?_
      refine wm_goto (tgt := 17) hX dX5_hasStage_13 (by decide) ?_
      exact wm_zret hX hr dX5_hasStage_17
theorem i_Sp_hasStage (a0 : Nat) (i1 : Int32) : Im false yX5_hasStage cX5_hasStage 2 (some .boolean) rm_Sp_hasStage injI [.ref a0, .int i1] (m_Sp_hasStage a0 i1) := Im.of RX5 (by decide) rfl (Nat.le_of_ble_eq_true rfl) (fun X hX hr hn hz => w_Sp_hasStage hX hr hz a0 i1)
set_option maxRecDepth 20000 in
theorem w_Ob_stageAt {X : CX Int64} (hX : Cx X RX8 cX8_stageAt 3 rm_Ob_stageAt) (hr : Rt X injL (some .long) rm_Ob_stageAt.cells rm_Ob_stageAt.slots) (hz : Zx X false) (a0 : Nat) (i1 : Int32) (i2 : Int32) : WM X 0 [(0, .ref a0), (1, .int i1), (2, .int i2)] [] 0 0 (m_Ob_stageAt a0 i1 i2) := by
  unfold m_Ob_stageAt
  refine wm_ckd ?_
  refine wm_aload_n 0 hX dX8_stageAt_0 rfl rfl ?_
  refine wm_gR hX fl_RX8_19 dX8_stageAt_1 (fun v1 => ?_)
  refine wm_iload_n 1 hX dX8_stageAt_4 rfl rfl ?_
  refine wm_cVi (st := []) hX hz (i_Sp_hasStage v1 i1) Ckd.of rfl cal_Sp_hasStage wd_578 rfl (fits_Ob_stageAt_Sp_hasStage) (Nat.le_of_ble_eq_true rfl) dX8_stageAt_5 (fun v2 => ?_)
  refine wm_if_eq 21 hX dX8_stageAt_8 (by decide) ?_ ?_
  · refine wm_ldc2 hX dX8_stageAt_21 wd_582 ?_
    exact wm_lret hX hr dX8_stageAt_24
  · refine wm_iload_n 2 hX dX8_stageAt_11 rfl rfl ?_
    refine wm_if_lt 21 hX dX8_stageAt_12 (by decide) ?_ ?_
    · refine wm_ldc2 hX dX8_stageAt_21 wd_582 ?_
      exact wm_lret hX hr dX8_stageAt_24
    · refine wm_iload_n 2 hX dX8_stageAt_15 rfl rfl ?_
      refine wm_bipush (6 : Int32) hX dX8_stageAt_16 (by decide) ?_
      refine wm_icmp_le 25 hX dX8_stageAt_18 (by decide) ?_ ?_
      · refine wm_iload_n 2 hX dX8_stageAt_25 rfl rfl ?_
        refine wm_bipush (6 : Int32) hX dX8_stageAt_26 (by decide) ?_
        refine wm_icmp_ne 44 hX dX8_stageAt_28 (by decide) ?_ ?_
        · refine wm_aload_n 0 hX dX8_stageAt_44 rfl rfl ?_
          refine wm_gR hX fl_RX8_65 dX8_stageAt_45 (fun v3 => ?_)
          refine wm_gR hX fl_RX8_204 dX8_stageAt_48 (fun v4 => ?_)
          refine wm_iload_n 1 hX dX8_stageAt_51 rfl rfl ?_
          refine wm_bipush (6 : Int32) hX dX8_stageAt_52 (by decide) ?_
          refine wm_imul hX dX8_stageAt_54 ?_
          refine wm_iload_n 2 hX dX8_stageAt_55 rfl rfl ?_
          refine wm_iadd hX dX8_stageAt_56 ?_
          refine wm_ldL hX dX8_stageAt_57 (fun v5 => ?_)
          exact wm_lret hX hr dX8_stageAt_58
        · refine wm_aload_n 0 hX dX8_stageAt_31 rfl rfl ?_
          refine wm_gR hX fl_RX8_19 dX8_stageAt_32 (fun v6 => ?_)
          refine wm_gR hX fl_RX8_201 dX8_stageAt_35 (fun v7 => ?_)
          refine wm_iload_n 1 hX dX8_stageAt_38 rfl rfl ?_
          refine wm_ldI hX dX8_stageAt_39 (fun v8 => ?_)
          refine wm_i2l hX dX8_stageAt_40 ?_
          refine wm_goto (tgt := 58) hX dX8_stageAt_41 (by decide) ?_
          exact wm_lret hX hr dX8_stageAt_58
      · refine wm_ldc2 hX dX8_stageAt_21 wd_582 ?_
        exact wm_lret hX hr dX8_stageAt_24
theorem i_Ob_stageAt (a0 : Nat) (i1 : Int32) (i2 : Int32) : Im false yX8_stageAt cX8_stageAt 3 (some .long) rm_Ob_stageAt injL [.ref a0, .int i1, .int i2] (m_Ob_stageAt a0 i1 i2) := Im.of RX8 (by decide) rfl (Nat.le_of_ble_eq_true rfl) (fun X hX hr hn hz => w_Ob_stageAt hX hr hz a0 i1 i2)
set_option maxRecDepth 20000 in
theorem w_Md_stageAt {X : CX Int64} (hX : Cx X RX9 cX9_stageAt 3 rm_Md_stageAt) (hr : Rt X injL (some .long) rm_Md_stageAt.cells rm_Md_stageAt.slots) (hz : Zx X false) (a0 : Nat) (i1 : Int32) (i2 : Int32) : WM X 0 [(0, .ref a0), (1, .int i1), (2, .int i2)] [] 0 0 (m_Md_stageAt a0 i1 i2) := by
  unfold m_Md_stageAt
  refine wm_ckd ?_
  refine wm_iload_n 1 hX dX9_stageAt_0 rfl rfl ?_
  refine wm_i2l hX dX9_stageAt_1 ?_
  refine wm_lconst (0 : Int64) hX dX9_stageAt_2 (by decide) ?_
  refine wm_aload_n 0 hX dX9_stageAt_3 rfl rfl ?_
  refine wm_gI hX fl_RX9_160 dX9_stageAt_4 (fun v1 => ?_)
  refine wm_iconst (1 : Int32) hX dX9_stageAt_7 (by decide) ?_
  refine wm_isub hX dX9_stageAt_8 ?_
  refine wm_i2l hX dX9_stageAt_9 ?_
  refine wm_cSi (st := []) hX hz (i_Md_in (i1.toInt64) (0 : Int64) ((v1 - (1 : Int32)).toInt64)) cal_Md_in wd_896 rfl (fits_Md_stageAt_Md_in) (Nat.le_of_ble_eq_true rfl) dX9_stageAt_10 (fun v2 => ?_)
  refine wm_if_eq 28 hX dX9_stageAt_13 (by decide) ?_ ?_
  · refine wm_ldc2 hX dX9_stageAt_28 wd_1045 ?_
    exact wm_lret hX hr dX9_stageAt_31
  · refine wm_iload_n 2 hX dX9_stageAt_16 rfl rfl ?_
    refine wm_i2l hX dX9_stageAt_17 ?_
    refine wm_lconst (0 : Int64) hX dX9_stageAt_18 (by decide) ?_
    refine wm_ldc2 hX dX9_stageAt_19 wd_1044 ?_
    refine wm_cSi (st := []) hX hz (i_Md_in (i2.toInt64) (0 : Int64) (6 : Int64)) cal_Md_in wd_896 rfl (fits_Md_stageAt_Md_in) (Nat.le_of_ble_eq_true rfl) dX9_stageAt_22 (fun v3 => ?_)
    refine wm_if_ne 32 hX dX9_stageAt_25 (by decide) ?_ ?_
    · refine wm_iload_n 2 hX dX9_stageAt_32 rfl rfl ?_
      refine wm_bipush (6 : Int32) hX dX9_stageAt_33 (by decide) ?_
      refine wm_icmp_ne 48 hX dX9_stageAt_35 (by decide) ?_ ?_
      · refine wm_aload_n 0 hX dX9_stageAt_48 rfl rfl ?_
        refine wm_gR hX fl_RX9_39 dX9_stageAt_49 (fun v4 => ?_)
        refine wm_bipush (6 : Int32) hX dX9_stageAt_52 (by decide) ?_
        refine wm_iload_n 1 hX dX9_stageAt_54 rfl rfl ?_
        refine wm_imul hX dX9_stageAt_55 ?_
        refine wm_iload_n 2 hX dX9_stageAt_56 rfl rfl ?_
        refine wm_iadd hX dX9_stageAt_57 ?_
        refine wm_ldL hX dX9_stageAt_58 (fun v5 => ?_)
        exact wm_lret hX hr dX9_stageAt_59
      · refine wm_aload_n 0 hX dX9_stageAt_38 rfl rfl ?_
        refine wm_gR hX fl_RX9_27 dX9_stageAt_39 (fun v6 => ?_)
        refine wm_iload_n 1 hX dX9_stageAt_42 rfl rfl ?_
        refine wm_ldI hX dX9_stageAt_43 (fun v7 => ?_)
        refine wm_i2l hX dX9_stageAt_44 ?_
        refine wm_goto (tgt := 59) hX dX9_stageAt_45 (by decide) ?_
        exact wm_lret hX hr dX9_stageAt_59
    · refine wm_ldc2 hX dX9_stageAt_28 wd_1045 ?_
      exact wm_lret hX hr dX9_stageAt_31
theorem i_Md_stageAt (a0 : Nat) (i1 : Int32) (i2 : Int32) : Im false yX9_stageAt cX9_stageAt 3 (some .long) rm_Md_stageAt injL [.ref a0, .int i1, .int i2] (m_Md_stageAt a0 i1 i2) := Im.of RX9 (by decide) rfl (Nat.le_of_ble_eq_true rfl) (fun X hX hr hn hz => w_Md_stageAt hX hr hz a0 i1 i2)
set_option maxRecDepth 20000 in
theorem w_Ob_levelAt {X : CX Int64} (hX : Cx X RX8 cX8_levelAt 2 rm_Ob_levelAt) (hr : Rt X injL (some .long) rm_Ob_levelAt.cells rm_Ob_levelAt.slots) (hz : Zx X false) (a0 : Nat) (i1 : Int32) : WM X 0 [(0, .ref a0), (1, .int i1)] [] 0 0 (m_Ob_levelAt a0 i1) := by
  unfold m_Ob_levelAt
  refine wm_ckd ?_
  refine wm_aload_n 0 hX dX8_levelAt_0 rfl rfl ?_
  refine wm_gR hX fl_RX8_19 dX8_levelAt_1 (fun v1 => ?_)
  refine wm_iload_n 1 hX dX8_levelAt_4 rfl rfl ?_
  refine wm_cVi (st := []) hX hz (i_Sp_hasLevel v1 i1) Ckd.of rfl cal_Sp_hasLevel wd_477 rfl (fits_Ob_levelAt_Sp_hasLevel) (Nat.le_of_ble_eq_true rfl) dX8_levelAt_5 (fun v2 => ?_)
  refine wm_if_eq 23 hX dX8_levelAt_8 (by decide) ?_ ?_
  · refine wm_ldc2 hX dX8_levelAt_23 wd_582 ?_
    exact wm_lret hX hr dX8_levelAt_26
  · refine wm_aload_n 0 hX dX8_levelAt_11 rfl rfl ?_
    refine wm_gR hX fl_RX8_19 dX8_levelAt_12 (fun v3 => ?_)
    refine wm_gR hX fl_RX8_165 dX8_levelAt_15 (fun v4 => ?_)
    refine wm_iload_n 1 hX dX8_levelAt_18 rfl rfl ?_
    refine wm_ldL hX dX8_levelAt_19 (fun v5 => ?_)
    refine wm_goto (tgt := 26) hX dX8_levelAt_20 (by decide) ?_
    exact wm_lret hX hr dX8_levelAt_26
theorem i_Ob_levelAt (a0 : Nat) (i1 : Int32) : Im false yX8_levelAt cX8_levelAt 2 (some .long) rm_Ob_levelAt injL [.ref a0, .int i1] (m_Ob_levelAt a0 i1) := Im.of RX8 (by decide) rfl (Nat.le_of_ble_eq_true rfl) (fun X hX hr hn hz => w_Ob_levelAt hX hr hz a0 i1)
set_option maxRecDepth 20000 in
theorem w_Md_levelAt {X : CX Int64} (hX : Cx X RX9 cX9_levelAt 2 rm_Md_levelAt) (hr : Rt X injL (some .long) rm_Md_levelAt.cells rm_Md_levelAt.slots) (hz : Zx X false) (a0 : Nat) (i1 : Int32) : WM X 0 [(0, .ref a0), (1, .int i1)] [] 0 0 (m_Md_levelAt a0 i1) := by
  unfold m_Md_levelAt
  refine wm_ckd ?_
  refine wm_iload_n 1 hX dX9_levelAt_0 rfl rfl ?_
  refine wm_i2l hX dX9_levelAt_1 ?_
  refine wm_lconst (0 : Int64) hX dX9_levelAt_2 (by decide) ?_
  refine wm_aload_n 0 hX dX9_levelAt_3 rfl rfl ?_
  refine wm_gI hX fl_RX9_87 dX9_levelAt_4 (fun v1 => ?_)
  refine wm_iconst (1 : Int32) hX dX9_levelAt_7 (by decide) ?_
  refine wm_isub hX dX9_levelAt_8 ?_
  refine wm_i2l hX dX9_levelAt_9 ?_
  refine wm_cSi (st := []) hX hz (i_Md_in (i1.toInt64) (0 : Int64) ((v1 - (1 : Int32)).toInt64)) cal_Md_in wd_896 rfl (fits_Md_levelAt_Md_in) (Nat.le_of_ble_eq_true rfl) dX9_levelAt_10 (fun v2 => ?_)
  refine wm_if_eq 25 hX dX9_levelAt_13 (by decide) ?_ ?_
  · refine wm_ldc2 hX dX9_levelAt_25 wd_1045 ?_
    exact wm_lret hX hr dX9_levelAt_28
  · refine wm_aload_n 0 hX dX9_levelAt_16 rfl rfl ?_
    refine wm_gR hX fl_RX9_36 dX9_levelAt_17 (fun v3 => ?_)
    refine wm_iload_n 1 hX dX9_levelAt_20 rfl rfl ?_
    refine wm_ldL hX dX9_levelAt_21 (fun v4 => ?_)
    refine wm_goto (tgt := 28) hX dX9_levelAt_22 (by decide) ?_
    exact wm_lret hX hr dX9_levelAt_28
theorem i_Md_levelAt (a0 : Nat) (i1 : Int32) : Im false yX9_levelAt cX9_levelAt 2 (some .long) rm_Md_levelAt injL [.ref a0, .int i1] (m_Md_levelAt a0 i1) := Im.of RX9 (by decide) rfl (Nat.le_of_ble_eq_true rfl) (fun X hX hr hn hz => w_Md_levelAt hX hr hz a0 i1)
set_option maxRecDepth 20000 in
theorem w_Lg_hasStep {X : CX Int32} (hX : Cx X RX1 cX1_hasStep 2 rm_Lg_hasStep) (hr : Rt X injI (some .boolean) rm_Lg_hasStep.cells rm_Lg_hasStep.slots) (hz : Zx X false) (a0 : Nat) (i1 : Int32) : WM X 0 [(0, .ref a0), (1, .int i1)] [] 0 0 (m_Lg_hasStep a0 i1) := by
  unfold m_Lg_hasStep
  refine wm_ckd ?_
  refine wm_iload_n 1 hX dX1_hasStep_0 rfl rfl ?_
  refine wm_if_lt 16 hX dX1_hasStep_1 (by decide) ?_ ?_
  · refine wm_iconst (0 : Int32) hX dX1_hasStep_16 (by decide) ?_
    exact wm_zret hX hr dX1_hasStep_17
  · refine wm_iload_n 1 hX dX1_hasStep_4 rfl rfl ?_
    refine wm_aload_n 0 hX dX1_hasStep_5 rfl rfl ?_
    refine wm_gI hX fl_RX1_18 dX1_hasStep_6 (fun v1 => ?_)
    refine wm_icmp_ge 16 hX dX1_hasStep_9 (by decide) ?_ ?_
    · refine wm_iconst (0 : Int32) hX dX1_hasStep_16 (by decide) ?_
      exact wm_zret hX hr dX1_hasStep_17
    · refine wm_iconst (1 : Int32) hX dX1_hasStep_12 (by decide) ?_
      refine wm_goto (tgt := 17) hX dX1_hasStep_13 (by decide) ?_
      exact wm_zret hX hr dX1_hasStep_17
theorem i_Lg_hasStep (a0 : Nat) (i1 : Int32) : Im false yX1_hasStep cX1_hasStep 2 (some .boolean) rm_Lg_hasStep injI [.ref a0, .int i1] (m_Lg_hasStep a0 i1) := Im.of RX1 (by decide) rfl (Nat.le_of_ble_eq_true rfl) (fun X hX hr hn hz => w_Lg_hasStep hX hr hz a0 i1)
set_option maxRecDepth 20000 in
theorem w_Ob_isRecorded {X : CX Int32} (hX : Cx X RX8 cX8_isRecorded 3 rm_Ob_isRecorded) (hr : Rt X injI (some .boolean) rm_Ob_isRecorded.cells rm_Ob_isRecorded.slots) (hz : Zx X false) (a0 : Nat) (i1 : Int32) (i2 : Int32) : WM X 0 [(0, .ref a0), (1, .int i1), (2, .int i2)] [] 0 0 (m_Ob_isRecorded a0 i1 i2) := by
  unfold m_Ob_isRecorded
  refine wm_ckd ?_
  refine wm_aload_n 0 hX dX8_isRecorded_0 rfl rfl ?_
  refine wm_gR hX fl_RX8_26 dX8_isRecorded_1 (fun v1 => ?_)
  refine wm_iload_n 1 hX dX8_isRecorded_4 rfl rfl ?_
  refine wm_cVi (st := []) hX hz (i_Lg_hasStep v1 i1) Ckd.of rfl cal_Lg_hasStep wd_595 rfl (fits_Ob_isRecorded_Lg_hasStep) (Nat.le_of_ble_eq_true rfl) dX8_isRecorded_5 (fun v2 => ?_)
  refine wm_if_eq 32 hX dX8_isRecorded_8 (by decide) ?_ ?_
  · refine wm_iconst (0 : Int32) hX dX8_isRecorded_32 (by decide) ?_
    exact wm_zret hX hr dX8_isRecorded_33
  · refine wm_iload_n 2 hX dX8_isRecorded_11 rfl rfl ?_
    refine wm_if_lt 32 hX dX8_isRecorded_12 (by decide) ?_ ?_
    · refine wm_iconst (0 : Int32) hX dX8_isRecorded_32 (by decide) ?_
      exact wm_zret hX hr dX8_isRecorded_33
    · refine wm_iload_n 2 hX dX8_isRecorded_15 rfl rfl ?_
      refine wm_iconst (2 : Int32) hX dX8_isRecorded_16 (by decide) ?_
      refine wm_aload_n 0 hX dX8_isRecorded_17 rfl rfl ?_
      refine wm_gR hX fl_RX8_19 dX8_isRecorded_18 (fun v3 => ?_)
      refine wm_gI hX fl_RX8_141 dX8_isRecorded_21 (fun v4 => ?_)
      refine wm_iadd hX dX8_isRecorded_24 ?_
      refine wm_icmp_ge 32 hX dX8_isRecorded_25 (by decide) ?_ ?_
      · refine wm_iconst (0 : Int32) hX dX8_isRecorded_32 (by decide) ?_
        exact wm_zret hX hr dX8_isRecorded_33
      · refine wm_iconst (1 : Int32) hX dX8_isRecorded_28 (by decide) ?_
        refine wm_goto (tgt := 33) hX dX8_isRecorded_29 (by decide) ?_
        exact wm_zret hX hr dX8_isRecorded_33
theorem i_Ob_isRecorded (a0 : Nat) (i1 : Int32) (i2 : Int32) : Im false yX8_isRecorded cX8_isRecorded 3 (some .boolean) rm_Ob_isRecorded injI [.ref a0, .int i1, .int i2] (m_Ob_isRecorded a0 i1 i2) := Im.of RX8 (by decide) rfl (Nat.le_of_ble_eq_true rfl) (fun X hX hr hn hz => w_Ob_isRecorded hX hr hz a0 i1 i2)
set_option maxRecDepth 20000 in
theorem w_Ob_record {X : CX Int64} (hX : Cx X RX8 cX8_record 3 rm_Ob_record) (hr : Rt X injL (some .long) rm_Ob_record.cells rm_Ob_record.slots) (hz : Zx X false) (a0 : Nat) (i1 : Int32) (i2 : Int32) : WM X 0 [(0, .ref a0), (1, .int i1), (2, .int i2)] [] 0 0 (m_Ob_record a0 i1 i2) := by
  unfold m_Ob_record
  refine wm_ckd ?_
  refine wm_aload_n 0 hX dX8_record_0 rfl rfl ?_
  refine wm_iload_n 1 hX dX8_record_1 rfl rfl ?_
  refine wm_iload_n 2 hX dX8_record_2 rfl rfl ?_
  refine wm_cVi (st := []) hX hz (i_Ob_isRecorded a0 i1 i2) Ckd.of rfl cal_Ob_isRecorded wd_591 rfl (fits_Ob_record_Ob_isRecorded) (Nat.le_of_ble_eq_true rfl) dX8_record_3 (fun v1 => ?_)
  refine wm_if_ne 13 hX dX8_record_6 (by decide) ?_ ?_
  · refine wm_aload_n 0 hX dX8_record_13 rfl rfl ?_
    refine wm_gR hX fl_RX8_26 dX8_record_14 (fun v2 => ?_)
    refine wm_gR hX fl_RX8_210 dX8_record_17 (fun v3 => ?_)
    refine wm_iload_n 1 hX dX8_record_20 rfl rfl ?_
    refine wm_bipush (7 : Int32) hX dX8_record_21 (by decide) ?_
    refine wm_imul hX dX8_record_23 ?_
    refine wm_iload_n 2 hX dX8_record_24 rfl rfl ?_
    refine wm_iadd hX dX8_record_25 ?_
    refine wm_ldL hX dX8_record_26 (fun v4 => ?_)
    exact wm_lret hX hr dX8_record_27
  · refine wm_ldc2 hX dX8_record_9 wd_582 ?_
    exact wm_lret hX hr dX8_record_12
theorem i_Ob_record (a0 : Nat) (i1 : Int32) (i2 : Int32) : Im false yX8_record cX8_record 3 (some .long) rm_Ob_record injL [.ref a0, .int i1, .int i2] (m_Ob_record a0 i1 i2) := Im.of RX8 (by decide) rfl (Nat.le_of_ble_eq_true rfl) (fun X hX hr hn hz => w_Ob_record hX hr hz a0 i1 i2)
set_option maxRecDepth 20000 in
theorem w_Md_isRecord {X : CX Int32} (hX : Cx X RX9 cX9_isRecord 3 rm_Md_isRecord) (hr : Rt X injI (some .boolean) rm_Md_isRecord.cells rm_Md_isRecord.slots) (hz : Zx X false) (a0 : Nat) (i1 : Int32) (i2 : Int32) : WM X 0 [(0, .ref a0), (1, .int i1), (2, .int i2)] [] 0 0 (m_Md_isRecord a0 i1 i2) := by
  unfold m_Md_isRecord
  refine wm_ckd ?_
  refine wm_iload_n 1 hX dX9_isRecord_0 rfl rfl ?_
  refine wm_i2l hX dX9_isRecord_1 ?_
  refine wm_lconst (0 : Int64) hX dX9_isRecord_2 (by decide) ?_
  refine wm_aload_n 0 hX dX9_isRecord_3 rfl rfl ?_
  refine wm_gI hX fl_RX9_129 dX9_isRecord_4 (fun v1 => ?_)
  refine wm_iconst (1 : Int32) hX dX9_isRecord_7 (by decide) ?_
  refine wm_isub hX dX9_isRecord_8 ?_
  refine wm_i2l hX dX9_isRecord_9 ?_
  refine wm_cSi (st := []) hX hz (i_Md_in (i1.toInt64) (0 : Int64) ((v1 - (1 : Int32)).toInt64)) cal_Md_in wd_896 rfl (fits_Md_isRecord_Md_in) (Nat.le_of_ble_eq_true rfl) dX9_isRecord_10 (fun v2 => ?_)
  refine wm_if_eq 36 hX dX9_isRecord_13 (by decide) ?_ ?_
  · refine wm_iconst (0 : Int32) hX dX9_isRecord_36 (by decide) ?_
    exact wm_zret hX hr dX9_isRecord_37
  · refine wm_iload_n 2 hX dX9_isRecord_16 rfl rfl ?_
    refine wm_i2l hX dX9_isRecord_17 ?_
    refine wm_lconst (0 : Int64) hX dX9_isRecord_18 (by decide) ?_
    refine wm_iconst (1 : Int32) hX dX9_isRecord_19 (by decide) ?_
    refine wm_aload_n 0 hX dX9_isRecord_20 rfl rfl ?_
    refine wm_gI hX fl_RX9_160 dX9_isRecord_21 (fun v3 => ?_)
    refine wm_iadd hX dX9_isRecord_24 ?_
    refine wm_i2l hX dX9_isRecord_25 ?_
    refine wm_cSi (st := []) hX hz (i_Md_in (i2.toInt64) (0 : Int64) (((1 : Int32) + v3).toInt64)) cal_Md_in wd_896 rfl (fits_Md_isRecord_Md_in) (Nat.le_of_ble_eq_true rfl) dX9_isRecord_26 (fun v4 => ?_)
    refine wm_if_eq 36 hX dX9_isRecord_29 (by decide) ?_ ?_
    · refine wm_iconst (0 : Int32) hX dX9_isRecord_36 (by decide) ?_
      exact wm_zret hX hr dX9_isRecord_37
    · refine wm_iconst (1 : Int32) hX dX9_isRecord_32 (by decide) ?_
      refine wm_goto (tgt := 37) hX dX9_isRecord_33 (by decide) ?_
      exact wm_zret hX hr dX9_isRecord_37
theorem i_Md_isRecord (a0 : Nat) (i1 : Int32) (i2 : Int32) : Im false yX9_isRecord cX9_isRecord 3 (some .boolean) rm_Md_isRecord injI [.ref a0, .int i1, .int i2] (m_Md_isRecord a0 i1 i2) := Im.of RX9 (by decide) rfl (Nat.le_of_ble_eq_true rfl) (fun X hX hr hn hz => w_Md_isRecord hX hr hz a0 i1 i2)
set_option maxRecDepth 20000 in
theorem w_Md_record {X : CX Int64} (hX : Cx X RX9 cX9_record 3 rm_Md_record) (hr : Rt X injL (some .long) rm_Md_record.cells rm_Md_record.slots) (hz : Zx X false) (a0 : Nat) (i1 : Int32) (i2 : Int32) : WM X 0 [(0, .ref a0), (1, .int i1), (2, .int i2)] [] 0 0 (m_Md_record a0 i1 i2) := by
  unfold m_Md_record
  refine wm_ckd ?_
  refine wm_aload_n 0 hX dX9_record_0 rfl rfl ?_
  refine wm_iload_n 1 hX dX9_record_1 rfl rfl ?_
  refine wm_iload_n 2 hX dX9_record_2 rfl rfl ?_
  refine wm_cVi (st := []) hX hz (i_Md_isRecord a0 i1 i2) Ckd.of rfl cal_Md_isRecord wd_1054 rfl (fits_Md_record_Md_isRecord) (Nat.le_of_ble_eq_true rfl) dX9_record_3 (fun v1 => ?_)
  refine wm_if_eq 23 hX dX9_record_6 (by decide) ?_ ?_
  · refine wm_ldc2 hX dX9_record_23 wd_1045 ?_
    exact wm_lret hX hr dX9_record_26
  · refine wm_aload_n 0 hX dX9_record_9 rfl rfl ?_
    refine wm_gR hX fl_RX9_45 dX9_record_10 (fun v2 => ?_)
    refine wm_bipush (7 : Int32) hX dX9_record_13 (by decide) ?_
    refine wm_iload_n 1 hX dX9_record_15 rfl rfl ?_
    refine wm_imul hX dX9_record_16 ?_
    refine wm_iload_n 2 hX dX9_record_17 rfl rfl ?_
    refine wm_iadd hX dX9_record_18 ?_
    refine wm_ldL hX dX9_record_19 (fun v3 => ?_)
    refine wm_goto (tgt := 26) hX dX9_record_20 (by decide) ?_
    exact wm_lret hX hr dX9_record_26
theorem i_Md_record (a0 : Nat) (i1 : Int32) (i2 : Int32) : Im false yX9_record cX9_record 3 (some .long) rm_Md_record injL [.ref a0, .int i1, .int i2] (m_Md_record a0 i1 i2) := Im.of RX9 (by decide) rfl (Nat.le_of_ble_eq_true rfl) (fun X hX hr hn hz => w_Md_record hX hr hz a0 i1 i2)
set_option maxRecDepth 20000 in
theorem w_Ob_forge_23 {X : CX Int32} (hX : Cx X RX8 cX8_forge 5 rm_Ob_forge) (hr : Rt X injI (some .int) rm_Ob_forge.cells rm_Ob_forge.slots) (hz : Zx X false) (a0 : Nat) (i1 : Int32) (i2 : Int32) (l3 : Int64) : WM X 23 [(0, .ref a0), (1, .int i1), (2, .int i2), (3, .long l3)] [] 0 0 (m_Ob_forge_23 a0 i1 i2 l3) := by
  unfold m_Ob_forge_23
  refine wm_aload_n 0 hX dX8_forge_23 rfl rfl ?_
  refine wm_gR hX fl_RX8_26 dX8_forge_24 (fun v1 => ?_)
  refine wm_gR hX fl_RX8_210 dX8_forge_27 (fun v2 => ?_)
  refine wm_iload_n 1 hX dX8_forge_30 rfl rfl ?_
  refine wm_bipush (7 : Int32) hX dX8_forge_31 (by decide) ?_
  refine wm_imul hX dX8_forge_33 ?_
  refine wm_iload_n 2 hX dX8_forge_34 rfl rfl ?_
  refine wm_iadd hX dX8_forge_35 ?_
  refine wm_lload_n 3 hX dX8_forge_36 rfl rfl ?_
  refine wm_stL hX dX8_forge_37 ?_
  refine wm_iconst (1 : Int32) hX dX8_forge_38 (by decide) ?_
  exact wm_iret hX hr dX8_forge_39
set_option maxRecDepth 20000 in
theorem w_Ob_forge {X : CX Int32} (hX : Cx X RX8 cX8_forge 5 rm_Ob_forge) (hr : Rt X injI (some .int) rm_Ob_forge.cells rm_Ob_forge.slots) (hz : Zx X false) (a0 : Nat) (i1 : Int32) (i2 : Int32) (l3 : Int64) : WM X 0 [(0, .ref a0), (1, .int i1), (2, .int i2), (3, .long l3)] [] 0 0 (m_Ob_forge a0 i1 i2 l3) := by
  unfold m_Ob_forge
  refine wm_ckd ?_
  refine wm_aload_n 0 hX dX8_forge_0 rfl rfl ?_
  refine wm_iload_n 1 hX dX8_forge_1 rfl rfl ?_
  refine wm_iload_n 2 hX dX8_forge_2 rfl rfl ?_
  refine wm_cVi (st := []) hX hz (i_Ob_isRecorded a0 i1 i2) Ckd.of rfl cal_Ob_isRecorded wd_591 rfl (fits_Ob_forge_Ob_isRecorded) (Nat.le_of_ble_eq_true rfl) dX8_forge_3 (fun v1 => ?_)
  refine wm_if_eq 20 hX dX8_forge_6 (by decide) ?_ ?_
  · refine wm_bipush (-2 : Int32) hX dX8_forge_20 (by decide) ?_
    exact wm_iret hX hr dX8_forge_22
  · refine wm_iload_n 2 hX dX8_forge_9 rfl rfl ?_
    refine wm_if_ne 23 hX dX8_forge_10 (by decide) ?_ ?_
    · exact w_Ob_forge_23 hX hr hz a0 i1 i2 l3
    · refine wm_lload_n 3 hX dX8_forge_13 rfl rfl ?_
      refine wm_cSi (st := []) hX hz (i_Ob_isSample l3) cal_Ob_isSample wd_466 rfl (fits_Ob_forge_Ob_isSample) (Nat.le_of_ble_eq_true rfl) dX8_forge_14 (fun v2 => ?_)
      refine wm_if_ne 23 hX dX8_forge_17 (by decide) ?_ ?_
      · exact w_Ob_forge_23 hX hr hz a0 i1 i2 l3
      · refine wm_bipush (-2 : Int32) hX dX8_forge_20 (by decide) ?_
        exact wm_iret hX hr dX8_forge_22
theorem i_Ob_forge (a0 : Nat) (i1 : Int32) (i2 : Int32) (l3 : Int64) : Im false yX8_forge cX8_forge 5 (some .int) rm_Ob_forge injI [.ref a0, .int i1, .int i2, .long l3] (m_Ob_forge a0 i1 i2 l3) := Im.of RX8 (by decide) rfl (Nat.le_of_ble_eq_true rfl) (fun X hX hr hn hz => w_Ob_forge hX hr hz a0 i1 i2 l3)
set_option maxRecDepth 20000 in
theorem w_Md_forge_23 {X : CX Int32} (hX : Cx X RX9 cX9_forge 5 rm_Md_forge) (hr : Rt X injI (some .int) rm_Md_forge.cells rm_Md_forge.slots) (hz : Zx X false) (a0 : Nat) (i1 : Int32) (i2 : Int32) (l3 : Int64) : WM X 23 [(0, .ref a0), (1, .int i1), (2, .int i2), (3, .long l3)] [] 0 0 (m_Md_forge_23 a0 i1 i2 l3) := by
  unfold m_Md_forge_23
  refine wm_aload_n 0 hX dX9_forge_23 rfl rfl ?_
  refine wm_gR hX fl_RX9_45 dX9_forge_24 (fun v1 => ?_)
  refine wm_bipush (7 : Int32) hX dX9_forge_27 (by decide) ?_
  refine wm_iload_n 1 hX dX9_forge_29 rfl rfl ?_
  refine wm_imul hX dX9_forge_30 ?_
  refine wm_iload_n 2 hX dX9_forge_31 rfl rfl ?_
  refine wm_iadd hX dX9_forge_32 ?_
  refine wm_lload_n 3 hX dX9_forge_33 rfl rfl ?_
  refine wm_stL hX dX9_forge_34 ?_
  refine wm_iconst (1 : Int32) hX dX9_forge_35 (by decide) ?_
  exact wm_iret hX hr dX9_forge_36
set_option maxRecDepth 20000 in
theorem w_Md_forge {X : CX Int32} (hX : Cx X RX9 cX9_forge 5 rm_Md_forge) (hr : Rt X injI (some .int) rm_Md_forge.cells rm_Md_forge.slots) (hz : Zx X false) (a0 : Nat) (i1 : Int32) (i2 : Int32) (l3 : Int64) : WM X 0 [(0, .ref a0), (1, .int i1), (2, .int i2), (3, .long l3)] [] 0 0 (m_Md_forge a0 i1 i2 l3) := by
  unfold m_Md_forge
  refine wm_ckd ?_
  refine wm_aload_n 0 hX dX9_forge_0 rfl rfl ?_
  refine wm_iload_n 1 hX dX9_forge_1 rfl rfl ?_
  refine wm_iload_n 2 hX dX9_forge_2 rfl rfl ?_
  refine wm_cVi (st := []) hX hz (i_Md_isRecord a0 i1 i2) Ckd.of rfl cal_Md_isRecord wd_1054 rfl (fits_Md_forge_Md_isRecord) (Nat.le_of_ble_eq_true rfl) dX9_forge_3 (fun v1 => ?_)
  refine wm_if_eq 20 hX dX9_forge_6 (by decide) ?_ ?_
  · refine wm_bipush (-2 : Int32) hX dX9_forge_20 (by decide) ?_
    exact wm_iret hX hr dX9_forge_22
  · refine wm_iload_n 2 hX dX9_forge_9 rfl rfl ?_
    refine wm_if_ne 23 hX dX9_forge_10 (by decide) ?_ ?_
    · exact w_Md_forge_23 hX hr hz a0 i1 i2 l3
    · refine wm_lload_n 3 hX dX9_forge_13 rfl rfl ?_
      refine wm_cSi (st := []) hX hz (i_Md_isSample l3) cal_Md_isSample wd_963 rfl (fits_Md_forge_Md_isSample) (Nat.le_of_ble_eq_true rfl) dX9_forge_14 (fun v2 => ?_)
      refine wm_if_ne 23 hX dX9_forge_17 (by decide) ?_ ?_
      · exact w_Md_forge_23 hX hr hz a0 i1 i2 l3
      · refine wm_bipush (-2 : Int32) hX dX9_forge_20 (by decide) ?_
        exact wm_iret hX hr dX9_forge_22
theorem i_Md_forge (a0 : Nat) (i1 : Int32) (i2 : Int32) (l3 : Int64) : Im false yX9_forge cX9_forge 5 (some .int) rm_Md_forge injI [.ref a0, .int i1, .int i2, .long l3] (m_Md_forge a0 i1 i2 l3) := Im.of RX9 (by decide) rfl (Nat.le_of_ble_eq_true rfl) (fun X hX hr hn hz => w_Md_forge hX hr hz a0 i1 i2 l3)
set_option maxRecDepth 20000 in
theorem w_Lg_levelOf {X : CX Int64} (hX : Cx X RX1 cX1_levelOf 2 rm_Lg_levelOf) (hr : Rt X injL (some .long) rm_Lg_levelOf.cells rm_Lg_levelOf.slots) (hz : Zx X false) (a0 : Nat) (i1 : Int32) : WM X 0 [(0, .ref a0), (1, .int i1)] [] 0 0 (m_Lg_levelOf a0 i1) := by
  unfold m_Lg_levelOf
  refine wm_ckd ?_
  refine wm_aload_n 0 hX dX1_levelOf_0 rfl rfl ?_
  refine wm_gR hX fl_RX1_9 dX1_levelOf_1 (fun v1 => ?_)
  refine wm_iload_n 1 hX dX1_levelOf_4 rfl rfl ?_
  refine wm_bipush (7 : Int32) hX dX1_levelOf_5 (by decide) ?_
  refine wm_imul hX dX1_levelOf_7 ?_
  refine wm_iconst (1 : Int32) hX dX1_levelOf_8 (by decide) ?_
  refine wm_iadd hX dX1_levelOf_9 ?_
  refine wm_ldL hX dX1_levelOf_10 (fun v2 => ?_)
  exact wm_lret hX hr dX1_levelOf_11
theorem i_Lg_levelOf (a0 : Nat) (i1 : Int32) : Im false yX1_levelOf cX1_levelOf 2 (some .long) rm_Lg_levelOf injL [.ref a0, .int i1] (m_Lg_levelOf a0 i1) := Im.of RX1 (by decide) rfl (Nat.le_of_ble_eq_true rfl) (fun X hX hr hn hz => w_Lg_levelOf hX hr hz a0 i1)
set_option maxRecDepth 20000 in
theorem wb_Lg_agrees_25 {X : CX Int32} (hX : Cx X RX1 cX1_agrees 4 rm_Lg_agrees) (hr : Rt X injI (some .boolean) rm_Lg_agrees.cells rm_Lg_agrees.slots) (hz : Zx X false) {k25 : Nat → Int32 → Nat → Int32 → M Int32} (h25 : ∀ (a0 : Nat) (i1 : Int32) (a2 : Nat) (i3 : Int32), WM X 25 [(0, .ref a0), (1, .int i1), (2, .ref a2), (3, .int i3)] [] 0 0 (k25 a0 i1 a2 i3)) (a0 : Nat) (i1 : Int32) (a2 : Nat) (i3 : Int32) : WM X 25 [(0, .ref a0), (1, .int i1), (2, .ref a2), (3, .int i3)] [] 0 0 (b_Lg_agrees_25 k25 a0 i1 a2 i3) := by
  unfold b_Lg_agrees_25
  refine wm_iload_n 3 hX dX1_agrees_25 rfl rfl ?_
  refine wm_aload_n 2 hX dX1_agrees_26 rfl rfl ?_
  refine wm_gR hX fl_RX1_22 dX1_agrees_27 (fun v1 => ?_)
  refine wm_gI hX fl_RX1_36 dX1_agrees_30 (fun v2 => ?_)
  refine wm_icmp_ge 72 hX dX1_agrees_33 (by decide) ?_ ?_
  · refine wm_iconst (1 : Int32) hX dX1_agrees_72 (by decide) ?_
    exact wm_zret hX hr dX1_agrees_73
  · refine wm_aload_n 0 hX dX1_agrees_36 rfl rfl ?_
    refine wm_gR hX fl_RX1_9 dX1_agrees_37 (fun v3 => ?_)
    refine wm_iload_n 1 hX dX1_agrees_40 rfl rfl ?_
    refine wm_bipush (7 : Int32) hX dX1_agrees_41 (by decide) ?_
    refine wm_imul hX dX1_agrees_43 ?_
    refine wm_iconst (2 : Int32) hX dX1_agrees_44 (by decide) ?_
    refine wm_iadd hX dX1_agrees_45 ?_
    refine wm_iload_n 3 hX dX1_agrees_46 rfl rfl ?_
    refine wm_iadd hX dX1_agrees_47 ?_
    refine wm_ldL hX dX1_agrees_48 (fun v4 => ?_)
    refine wm_aload_n 2 hX dX1_agrees_49 rfl rfl ?_
    refine wm_gR hX fl_RX1_39 dX1_agrees_50 (fun v5 => ?_)
    refine wm_iload_n 3 hX dX1_agrees_53 rfl rfl ?_
    refine wm_bipush (6 : Int32) hX dX1_agrees_54 (by decide) ?_
    refine wm_imul hX dX1_agrees_56 ?_
    refine wm_iconst (0 : Int32) hX dX1_agrees_57 (by decide) ?_
    refine wm_iadd hX dX1_agrees_58 ?_
    refine wm_ldL hX dX1_agrees_59 (fun v6 => ?_)
    refine wm_lif_eq 66 hX dX1_agrees_60 dX1_agrees_61 (by decide) ?_ ?_
    · refine wm_iinc (i3 + 1) 3 [(3, .int (i3 + 1)), (0, .ref a0), (1, .int i1), (2, .ref a2)] hX dX1_agrees_66 rfl rfl (by decide) rfl ?_
      refine wm_goto (tgt := 25) hX dX1_agrees_69 (by decide) ?_
      refine wm_sub [1, 2, 3, 0] [(0, .ref a0), (1, .int i1), (2, .ref a2), (3, .int (i3 + 1))] rfl ?_
      exact h25 a0 i1 a2 (i3 + 1)
    · refine wm_iconst (0 : Int32) hX dX1_agrees_64 (by decide) ?_
      exact wm_zret hX hr dX1_agrees_65
theorem wl_Lg_agrees_25 {X : CX Int32} (hX : Cx X RX1 cX1_agrees 4 rm_Lg_agrees) (hr : Rt X injI (some .boolean) rm_Lg_agrees.cells rm_Lg_agrees.slots) (hz : Zx X false) : ∀ (n : Nat) (a0 : Nat) (i1 : Int32) (a2 : Nat) (i3 : Int32), WM X 25 [(0, .ref a0), (1, .int i1), (2, .ref a2), (3, .int i3)] [] 0 0 (l_Lg_agrees_25 n a0 i1 a2 i3)
  | 0, _, _, _, _ => wm_fl
  | n + 1, a0, i1, a2, i3 => wb_Lg_agrees_25 hX hr hz (wl_Lg_agrees_25 hX hr hz n) a0 i1 a2 i3
set_option maxRecDepth 20000 in
theorem w_Lg_agrees {X : CX Int32} (hX : Cx X RX1 cX1_agrees 4 rm_Lg_agrees) (hr : Rt X injI (some .boolean) rm_Lg_agrees.cells rm_Lg_agrees.slots) (hz : Zx X false) (a0 : Nat) (i1 : Int32) (a2 : Nat) : WM X 0 [(0, .ref a0), (1, .int i1), (2, .ref a2)] [] 0 0 (m_Lg_agrees a0 i1 a2) := by
  unfold m_Lg_agrees
  refine wm_ckd ?_
  refine wm_aload_n 0 hX dX1_agrees_0 rfl rfl ?_
  refine wm_iload_n 1 hX dX1_agrees_1 rfl rfl ?_
  refine wm_cVl (st := []) hX hz (i_Lg_levelOf a0 i1) Ckd.of rfl cal_Lg_levelOf wd_611 rfl (fits_Lg_agrees_Lg_levelOf) (Nat.le_of_ble_eq_true rfl) dX1_agrees_2 (fun v1 => ?_)
  refine wm_aload_n 2 hX dX1_agrees_5 rfl rfl ?_
  refine wm_gR hX fl_RX1_22 dX1_agrees_6 (fun v2 => ?_)
  refine wm_gR hX fl_RX1_28 dX1_agrees_9 (fun v3 => ?_)
  refine wm_aload_n 2 hX dX1_agrees_12 rfl rfl ?_
  refine wm_gI hX fl_RX1_33 dX1_agrees_13 (fun v4 => ?_)
  refine wm_ldL hX dX1_agrees_16 (fun v5 => ?_)
  refine wm_lif_eq 23 hX dX1_agrees_17 dX1_agrees_18 (by decide) ?_ ?_
  · refine wm_iconst (0 : Int32) hX dX1_agrees_23 (by decide) ?_
    refine wm_istore_n [(3, .int (0 : Int32)), (0, .ref a0), (1, .int i1), (2, .ref a2)] hX dX1_agrees_24 rfl (by decide) rfl ?_
    refine wm_sub [1, 2, 3, 0] [(0, .ref a0), (1, .int i1), (2, .ref a2), (3, .int (0 : Int32))] rfl ?_
    exact wl_Lg_agrees_25 hX hr hz FU a0 i1 a2 (0 : Int32)
  · refine wm_iconst (0 : Int32) hX dX1_agrees_21 (by decide) ?_
    exact wm_zret hX hr dX1_agrees_22
theorem i_Lg_agrees (a0 : Nat) (i1 : Int32) (a2 : Nat) : Im false yX1_agrees cX1_agrees 4 (some .boolean) rm_Lg_agrees injI [.ref a0, .int i1, .ref a2] (m_Lg_agrees a0 i1 a2) := Im.of RX1 (by decide) rfl (Nat.le_of_ble_eq_true rfl) (fun X hX hr hn hz => w_Lg_agrees hX hr hz a0 i1 a2)
set_option maxRecDepth 20000 in
theorem wb_Ob_check_9 {X : CX Int32} (hX : Cx X RX8 cX8_check 2 rm_Ob_check) (hr : Rt X injI (some .int) rm_Ob_check.cells rm_Ob_check.slots) (hz : Zx X false) {k9 : Nat → Int32 → M Int32} (h9 : ∀ (a0 : Nat) (i1 : Int32), WM X 9 [(0, .ref a0), (1, .int i1)] [] 0 0 (k9 a0 i1)) (a0 : Nat) (i1 : Int32) : WM X 9 [(0, .ref a0), (1, .int i1)] [] 0 0 (b_Ob_check_9 k9 a0 i1) := by
  unfold b_Ob_check_9
  refine wm_iload_n 1 hX dX8_check_9 rfl rfl ?_
  refine wm_aload_n 0 hX dX8_check_10 rfl rfl ?_
  refine wm_gR hX fl_RX8_26 dX8_check_11 (fun v1 => ?_)
  refine wm_gI hX fl_RX8_138 dX8_check_14 (fun v2 => ?_)
  refine wm_icmp_ge 67 hX dX8_check_17 (by decide) ?_ ?_
  · refine wm_iconst (-1 : Int32) hX dX8_check_67 (by decide) ?_
    exact wm_iret hX hr dX8_check_68
  · refine wm_aload_n 0 hX dX8_check_20 rfl rfl ?_
    refine wm_gR hX fl_RX8_69 dX8_check_21 (fun v3 => ?_)
    refine wm_aload_n 0 hX dX8_check_24 rfl rfl ?_
    refine wm_gR hX fl_RX8_26 dX8_check_25 (fun v4 => ?_)
    refine wm_gR hX fl_RX8_210 dX8_check_28 (fun v5 => ?_)
    refine wm_iload_n 1 hX dX8_check_31 rfl rfl ?_
    refine wm_bipush (7 : Int32) hX dX8_check_32 (by decide) ?_
    refine wm_imul hX dX8_check_34 ?_
    refine wm_iconst (0 : Int32) hX dX8_check_35 (by decide) ?_
    refine wm_iadd hX dX8_check_36 ?_
    refine wm_ldL hX dX8_check_37 (fun v6 => ?_)
    refine wm_cVi (st := []) hX hz (i_Tw_makeStep v3 v6) Ckd.of rfl cal_Tw_makeStep wd_503 rfl (fits_Ob_check_Tw_makeStep) (Nat.le_of_ble_eq_true rfl) dX8_check_38 (fun v7 => ?_)
    refine wm_if_eq 59 hX dX8_check_41 (by decide) ?_ ?_
    · refine wm_iload_n 1 hX dX8_check_59 rfl rfl ?_
      exact wm_iret hX hr dX8_check_60
    · refine wm_aload_n 0 hX dX8_check_44 rfl rfl ?_
      refine wm_gR hX fl_RX8_26 dX8_check_45 (fun v8 => ?_)
      refine wm_iload_n 1 hX dX8_check_48 rfl rfl ?_
      refine wm_aload_n 0 hX dX8_check_49 rfl rfl ?_
      refine wm_gR hX fl_RX8_69 dX8_check_50 (fun v9 => ?_)
      refine wm_cVi (st := []) hX hz (i_Lg_agrees v8 i1 v9) Ckd.of rfl cal_Lg_agrees wd_607 rfl (fits_Ob_check_Lg_agrees) (Nat.le_of_ble_eq_true rfl) dX8_check_53 (fun v10 => ?_)
      refine wm_if_ne 61 hX dX8_check_56 (by decide) ?_ ?_
      · refine wm_iinc (i1 + 1) 1 [(1, .int (i1 + 1)), (0, .ref a0)] hX dX8_check_61 rfl rfl (by decide) rfl ?_
        refine wm_goto (tgt := 9) hX dX8_check_64 (by decide) ?_
        refine wm_sub [1, 0] [(0, .ref a0), (1, .int (i1 + 1))] rfl ?_
        exact h9 a0 (i1 + 1)
      · refine wm_iload_n 1 hX dX8_check_59 rfl rfl ?_
        exact wm_iret hX hr dX8_check_60
theorem wl_Ob_check_9 {X : CX Int32} (hX : Cx X RX8 cX8_check 2 rm_Ob_check) (hr : Rt X injI (some .int) rm_Ob_check.cells rm_Ob_check.slots) (hz : Zx X false) : ∀ (n : Nat) (a0 : Nat) (i1 : Int32), WM X 9 [(0, .ref a0), (1, .int i1)] [] 0 0 (l_Ob_check_9 n a0 i1)
  | 0, _, _ => wm_fl
  | n + 1, a0, i1 => wb_Ob_check_9 hX hr hz (wl_Ob_check_9 hX hr hz n) a0 i1
set_option maxRecDepth 20000 in
theorem w_Ob_check {X : CX Int32} (hX : Cx X RX8 cX8_check 2 rm_Ob_check) (hr : Rt X injI (some .int) rm_Ob_check.cells rm_Ob_check.slots) (hz : Zx X false) (a0 : Nat) : WM X 0 [(0, .ref a0)] [] 0 0 (m_Ob_check a0) := by
  unfold m_Ob_check
  refine wm_ckd ?_
  refine wm_aload_n 0 hX dX8_check_0 rfl rfl ?_
  refine wm_gR hX fl_RX8_69 dX8_check_1 (fun v1 => ?_)
  refine wm_cVv (st := []) hX hz (i_Tw_beginAgain v1) Ckd.of rfl cal_Tw_beginAgain wd_565 rfl (fits_Ob_check_Tw_beginAgain) (Nat.le_of_ble_eq_true rfl) dX8_check_4 ?_
  refine wm_iconst (0 : Int32) hX dX8_check_7 (by decide) ?_
  refine wm_istore_n [(1, .int (0 : Int32)), (0, .ref a0)] hX dX8_check_8 rfl (by decide) rfl ?_
  refine wm_sub [1, 0] [(0, .ref a0), (1, .int (0 : Int32))] rfl ?_
  exact wl_Ob_check_9 hX hr hz FU a0 (0 : Int32)
theorem i_Ob_check (a0 : Nat) : Im false yX8_check cX8_check 2 (some .int) rm_Ob_check injI [.ref a0] (m_Ob_check a0) := Im.of RX8 (by decide) rfl (Nat.le_of_ble_eq_true rfl) (fun X hX hr hn hz => w_Ob_check hX hr hz a0)
set_option maxRecDepth 20000 in
theorem wb_Md_check_58 {X : CX Int32} (hX : Cx X RX9 cX9_check 3 rm_Md_check) (hr : Rt X injI (some .int) rm_Md_check.cells rm_Md_check.slots) (hz : Zx X false) {k6 : Nat → Int32 → M Int32} (h6 : ∀ (a0 : Nat) (i1 : Int32), WM X 6 [(0, .ref a0), (1, .int i1)] [] 0 0 (k6 a0 i1)) {k58 : Nat → Int32 → Int32 → M Int32} (h58 : ∀ (a0 : Nat) (i1 : Int32) (i2 : Int32), WM X 58 [(0, .ref a0), (1, .int i1), (2, .int i2)] [] 0 0 (k58 a0 i1 i2)) (a0 : Nat) (i1 : Int32) (i2 : Int32) : WM X 58 [(0, .ref a0), (1, .int i1), (2, .int i2)] [] 0 0 (b_Md_check_58 k6 k58 a0 i1 i2) := by
  unfold b_Md_check_58
  refine wm_iload_n 2 hX dX9_check_58 rfl rfl ?_
  refine wm_aload_n 0 hX dX9_check_59 rfl rfl ?_
  refine wm_gI hX fl_RX9_160 dX9_check_60 (fun v1 => ?_)
  refine wm_icmp_ge 100 hX dX9_check_63 (by decide) ?_ ?_
  · refine wm_iinc (i1 + 1) 1 [(1, .int (i1 + 1)), (0, .ref a0), (2, .int i2)] hX dX9_check_100 rfl rfl (by decide) rfl ?_
    refine wm_goto (tgt := 6) hX dX9_check_103 (by decide) ?_
    refine wm_sub [1, 0] [(0, .ref a0), (1, .int (i1 + 1))] rfl ?_
    exact h6 a0 (i1 + 1)
  · refine wm_aload_n 0 hX dX9_check_66 rfl rfl ?_
    refine wm_gR hX fl_RX9_51 dX9_check_67 (fun v2 => ?_)
    refine wm_bipush (6 : Int32) hX dX9_check_70 (by decide) ?_
    refine wm_iload_n 2 hX dX9_check_72 rfl rfl ?_
    refine wm_imul hX dX9_check_73 ?_
    refine wm_ldL hX dX9_check_74 (fun v3 => ?_)
    refine wm_aload_n 0 hX dX9_check_75 rfl rfl ?_
    refine wm_gR hX fl_RX9_45 dX9_check_76 (fun v4 => ?_)
    refine wm_bipush (7 : Int32) hX dX9_check_79 (by decide) ?_
    refine wm_iload_n 1 hX dX9_check_81 rfl rfl ?_
    refine wm_imul hX dX9_check_82 ?_
    refine wm_iconst (2 : Int32) hX dX9_check_83 (by decide) ?_
    refine wm_iadd hX dX9_check_84 ?_
    refine wm_iload_n 2 hX dX9_check_85 rfl rfl ?_
    refine wm_iadd hX dX9_check_86 ?_
    refine wm_ldL hX dX9_check_87 (fun v5 => ?_)
    refine wm_lif_eq 94 hX dX9_check_88 dX9_check_89 (by decide) ?_ ?_
    · refine wm_iinc (i2 + 1) 2 [(2, .int (i2 + 1)), (0, .ref a0), (1, .int i1)] hX dX9_check_94 rfl rfl (by decide) rfl ?_
      refine wm_goto (tgt := 58) hX dX9_check_97 (by decide) ?_
      refine wm_sub [1, 2, 0] [(0, .ref a0), (1, .int i1), (2, .int (i2 + 1))] rfl ?_
      exact h58 a0 i1 (i2 + 1)
    · refine wm_iload_n 1 hX dX9_check_92 rfl rfl ?_
      exact wm_iret hX hr dX9_check_93
theorem wl_Md_check_58 {X : CX Int32} (hX : Cx X RX9 cX9_check 3 rm_Md_check) (hr : Rt X injI (some .int) rm_Md_check.cells rm_Md_check.slots) (hz : Zx X false) {k6 : Nat → Int32 → M Int32} (h6 : ∀ (a0 : Nat) (i1 : Int32), WM X 6 [(0, .ref a0), (1, .int i1)] [] 0 0 (k6 a0 i1)) : ∀ (n : Nat) (a0 : Nat) (i1 : Int32) (i2 : Int32), WM X 58 [(0, .ref a0), (1, .int i1), (2, .int i2)] [] 0 0 (l_Md_check_58 k6 n a0 i1 i2)
  | 0, _, _, _ => wm_fl
  | n + 1, a0, i1, i2 => wb_Md_check_58 hX hr hz h6 (wl_Md_check_58 hX hr hz h6 n) a0 i1 i2
set_option maxRecDepth 20000 in
theorem wb_Md_check_6 {X : CX Int32} (hX : Cx X RX9 cX9_check 3 rm_Md_check) (hr : Rt X injI (some .int) rm_Md_check.cells rm_Md_check.slots) (hz : Zx X false) {k6 : Nat → Int32 → M Int32} (h6 : ∀ (a0 : Nat) (i1 : Int32), WM X 6 [(0, .ref a0), (1, .int i1)] [] 0 0 (k6 a0 i1)) (a0 : Nat) (i1 : Int32) : WM X 6 [(0, .ref a0), (1, .int i1)] [] 0 0 (b_Md_check_6 k6 a0 i1) := by
  unfold b_Md_check_6
  refine wm_iload_n 1 hX dX9_check_6 rfl rfl ?_
  refine wm_aload_n 0 hX dX9_check_7 rfl rfl ?_
  refine wm_gI hX fl_RX9_129 dX9_check_8 (fun v1 => ?_)
  refine wm_icmp_ge 106 hX dX9_check_11 (by decide) ?_ ?_
  · refine wm_iconst (-1 : Int32) hX dX9_check_106 (by decide) ?_
    exact wm_iret hX hr dX9_check_107
  · refine wm_aload_n 0 hX dX9_check_14 rfl rfl ?_
    refine wm_aload_n 0 hX dX9_check_15 rfl rfl ?_
    refine wm_gR hX fl_RX9_45 dX9_check_16 (fun v2 => ?_)
    refine wm_bipush (7 : Int32) hX dX9_check_19 (by decide) ?_
    refine wm_iload_n 1 hX dX9_check_21 rfl rfl ?_
    refine wm_imul hX dX9_check_22 ?_
    refine wm_ldL hX dX9_check_23 (fun v3 => ?_)
    refine wm_cVi (st := []) hX hz (i_Md_tries a0 v3) Ckd.of rfl cal_Md_tries wd_987 rfl (fits_Md_check_Md_tries) (Nat.le_of_ble_eq_true rfl) dX9_check_24 (fun v4 => ?_)
    refine wm_if_eq 54 hX dX9_check_27 (by decide) ?_ ?_
    · refine wm_iload_n 1 hX dX9_check_54 rfl rfl ?_
      exact wm_iret hX hr dX9_check_55
    · refine wm_aload_n 0 hX dX9_check_30 rfl rfl ?_
      refine wm_gR hX fl_RX9_36 dX9_check_31 (fun v5 => ?_)
      refine wm_aload_n 0 hX dX9_check_34 rfl rfl ?_
      refine wm_gI hX fl_RX9_211 dX9_check_35 (fun v6 => ?_)
      refine wm_ldL hX dX9_check_38 (fun v7 => ?_)
      refine wm_aload_n 0 hX dX9_check_39 rfl rfl ?_
      refine wm_gR hX fl_RX9_45 dX9_check_40 (fun v8 => ?_)
      refine wm_bipush (7 : Int32) hX dX9_check_43 (by decide) ?_
      refine wm_iload_n 1 hX dX9_check_45 rfl rfl ?_
      refine wm_imul hX dX9_check_46 ?_
      refine wm_iconst (1 : Int32) hX dX9_check_47 (by decide) ?_
      refine wm_iadd hX dX9_check_48 ?_
      refine wm_ldL hX dX9_check_49 (fun v9 => ?_)
      refine wm_lif_eq 56 hX dX9_check_50 dX9_check_51 (by decide) ?_ ?_
      · refine wm_iconst (0 : Int32) hX dX9_check_56 (by decide) ?_
        refine wm_istore_n [(2, .int (0 : Int32)), (0, .ref a0), (1, .int i1)] hX dX9_check_57 rfl (by decide) rfl ?_
        refine wm_sub [1, 2, 0] [(0, .ref a0), (1, .int i1), (2, .int (0 : Int32))] rfl ?_
        exact wl_Md_check_58 hX hr hz h6 FU a0 i1 (0 : Int32)
      · refine wm_iload_n 1 hX dX9_check_54 rfl rfl ?_
        exact wm_iret hX hr dX9_check_55
theorem wl_Md_check_6 {X : CX Int32} (hX : Cx X RX9 cX9_check 3 rm_Md_check) (hr : Rt X injI (some .int) rm_Md_check.cells rm_Md_check.slots) (hz : Zx X false) : ∀ (n : Nat) (a0 : Nat) (i1 : Int32), WM X 6 [(0, .ref a0), (1, .int i1)] [] 0 0 (l_Md_check_6 n a0 i1)
  | 0, _, _ => wm_fl
  | n + 1, a0, i1 => wb_Md_check_6 hX hr hz (wl_Md_check_6 hX hr hz n) a0 i1
set_option maxRecDepth 20000 in
theorem w_Md_check {X : CX Int32} (hX : Cx X RX9 cX9_check 3 rm_Md_check) (hr : Rt X injI (some .int) rm_Md_check.cells rm_Md_check.slots) (hz : Zx X false) (a0 : Nat) : WM X 0 [(0, .ref a0)] [] 0 0 (m_Md_check a0) := by
  unfold m_Md_check
  refine wm_ckd ?_
  refine wm_aload_n 0 hX dX9_check_0 rfl rfl ?_
  refine wm_cVv (st := []) hX hz (i_Md_rest a0) Ckd.of rfl cal_Md_rest wd_1032 rfl (fits_Md_check_Md_rest) (Nat.le_of_ble_eq_true rfl) dX9_check_1 ?_
  refine wm_iconst (0 : Int32) hX dX9_check_4 (by decide) ?_
  refine wm_istore_n [(1, .int (0 : Int32)), (0, .ref a0)] hX dX9_check_5 rfl (by decide) rfl ?_
  refine wm_sub [1, 0] [(0, .ref a0), (1, .int (0 : Int32))] rfl ?_
  exact wl_Md_check_6 hX hr hz FU a0 (0 : Int32)
theorem i_Md_check (a0 : Nat) : Im false yX9_check cX9_check 3 (some .int) rm_Md_check injI [.ref a0] (m_Md_check a0) := Im.of RX9 (by decide) rfl (Nat.le_of_ble_eq_true rfl) (fun X hX hr hn hz => w_Md_check hX hr hz a0)
set_option maxRecDepth 20000 in
theorem wb_Ob_read_18 {X : CX Int64} (hX : Cx X RX8 cX8_read 5 rm_Ob_read) (hr : Rt X injL (some .long) rm_Ob_read.cells rm_Ob_read.slots) (hz : Zx X false) {k18 : Nat → Int32 → Int64 → Int32 → M Int64} (h18 : ∀ (a0 : Nat) (i1 : Int32) (l2 : Int64) (i4 : Int32), WM X 18 [(0, .ref a0), (1, .int i1), (2, .long l2), (4, .int i4)] [] 0 0 (k18 a0 i1 l2 i4)) (a0 : Nat) (i1 : Int32) (l2 : Int64) (i4 : Int32) : WM X 18 [(0, .ref a0), (1, .int i1), (2, .long l2), (4, .int i4)] [] 0 0 (b_Ob_read_18 k18 a0 i1 l2 i4) := by
  unfold b_Ob_read_18
  refine wm_iload 3 hX dX8_read_18 rfl ?_
  refine wm_bipush (8 : Int32) hX dX8_read_20 (by decide) ?_
  refine wm_icmp_ge 60 hX dX8_read_22 (by decide) ?_ ?_
  · refine wm_lload_n 2 hX dX8_read_60 rfl rfl ?_
    exact wm_lret hX hr dX8_read_61
  · refine wm_iload 3 hX dX8_read_25 rfl ?_
    refine wm_iload_n 1 hX dX8_read_27 rfl rfl ?_
    refine wm_icmp_gt 60 hX dX8_read_28 (by decide) ?_ ?_
    · refine wm_lload_n 2 hX dX8_read_60 rfl rfl ?_
      exact wm_lret hX hr dX8_read_61
    · refine wm_lload_n 2 hX dX8_read_31 rfl rfl ?_
      refine wm_aload_n 0 hX dX8_read_32 rfl rfl ?_
      refine wm_gR hX fl_RX8_58 dX8_read_33 (fun v1 => ?_)
      refine wm_iload 3 hX dX8_read_36 rfl ?_
      refine wm_ldI hX dX8_read_38 (fun v2 => ?_)
      refine wm_i2l hX dX8_read_39 ?_
      refine wm_aload_n 0 hX dX8_read_40 rfl rfl ?_
      refine wm_gR hX fl_RX8_26 dX8_read_41 (fun v3 => ?_)
      refine wm_iload_n 1 hX dX8_read_44 rfl rfl ?_
      refine wm_iload 3 hX dX8_read_45 rfl ?_
      refine wm_isub hX dX8_read_47 ?_
      refine wm_cVl (st := [.long (v2.toInt64), .long l2]) hX hz (i_Lg_levelOf v3 (i1 - i4)) Ckd.of rfl cal_Lg_levelOf wd_619 rfl (fits_Ob_read_Lg_levelOf) (Nat.le_of_ble_eq_true rfl) dX8_read_48 (fun v4 => ?_)
      refine wm_lmul hX dX8_read_51 ?_
      refine wm_ladd hX dX8_read_52 ?_
      refine wm_letl (fun v5 => ?_)
      refine wm_lstore_n [(2, .long v5), (0, .ref a0), (1, .int i1), (4, .int i4)] hX dX8_read_53 rfl (by decide) rfl ?_
      refine wm_iinc (i4 + 1) 3 [(4, .int (i4 + 1)), (2, .long v5), (0, .ref a0), (1, .int i1)] hX dX8_read_54 rfl rfl (by decide) rfl ?_
      refine wm_goto (tgt := 18) hX dX8_read_57 (by decide) ?_
      refine wm_sub [2, 3, 1, 0] [(0, .ref a0), (1, .int i1), (2, .long v5), (4, .int (i4 + 1))] rfl ?_
      exact h18 a0 i1 v5 (i4 + 1)
theorem wl_Ob_read_18 {X : CX Int64} (hX : Cx X RX8 cX8_read 5 rm_Ob_read) (hr : Rt X injL (some .long) rm_Ob_read.cells rm_Ob_read.slots) (hz : Zx X false) : ∀ (n : Nat) (a0 : Nat) (i1 : Int32) (l2 : Int64) (i4 : Int32), WM X 18 [(0, .ref a0), (1, .int i1), (2, .long l2), (4, .int i4)] [] 0 0 (l_Ob_read_18 n a0 i1 l2 i4)
  | 0, _, _, _, _ => wm_fl
  | n + 1, a0, i1, l2, i4 => wb_Ob_read_18 hX hr hz (wl_Ob_read_18 hX hr hz n) a0 i1 l2 i4
set_option maxRecDepth 20000 in
theorem w_Ob_read {X : CX Int64} (hX : Cx X RX8 cX8_read 5 rm_Ob_read) (hr : Rt X injL (some .long) rm_Ob_read.cells rm_Ob_read.slots) (hz : Zx X false) (a0 : Nat) (i1 : Int32) : WM X 0 [(0, .ref a0), (1, .int i1)] [] 0 0 (m_Ob_read a0 i1) := by
  unfold m_Ob_read
  refine wm_ckd ?_
  refine wm_aload_n 0 hX dX8_read_0 rfl rfl ?_
  refine wm_gR hX fl_RX8_26 dX8_read_1 (fun v1 => ?_)
  refine wm_iload_n 1 hX dX8_read_4 rfl rfl ?_
  refine wm_cVi (st := []) hX hz (i_Lg_hasStep v1 i1) Ckd.of rfl cal_Lg_hasStep wd_595 rfl (fits_Ob_read_Lg_hasStep) (Nat.le_of_ble_eq_true rfl) dX8_read_5 (fun v2 => ?_)
  refine wm_if_ne 13 hX dX8_read_8 (by decide) ?_ ?_
  · refine wm_lconst (0 : Int64) hX dX8_read_13 (by decide) ?_
    refine wm_lstore_n [(2, .long (0 : Int64)), (0, .ref a0), (1, .int i1)] hX dX8_read_14 rfl (by decide) rfl ?_
    refine wm_iconst (0 : Int32) hX dX8_read_15 (by decide) ?_
    refine wm_istore [(4, .int (0 : Int32)), (2, .long (0 : Int64)), (0, .ref a0), (1, .int i1)] hX dX8_read_16 (by decide) rfl ?_
    refine wm_sub [2, 3, 1, 0] [(0, .ref a0), (1, .int i1), (2, .long (0 : Int64)), (4, .int (0 : Int32))] rfl ?_
    exact wl_Ob_read_18 hX hr hz FU a0 i1 (0 : Int64) (0 : Int32)
  · refine wm_lconst (0 : Int64) hX dX8_read_11 (by decide) ?_
    exact wm_lret hX hr dX8_read_12
theorem i_Ob_read (a0 : Nat) (i1 : Int32) : Im false yX8_read cX8_read 5 (some .long) rm_Ob_read injL [.ref a0, .int i1] (m_Ob_read a0 i1) := Im.of RX8 (by decide) rfl (Nat.le_of_ble_eq_true rfl) (fun X hX hr hn hz => w_Ob_read hX hr hz a0 i1)
set_option maxRecDepth 20000 in
theorem wb_Md_read_23 {X : CX Int64} (hX : Cx X RX9 cX9_read 5 rm_Md_read) (hr : Rt X injL (some .long) rm_Md_read.cells rm_Md_read.slots) (hz : Zx X false) {k23 : Nat → Int32 → Int64 → Int32 → M Int64} (h23 : ∀ (a0 : Nat) (i1 : Int32) (l2 : Int64) (i4 : Int32), WM X 23 [(0, .ref a0), (1, .int i1), (2, .long l2), (4, .int i4)] [] 0 0 (k23 a0 i1 l2 i4)) (a0 : Nat) (i1 : Int32) (l2 : Int64) (i4 : Int32) : WM X 23 [(0, .ref a0), (1, .int i1), (2, .long l2), (4, .int i4)] [] 0 0 (b_Md_read_23 k23 a0 i1 l2 i4) := by
  unfold b_Md_read_23
  refine wm_iload 3 hX dX9_read_23 rfl ?_
  refine wm_bipush (8 : Int32) hX dX9_read_25 (by decide) ?_
  refine wm_icmp_ge 68 hX dX9_read_27 (by decide) ?_ ?_
  · refine wm_lload_n 2 hX dX9_read_68 rfl rfl ?_
    exact wm_lret hX hr dX9_read_69
  · refine wm_iload 3 hX dX9_read_30 rfl ?_
    refine wm_iload_n 1 hX dX9_read_32 rfl rfl ?_
    refine wm_icmp_gt 68 hX dX9_read_33 (by decide) ?_ ?_
    · refine wm_lload_n 2 hX dX9_read_68 rfl rfl ?_
      exact wm_lret hX hr dX9_read_69
    · refine wm_lload_n 2 hX dX9_read_36 rfl rfl ?_
      refine wm_aload_n 0 hX dX9_read_37 rfl rfl ?_
      refine wm_gR hX fl_RX9_57 dX9_read_38 (fun v1 => ?_)
      refine wm_iload 3 hX dX9_read_41 rfl ?_
      refine wm_ldI hX dX9_read_43 (fun v2 => ?_)
      refine wm_i2l hX dX9_read_44 ?_
      refine wm_aload_n 0 hX dX9_read_45 rfl rfl ?_
      refine wm_gR hX fl_RX9_45 dX9_read_46 (fun v3 => ?_)
      refine wm_bipush (7 : Int32) hX dX9_read_49 (by decide) ?_
      refine wm_iload_n 1 hX dX9_read_51 rfl rfl ?_
      refine wm_iload 3 hX dX9_read_52 rfl ?_
      refine wm_isub hX dX9_read_54 ?_
      refine wm_imul hX dX9_read_55 ?_
      refine wm_iconst (1 : Int32) hX dX9_read_56 (by decide) ?_
      refine wm_iadd hX dX9_read_57 ?_
      refine wm_ldL hX dX9_read_58 (fun v4 => ?_)
      refine wm_lmul hX dX9_read_59 ?_
      refine wm_ladd hX dX9_read_60 ?_
      refine wm_letl (fun v5 => ?_)
      refine wm_lstore_n [(2, .long v5), (0, .ref a0), (1, .int i1), (4, .int i4)] hX dX9_read_61 rfl (by decide) rfl ?_
      refine wm_iinc (i4 + 1) 3 [(4, .int (i4 + 1)), (2, .long v5), (0, .ref a0), (1, .int i1)] hX dX9_read_62 rfl rfl (by decide) rfl ?_
      refine wm_goto (tgt := 23) hX dX9_read_65 (by decide) ?_
      refine wm_sub [2, 3, 1, 0] [(0, .ref a0), (1, .int i1), (2, .long v5), (4, .int (i4 + 1))] rfl ?_
      exact h23 a0 i1 v5 (i4 + 1)
theorem wl_Md_read_23 {X : CX Int64} (hX : Cx X RX9 cX9_read 5 rm_Md_read) (hr : Rt X injL (some .long) rm_Md_read.cells rm_Md_read.slots) (hz : Zx X false) : ∀ (n : Nat) (a0 : Nat) (i1 : Int32) (l2 : Int64) (i4 : Int32), WM X 23 [(0, .ref a0), (1, .int i1), (2, .long l2), (4, .int i4)] [] 0 0 (l_Md_read_23 n a0 i1 l2 i4)
  | 0, _, _, _, _ => wm_fl
  | n + 1, a0, i1, l2, i4 => wb_Md_read_23 hX hr hz (wl_Md_read_23 hX hr hz n) a0 i1 l2 i4
set_option maxRecDepth 20000 in
theorem w_Md_read {X : CX Int64} (hX : Cx X RX9 cX9_read 5 rm_Md_read) (hr : Rt X injL (some .long) rm_Md_read.cells rm_Md_read.slots) (hz : Zx X false) (a0 : Nat) (i1 : Int32) : WM X 0 [(0, .ref a0), (1, .int i1)] [] 0 0 (m_Md_read a0 i1) := by
  unfold m_Md_read
  refine wm_ckd ?_
  refine wm_iload_n 1 hX dX9_read_0 rfl rfl ?_
  refine wm_i2l hX dX9_read_1 ?_
  refine wm_lconst (0 : Int64) hX dX9_read_2 (by decide) ?_
  refine wm_aload_n 0 hX dX9_read_3 rfl rfl ?_
  refine wm_gI hX fl_RX9_129 dX9_read_4 (fun v1 => ?_)
  refine wm_iconst (1 : Int32) hX dX9_read_7 (by decide) ?_
  refine wm_isub hX dX9_read_8 ?_
  refine wm_i2l hX dX9_read_9 ?_
  refine wm_cSi (st := []) hX hz (i_Md_in (i1.toInt64) (0 : Int64) ((v1 - (1 : Int32)).toInt64)) cal_Md_in wd_896 rfl (fits_Md_read_Md_in) (Nat.le_of_ble_eq_true rfl) dX9_read_10 (fun v2 => ?_)
  refine wm_if_ne 18 hX dX9_read_13 (by decide) ?_ ?_
  · refine wm_lconst (0 : Int64) hX dX9_read_18 (by decide) ?_
    refine wm_lstore_n [(2, .long (0 : Int64)), (0, .ref a0), (1, .int i1)] hX dX9_read_19 rfl (by decide) rfl ?_
    refine wm_iconst (0 : Int32) hX dX9_read_20 (by decide) ?_
    refine wm_istore [(4, .int (0 : Int32)), (2, .long (0 : Int64)), (0, .ref a0), (1, .int i1)] hX dX9_read_21 (by decide) rfl ?_
    refine wm_sub [2, 3, 1, 0] [(0, .ref a0), (1, .int i1), (2, .long (0 : Int64)), (4, .int (0 : Int32))] rfl ?_
    exact wl_Md_read_23 hX hr hz FU a0 i1 (0 : Int64) (0 : Int32)
  · refine wm_lconst (0 : Int64) hX dX9_read_16 (by decide) ?_
    exact wm_lret hX hr dX9_read_17
theorem i_Md_read (a0 : Nat) (i1 : Int32) : Im false yX9_read cX9_read 5 (some .long) rm_Md_read injL [.ref a0, .int i1] (m_Md_read a0 i1) := Im.of RX9 (by decide) rfl (Nat.le_of_ble_eq_true rfl) (fun X hX hr hn hz => w_Md_read hX hr hz a0 i1)
set_option maxRecDepth 20000 in
theorem w_Ob_weight {X : CX Int32} (hX : Cx X RX8 cX8_weight 4 rm_Ob_weight) (hr : Rt X injI (some .int) rm_Ob_weight.cells rm_Ob_weight.slots) (hz : Zx X false) (a0 : Nat) (i1 : Int32) (i2 : Int32) : WM X 0 [(0, .ref a0), (1, .int i1), (2, .int i2)] [] 0 0 (m_Ob_weight a0 i1 i2) := by
  unfold m_Ob_weight
  refine wm_ckd ?_
  refine wm_iload_n 1 hX dX8_weight_0 rfl rfl ?_
  refine wm_if_lt 10 hX dX8_weight_1 (by decide) ?_ ?_
  · refine wm_ldc hX dX8_weight_10 wd_624 ?_
    exact wm_iret hX hr dX8_weight_12
  · refine wm_iload_n 1 hX dX8_weight_4 rfl rfl ?_
    refine wm_bipush (8 : Int32) hX dX8_weight_5 (by decide) ?_
    refine wm_icmp_lt 13 hX dX8_weight_7 (by decide) ?_ ?_
    · refine wm_aload_n 0 hX dX8_weight_13 rfl rfl ?_
      refine wm_gR hX fl_RX8_58 dX8_weight_14 (fun v1 => ?_)
      refine wm_iload_n 1 hX dX8_weight_17 rfl rfl ?_
      refine wm_ldI hX dX8_weight_18 (fun v2 => ?_)
      refine wm_istore_n [(3, .int v2), (0, .ref a0), (1, .int i1), (2, .int i2)] hX dX8_weight_19 rfl (by decide) rfl ?_
      refine wm_aload_n 1 hX dX8_weight_20 rfl rfl ?_
      refine wm_gR hX fl_RX8_58 dX8_weight_21 (fun v3 => ?_)
      refine wm_iload_n 2 hX dX8_weight_24 rfl rfl ?_
      refine wm_iload_n 3 hX dX8_weight_25 rfl rfl ?_
      refine wm_stI hX dX8_weight_26 ?_
      refine wm_iload_n 0 hX dX8_weight_27 rfl rfl ?_
      exact wm_iret hX hr dX8_weight_28
    · refine wm_ldc hX dX8_weight_10 wd_624 ?_
      exact wm_iret hX hr dX8_weight_12
theorem i_Ob_weight (a0 : Nat) (i1 : Int32) (i2 : Int32) : Im false yX8_weight cX8_weight 4 (some .int) rm_Ob_weight injI [.ref a0, .int i1, .int i2] (m_Ob_weight a0 i1 i2) := Im.of RX8 (by decide) rfl (Nat.le_of_ble_eq_true rfl) (fun X hX hr hn hz => w_Ob_weight hX hr hz a0 i1 i2)
set_option maxRecDepth 20000 in
theorem w_Md_weight {X : CX Int32} (hX : Cx X RX9 cX9_weight 4 rm_Md_weight) (hr : Rt X injI (some .int) rm_Md_weight.cells rm_Md_weight.slots) (hz : Zx X false) (a0 : Nat) (i1 : Int32) (i2 : Int32) : WM X 0 [(0, .ref a0), (1, .int i1), (2, .int i2)] [] 0 0 (m_Md_weight a0 i1 i2) := by
  unfold m_Md_weight
  refine wm_ckd ?_
  refine wm_iload_n 1 hX dX9_weight_0 rfl rfl ?_
  refine wm_i2l hX dX9_weight_1 ?_
  refine wm_lconst (0 : Int64) hX dX9_weight_2 (by decide) ?_
  refine wm_ldc2 hX dX9_weight_3 wd_1074 ?_
  refine wm_cSi (st := []) hX hz (i_Md_in (i1.toInt64) (0 : Int64) (7 : Int64)) cal_Md_in wd_896 rfl (fits_Md_weight_Md_in) (Nat.le_of_ble_eq_true rfl) dX9_weight_6 (fun v1 => ?_)
  refine wm_if_ne 15 hX dX9_weight_9 (by decide) ?_ ?_
  · refine wm_aload_n 0 hX dX9_weight_15 rfl rfl ?_
    refine wm_gR hX fl_RX9_57 dX9_weight_16 (fun v2 => ?_)
    refine wm_iload_n 1 hX dX9_weight_19 rfl rfl ?_
    refine wm_ldI hX dX9_weight_20 (fun v3 => ?_)
    refine wm_istore_n [(3, .int v3), (0, .ref a0), (1, .int i1), (2, .int i2)] hX dX9_weight_21 rfl (by decide) rfl ?_
    refine wm_aload_n 1 hX dX9_weight_22 rfl rfl ?_
    refine wm_gR hX fl_RX9_57 dX9_weight_23 (fun v4 => ?_)
    refine wm_iload_n 2 hX dX9_weight_26 rfl rfl ?_
    refine wm_iload_n 3 hX dX9_weight_27 rfl rfl ?_
    refine wm_stI hX dX9_weight_28 ?_
    refine wm_iload_n 0 hX dX9_weight_29 rfl rfl ?_
    exact wm_iret hX hr dX9_weight_30
  · refine wm_ldc hX dX9_weight_12 wd_1075 ?_
    exact wm_iret hX hr dX9_weight_14
theorem i_Md_weight (a0 : Nat) (i1 : Int32) (i2 : Int32) : Im false yX9_weight cX9_weight 4 (some .int) rm_Md_weight injI [.ref a0, .int i1, .int i2] (m_Md_weight a0 i1 i2) := Im.of RX9 (by decide) rfl (Nat.le_of_ble_eq_true rfl) (fun X hX hr hn hz => w_Md_weight hX hr hz a0 i1 i2)
set_option maxRecDepth 20000 in
theorem wb_Lg_runningSum_14 {X : CX Int64} (hX : Cx X RX1 cX1_runningSum 12 rm_Lg_runningSum) (hr : Rt X injL (some .long) rm_Lg_runningSum.cells rm_Lg_runningSum.slots) (hz : Zx X false) {k14 : Nat → Int32 → Int32 → Int64 → Int64 → Int64 → Int64 → Int32 → M Int64} (h14 : ∀ (a0 : Nat) (i1 : Int32) (i2 : Int32) (l3 : Int64) (l5 : Int64) (l7 : Int64) (l9 : Int64) (i11 : Int32), WM X 14 [(0, .ref a0), (1, .int i1), (2, .int i2), (3, .long l3), (5, .long l5), (7, .long l7), (9, .long l9), (11, .int i11)] [] 0 0 (k14 a0 i1 i2 l3 l5 l7 l9 i11)) (a0 : Nat) (i1 : Int32) (i2 : Int32) (l3 : Int64) (l5 : Int64) (l7 : Int64) (l9 : Int64) (i11 : Int32) : WM X 14 [(0, .ref a0), (1, .int i1), (2, .int i2), (3, .long l3), (5, .long l5), (7, .long l7), (9, .long l9), (11, .int i11)] [] 0 0 (b_Lg_runningSum_14 k14 a0 i1 i2 l3 l5 l7 l9 i11) := by
  unfold b_Lg_runningSum_14
  refine wm_iload 7 hX dX1_runningSum_14 rfl ?_
  refine wm_iload_n 2 hX dX1_runningSum_16 rfl rfl ?_
  refine wm_icmp_gt 55 hX dX1_runningSum_17 (by decide) ?_ ?_
  · refine wm_iload_n 1 hX dX1_runningSum_55 rfl rfl ?_
    refine wm_tsw [84, 86, 89] 92 hX dX1_runningSum_56 (by decide) (by decide) (by decide) ⟨?_, ?_, ?_, trivial⟩ ?_
    · refine wm_lload_n 3 hX dX1_runningSum_84 rfl rfl ?_
      exact wm_lret hX hr dX1_runningSum_85
    · refine wm_lload 4 hX dX1_runningSum_86 rfl ?_
      exact wm_lret hX hr dX1_runningSum_88
    · refine wm_lload 5 hX dX1_runningSum_89 rfl ?_
      exact wm_lret hX hr dX1_runningSum_91
    · refine wm_lload 6 hX dX1_runningSum_92 rfl ?_
      exact wm_lret hX hr dX1_runningSum_94
  · refine wm_lload_n 3 hX dX1_runningSum_20 rfl rfl ?_
    refine wm_aload_n 0 hX dX1_runningSum_21 rfl rfl ?_
    refine wm_iload 7 hX dX1_runningSum_22 rfl ?_
    refine wm_cVl (st := [.long l3]) hX hz (i_Lg_levelOf a0 i11) Ckd.of rfl cal_Lg_levelOf wd_611 rfl (fits_Lg_runningSum_Lg_levelOf) (Nat.le_of_ble_eq_true rfl) dX1_runningSum_24 (fun v1 => ?_)
    refine wm_ladd hX dX1_runningSum_27 ?_
    refine wm_letl (fun v2 => ?_)
    refine wm_lstore_n [(3, .long v2), (0, .ref a0), (1, .int i1), (2, .int i2), (5, .long l5), (7, .long l7), (9, .long l9), (11, .int i11)] hX dX1_runningSum_28 rfl (by decide) rfl ?_
    refine wm_lload 4 hX dX1_runningSum_29 rfl ?_
    refine wm_lload_n 0 hX dX1_runningSum_31 rfl rfl ?_
    refine wm_ladd hX dX1_runningSum_32 ?_
    refine wm_letl (fun v3 => ?_)
    refine wm_lstore [(5, .long v3), (3, .long v2), (0, .ref a0), (1, .int i1), (2, .int i2), (7, .long l7), (9, .long l9), (11, .int i11)] hX dX1_runningSum_33 (by decide) rfl ?_
    refine wm_lload 5 hX dX1_runningSum_35 rfl ?_
    refine wm_lload 0 hX dX1_runningSum_37 rfl ?_
    refine wm_ladd hX dX1_runningSum_39 ?_
    refine wm_letl (fun v4 => ?_)
    refine wm_lstore [(7, .long v4), (5, .long v3), (3, .long v2), (0, .ref a0), (1, .int i1), (2, .int i2), (9, .long l9), (11, .int i11)] hX dX1_runningSum_40 (by decide) rfl ?_
    refine wm_lload 6 hX dX1_runningSum_42 rfl ?_
    refine wm_lload 0 hX dX1_runningSum_44 rfl ?_
    refine wm_ladd hX dX1_runningSum_46 ?_
    refine wm_letl (fun v5 => ?_)
    refine wm_lstore [(9, .long v5), (7, .long v4), (5, .long v3), (3, .long v2), (0, .ref a0), (1, .int i1), (2, .int i2), (11, .int i11)] hX dX1_runningSum_47 (by decide) rfl ?_
    refine wm_iinc (i11 + 1) 7 [(11, .int (i11 + 1)), (9, .long v5), (7, .long v4), (5, .long v3), (3, .long v2), (0, .ref a0), (1, .int i1), (2, .int i2)] hX dX1_runningSum_49 rfl rfl (by decide) rfl ?_
    refine wm_goto (tgt := 14) hX dX1_runningSum_52 (by decide) ?_
    refine wm_sub [5, 6, 7, 4, 3, 2, 1, 0] [(0, .ref a0), (1, .int i1), (2, .int i2), (3, .long v2), (5, .long v3), (7, .long v4), (9, .long v5), (11, .int (i11 + 1))] rfl ?_
    exact h14 a0 i1 i2 v2 v3 v4 v5 (i11 + 1)
theorem wl_Lg_runningSum_14 {X : CX Int64} (hX : Cx X RX1 cX1_runningSum 12 rm_Lg_runningSum) (hr : Rt X injL (some .long) rm_Lg_runningSum.cells rm_Lg_runningSum.slots) (hz : Zx X false) : ∀ (n : Nat) (a0 : Nat) (i1 : Int32) (i2 : Int32) (l3 : Int64) (l5 : Int64) (l7 : Int64) (l9 : Int64) (i11 : Int32), WM X 14 [(0, .ref a0), (1, .int i1), (2, .int i2), (3, .long l3), (5, .long l5), (7, .long l7), (9, .long l9), (11, .int i11)] [] 0 0 (l_Lg_runningSum_14 n a0 i1 i2 l3 l5 l7 l9 i11)
  | 0, _, _, _, _, _, _, _, _ => wm_fl
  | n + 1, a0, i1, i2, l3, l5, l7, l9, i11 => wb_Lg_runningSum_14 hX hr hz (wl_Lg_runningSum_14 hX hr hz n) a0 i1 i2 l3 l5 l7 l9 i11
set_option maxRecDepth 20000 in
theorem w_Lg_runningSum {X : CX Int64} (hX : Cx X RX1 cX1_runningSum 12 rm_Lg_runningSum) (hr : Rt X injL (some .long) rm_Lg_runningSum.cells rm_Lg_runningSum.slots) (hz : Zx X false) (a0 : Nat) (i1 : Int32) (i2 : Int32) : WM X 0 [(0, .ref a0), (1, .int i1), (2, .int i2)] [] 0 0 (m_Lg_runningSum a0 i1 i2) := by
  unfold m_Lg_runningSum
  refine wm_ckd ?_
  refine wm_lconst (0 : Int64) hX dX1_runningSum_0 (by decide) ?_
  refine wm_lstore_n [(3, .long (0 : Int64)), (0, .ref a0), (1, .int i1), (2, .int i2)] hX dX1_runningSum_1 rfl (by decide) rfl ?_
  refine wm_lconst (0 : Int64) hX dX1_runningSum_2 (by decide) ?_
  refine wm_lstore [(5, .long (0 : Int64)), (3, .long (0 : Int64)), (0, .ref a0), (1, .int i1), (2, .int i2)] hX dX1_runningSum_3 (by decide) rfl ?_
  refine wm_lconst (0 : Int64) hX dX1_runningSum_5 (by decide) ?_
  refine wm_lstore [(7, .long (0 : Int64)), (5, .long (0 : Int64)), (3, .long (0 : Int64)), (0, .ref a0), (1, .int i1), (2, .int i2)] hX dX1_runningSum_6 (by decide) rfl ?_
  refine wm_lconst (0 : Int64) hX dX1_runningSum_8 (by decide) ?_
  refine wm_lstore [(9, .long (0 : Int64)), (7, .long (0 : Int64)), (5, .long (0 : Int64)), (3, .long (0 : Int64)), (0, .ref a0), (1, .int i1), (2, .int i2)] hX dX1_runningSum_9 (by decide) rfl ?_
  refine wm_iconst (0 : Int32) hX dX1_runningSum_11 (by decide) ?_
  refine wm_istore [(11, .int (0 : Int32)), (9, .long (0 : Int64)), (7, .long (0 : Int64)), (5, .long (0 : Int64)), (3, .long (0 : Int64)), (0, .ref a0), (1, .int i1), (2, .int i2)] hX dX1_runningSum_12 (by decide) rfl ?_
  refine wm_sub [5, 6, 7, 4, 3, 2, 1, 0] [(0, .ref a0), (1, .int i1), (2, .int i2), (3, .long (0 : Int64)), (5, .long (0 : Int64)), (7, .long (0 : Int64)), (9, .long (0 : Int64)), (11, .int (0 : Int32))] rfl ?_
  exact wl_Lg_runningSum_14 hX hr hz FU a0 i1 i2 (0 : Int64) (0 : Int64) (0 : Int64) (0 : Int64) (0 : Int32)
theorem i_Lg_runningSum (a0 : Nat) (i1 : Int32) (i2 : Int32) : Im false yX1_runningSum cX1_runningSum 12 (some .long) rm_Lg_runningSum injL [.ref a0, .int i1, .int i2] (m_Lg_runningSum a0 i1 i2) := Im.of RX1 (by decide) rfl (Nat.le_of_ble_eq_true rfl) (fun X hX hr hn hz => w_Lg_runningSum hX hr hz a0 i1 i2)
set_option maxRecDepth 20000 in
theorem w_Ob_sums {X : CX Int64} (hX : Cx X RX8 cX8_sums 3 rm_Ob_sums) (hr : Rt X injL (some .long) rm_Ob_sums.cells rm_Ob_sums.slots) (hz : Zx X false) (a0 : Nat) (i1 : Int32) (i2 : Int32) : WM X 0 [(0, .ref a0), (1, .int i1), (2, .int i2)] [] 0 0 (m_Ob_sums a0 i1 i2) := by
  unfold m_Ob_sums
  refine wm_ckd ?_
  refine wm_iload_n 1 hX dX8_sums_0 rfl rfl ?_
  refine wm_iconst (1 : Int32) hX dX8_sums_1 (by decide) ?_
  refine wm_icmp_lt 21 hX dX8_sums_2 (by decide) ?_ ?_
  · refine wm_lconst (0 : Int64) hX dX8_sums_21 (by decide) ?_
    exact wm_lret hX hr dX8_sums_22
  · refine wm_iload_n 1 hX dX8_sums_5 rfl rfl ?_
    refine wm_iconst (4 : Int32) hX dX8_sums_6 (by decide) ?_
    refine wm_icmp_gt 21 hX dX8_sums_7 (by decide) ?_ ?_
    · refine wm_lconst (0 : Int64) hX dX8_sums_21 (by decide) ?_
      exact wm_lret hX hr dX8_sums_22
    · refine wm_aload_n 0 hX dX8_sums_10 rfl rfl ?_
      refine wm_gR hX fl_RX8_26 dX8_sums_11 (fun v1 => ?_)
      refine wm_iload_n 2 hX dX8_sums_14 rfl rfl ?_
      refine wm_cVi (st := []) hX hz (i_Lg_hasStep v1 i2) Ckd.of rfl cal_Lg_hasStep wd_595 rfl (fits_Ob_sums_Lg_hasStep) (Nat.le_of_ble_eq_true rfl) dX8_sums_15 (fun v2 => ?_)
      refine wm_if_ne 23 hX dX8_sums_18 (by decide) ?_ ?_
      · refine wm_aload_n 0 hX dX8_sums_23 rfl rfl ?_
        refine wm_gR hX fl_RX8_26 dX8_sums_24 (fun v3 => ?_)
        refine wm_iload_n 1 hX dX8_sums_27 rfl rfl ?_
        refine wm_iload_n 2 hX dX8_sums_28 rfl rfl ?_
        refine wm_cVl (st := []) hX hz (i_Lg_runningSum v3 i1 i2) Ckd.of rfl cal_Lg_runningSum wd_629 rfl (fits_Ob_sums_Lg_runningSum) (Nat.le_of_ble_eq_true rfl) dX8_sums_29 (fun v4 => ?_)
        exact wm_lret hX hr dX8_sums_32
      · refine wm_lconst (0 : Int64) hX dX8_sums_21 (by decide) ?_
        exact wm_lret hX hr dX8_sums_22
theorem i_Ob_sums (a0 : Nat) (i1 : Int32) (i2 : Int32) : Im false yX8_sums cX8_sums 3 (some .long) rm_Ob_sums injL [.ref a0, .int i1, .int i2] (m_Ob_sums a0 i1 i2) := Im.of RX8 (by decide) rfl (Nat.le_of_ble_eq_true rfl) (fun X hX hr hn hz => w_Ob_sums hX hr hz a0 i1 i2)
set_option maxRecDepth 20000 in
theorem wb_Md_sums_77 {X : CX Int64} (hX : Cx X RX9 cX9_sums 5 rm_Md_sums) (hr : Rt X injL (some .long) rm_Md_sums.cells rm_Md_sums.slots) (hz : Zx X false) {k52 : Nat → Int32 → Int32 → Int32 → M Int64} (h52 : ∀ (a0 : Nat) (i1 : Int32) (i2 : Int32) (i3 : Int32), WM X 52 [(0, .ref a0), (1, .int i1), (2, .int i2), (3, .int i3)] [] 0 0 (k52 a0 i1 i2 i3)) {k77 : Nat → Int32 → Int32 → Int32 → Int32 → M Int64} (h77 : ∀ (a0 : Nat) (i1 : Int32) (i2 : Int32) (i3 : Int32) (i4 : Int32), WM X 77 [(0, .ref a0), (1, .int i1), (2, .int i2), (3, .int i3), (4, .int i4)] [] 0 0 (k77 a0 i1 i2 i3 i4)) (a0 : Nat) (i1 : Int32) (i2 : Int32) (i3 : Int32) (i4 : Int32) : WM X 77 [(0, .ref a0), (1, .int i1), (2, .int i2), (3, .int i3), (4, .int i4)] [] 0 0 (b_Md_sums_77 k52 k77 a0 i1 i2 i3 i4) := by
  unfold b_Md_sums_77
  refine wm_iload 4 hX dX9_sums_77 rfl ?_
  refine wm_iload_n 1 hX dX9_sums_79 rfl rfl ?_
  refine wm_icmp_gt 108 hX dX9_sums_80 (by decide) ?_ ?_
  · refine wm_iinc (i3 + 1) 3 [(3, .int (i3 + 1)), (0, .ref a0), (1, .int i1), (2, .int i2), (4, .int i4)] hX dX9_sums_108 rfl rfl (by decide) rfl ?_
    refine wm_goto (tgt := 52) hX dX9_sums_111 (by decide) ?_
    refine wm_sub [1, 2, 3, 0] [(0, .ref a0), (1, .int i1), (2, .int i2), (3, .int (i3 + 1))] rfl ?_
    exact h52 a0 i1 i2 (i3 + 1)
  · refine wm_aload_n 0 hX dX9_sums_83 rfl rfl ?_
    refine wm_gR hX fl_RX9_60 dX9_sums_84 (fun v1 => ?_)
    refine wm_iload 4 hX dX9_sums_87 rfl ?_
    refine wm_dup2 hX dX9_sums_89 rfl rfl ?_
    refine wm_ldL hX dX9_sums_90 (fun v2 => ?_)
    refine wm_aload_n 0 hX dX9_sums_91 rfl rfl ?_
    refine wm_gR hX fl_RX9_60 dX9_sums_92 (fun v3 => ?_)
    refine wm_iload 4 hX dX9_sums_95 rfl ?_
    refine wm_iconst (1 : Int32) hX dX9_sums_97 (by decide) ?_
    refine wm_isub hX dX9_sums_98 ?_
    refine wm_ldL hX dX9_sums_99 (fun v4 => ?_)
    refine wm_ladd hX dX9_sums_100 ?_
    refine wm_stL hX dX9_sums_101 ?_
    refine wm_iinc (i4 + 1) 4 [(4, .int (i4 + 1)), (0, .ref a0), (1, .int i1), (2, .int i2), (3, .int i3)] hX dX9_sums_102 rfl rfl (by decide) rfl ?_
    refine wm_goto (tgt := 77) hX dX9_sums_105 (by decide) ?_
    refine wm_sub [1, 2, 3, 4, 0] [(0, .ref a0), (1, .int i1), (2, .int i2), (3, .int i3), (4, .int (i4 + 1))] rfl ?_
    exact h77 a0 i1 i2 i3 (i4 + 1)
theorem wl_Md_sums_77 {X : CX Int64} (hX : Cx X RX9 cX9_sums 5 rm_Md_sums) (hr : Rt X injL (some .long) rm_Md_sums.cells rm_Md_sums.slots) (hz : Zx X false) {k52 : Nat → Int32 → Int32 → Int32 → M Int64} (h52 : ∀ (a0 : Nat) (i1 : Int32) (i2 : Int32) (i3 : Int32), WM X 52 [(0, .ref a0), (1, .int i1), (2, .int i2), (3, .int i3)] [] 0 0 (k52 a0 i1 i2 i3)) : ∀ (n : Nat) (a0 : Nat) (i1 : Int32) (i2 : Int32) (i3 : Int32) (i4 : Int32), WM X 77 [(0, .ref a0), (1, .int i1), (2, .int i2), (3, .int i3), (4, .int i4)] [] 0 0 (l_Md_sums_77 k52 n a0 i1 i2 i3 i4)
  | 0, _, _, _, _, _ => wm_fl
  | n + 1, a0, i1, i2, i3, i4 => wb_Md_sums_77 hX hr hz h52 (wl_Md_sums_77 hX hr hz h52 n) a0 i1 i2 i3 i4
set_option maxRecDepth 20000 in
theorem wb_Md_sums_52 {X : CX Int64} (hX : Cx X RX9 cX9_sums 5 rm_Md_sums) (hr : Rt X injL (some .long) rm_Md_sums.cells rm_Md_sums.slots) (hz : Zx X false) {k52 : Nat → Int32 → Int32 → Int32 → M Int64} (h52 : ∀ (a0 : Nat) (i1 : Int32) (i2 : Int32) (i3 : Int32), WM X 52 [(0, .ref a0), (1, .int i1), (2, .int i2), (3, .int i3)] [] 0 0 (k52 a0 i1 i2 i3)) (a0 : Nat) (i1 : Int32) (i2 : Int32) (i3 : Int32) : WM X 52 [(0, .ref a0), (1, .int i1), (2, .int i2), (3, .int i3)] [] 0 0 (b_Md_sums_52 k52 a0 i1 i2 i3) := by
  unfold b_Md_sums_52
  refine wm_iload_n 3 hX dX9_sums_52 rfl rfl ?_
  refine wm_iload_n 2 hX dX9_sums_53 rfl rfl ?_
  refine wm_icmp_gt 114 hX dX9_sums_54 (by decide) ?_ ?_
  · refine wm_aload_n 0 hX dX9_sums_114 rfl rfl ?_
    refine wm_gR hX fl_RX9_60 dX9_sums_115 (fun v1 => ?_)
    refine wm_iload_n 1 hX dX9_sums_118 rfl rfl ?_
    refine wm_ldL hX dX9_sums_119 (fun v2 => ?_)
    exact wm_lret hX hr dX9_sums_120
  · refine wm_aload_n 0 hX dX9_sums_57 rfl rfl ?_
    refine wm_gR hX fl_RX9_60 dX9_sums_58 (fun v3 => ?_)
    refine wm_iconst (0 : Int32) hX dX9_sums_61 (by decide) ?_
    refine wm_aload_n 0 hX dX9_sums_62 rfl rfl ?_
    refine wm_gR hX fl_RX9_45 dX9_sums_63 (fun v4 => ?_)
    refine wm_bipush (7 : Int32) hX dX9_sums_66 (by decide) ?_
    refine wm_iload_n 3 hX dX9_sums_68 rfl rfl ?_
    refine wm_imul hX dX9_sums_69 ?_
    refine wm_iconst (1 : Int32) hX dX9_sums_70 (by decide) ?_
    refine wm_iadd hX dX9_sums_71 ?_
    refine wm_ldL hX dX9_sums_72 (fun v5 => ?_)
    refine wm_stL hX dX9_sums_73 ?_
    refine wm_iconst (1 : Int32) hX dX9_sums_74 (by decide) ?_
    refine wm_istore [(4, .int (1 : Int32)), (0, .ref a0), (1, .int i1), (2, .int i2), (3, .int i3)] hX dX9_sums_75 (by decide) rfl ?_
    refine wm_sub [1, 2, 3, 4, 0] [(0, .ref a0), (1, .int i1), (2, .int i2), (3, .int i3), (4, .int (1 : Int32))] rfl ?_
    exact wl_Md_sums_77 hX hr hz h52 FU a0 i1 i2 i3 (1 : Int32)
theorem wl_Md_sums_52 {X : CX Int64} (hX : Cx X RX9 cX9_sums 5 rm_Md_sums) (hr : Rt X injL (some .long) rm_Md_sums.cells rm_Md_sums.slots) (hz : Zx X false) : ∀ (n : Nat) (a0 : Nat) (i1 : Int32) (i2 : Int32) (i3 : Int32), WM X 52 [(0, .ref a0), (1, .int i1), (2, .int i2), (3, .int i3)] [] 0 0 (l_Md_sums_52 n a0 i1 i2 i3)
  | 0, _, _, _, _ => wm_fl
  | n + 1, a0, i1, i2, i3 => wb_Md_sums_52 hX hr hz (wl_Md_sums_52 hX hr hz n) a0 i1 i2 i3
set_option maxRecDepth 20000 in
theorem wb_Md_sums_32 {X : CX Int64} (hX : Cx X RX9 cX9_sums 5 rm_Md_sums) (hr : Rt X injL (some .long) rm_Md_sums.cells rm_Md_sums.slots) (hz : Zx X false) {k32 : Nat → Int32 → Int32 → Int32 → M Int64} (h32 : ∀ (a0 : Nat) (i1 : Int32) (i2 : Int32) (i3 : Int32), WM X 32 [(0, .ref a0), (1, .int i1), (2, .int i2), (3, .int i3)] [] 0 0 (k32 a0 i1 i2 i3)) (a0 : Nat) (i1 : Int32) (i2 : Int32) (i3 : Int32) : WM X 32 [(0, .ref a0), (1, .int i1), (2, .int i2), (3, .int i3)] [] 0 0 (b_Md_sums_32 k32 a0 i1 i2 i3) := by
  unfold b_Md_sums_32
  refine wm_iload_n 3 hX dX9_sums_32 rfl rfl ?_
  refine wm_iconst (5 : Int32) hX dX9_sums_33 (by decide) ?_
  refine wm_icmp_ge 50 hX dX9_sums_34 (by decide) ?_ ?_
  · refine wm_iconst (0 : Int32) hX dX9_sums_50 (by decide) ?_
    refine wm_istore_n [(3, .int (0 : Int32)), (0, .ref a0), (1, .int i1), (2, .int i2)] hX dX9_sums_51 rfl (by decide) rfl ?_
    refine wm_sub [1, 2, 3, 0] [(0, .ref a0), (1, .int i1), (2, .int i2), (3, .int (0 : Int32))] rfl ?_
    exact wl_Md_sums_52 hX hr hz FU a0 i1 i2 (0 : Int32)
  · refine wm_aload_n 0 hX dX9_sums_37 rfl rfl ?_
    refine wm_gR hX fl_RX9_60 dX9_sums_38 (fun v1 => ?_)
    refine wm_iload_n 3 hX dX9_sums_41 rfl rfl ?_
    refine wm_lconst (0 : Int64) hX dX9_sums_42 (by decide) ?_
    refine wm_stL hX dX9_sums_43 ?_
    refine wm_iinc (i3 + 1) 3 [(3, .int (i3 + 1)), (0, .ref a0), (1, .int i1), (2, .int i2)] hX dX9_sums_44 rfl rfl (by decide) rfl ?_
    refine wm_goto (tgt := 32) hX dX9_sums_47 (by decide) ?_
    refine wm_sub [1, 2, 3, 0] [(0, .ref a0), (1, .int i1), (2, .int i2), (3, .int (i3 + 1))] rfl ?_
    exact h32 a0 i1 i2 (i3 + 1)
theorem wl_Md_sums_32 {X : CX Int64} (hX : Cx X RX9 cX9_sums 5 rm_Md_sums) (hr : Rt X injL (some .long) rm_Md_sums.cells rm_Md_sums.slots) (hz : Zx X false) : ∀ (n : Nat) (a0 : Nat) (i1 : Int32) (i2 : Int32) (i3 : Int32), WM X 32 [(0, .ref a0), (1, .int i1), (2, .int i2), (3, .int i3)] [] 0 0 (l_Md_sums_32 n a0 i1 i2 i3)
  | 0, _, _, _, _ => wm_fl
  | n + 1, a0, i1, i2, i3 => wb_Md_sums_32 hX hr hz (wl_Md_sums_32 hX hr hz n) a0 i1 i2 i3
set_option maxRecDepth 20000 in
theorem w_Md_sums {X : CX Int64} (hX : Cx X RX9 cX9_sums 5 rm_Md_sums) (hr : Rt X injL (some .long) rm_Md_sums.cells rm_Md_sums.slots) (hz : Zx X false) (a0 : Nat) (i1 : Int32) (i2 : Int32) : WM X 0 [(0, .ref a0), (1, .int i1), (2, .int i2)] [] 0 0 (m_Md_sums a0 i1 i2) := by
  unfold m_Md_sums
  refine wm_ckd ?_
  refine wm_iload_n 1 hX dX9_sums_0 rfl rfl ?_
  refine wm_i2l hX dX9_sums_1 ?_
  refine wm_lconst (1 : Int64) hX dX9_sums_2 (by decide) ?_
  refine wm_ldc2 hX dX9_sums_3 wd_1080 ?_
  refine wm_cSi (st := []) hX hz (i_Md_in (i1.toInt64) (1 : Int64) (4 : Int64)) cal_Md_in wd_896 rfl (fits_Md_sums_Md_in) (Nat.le_of_ble_eq_true rfl) dX9_sums_6 (fun v1 => ?_)
  refine wm_if_eq 28 hX dX9_sums_9 (by decide) ?_ ?_
  · refine wm_lconst (0 : Int64) hX dX9_sums_28 (by decide) ?_
    exact wm_lret hX hr dX9_sums_29
  · refine wm_iload_n 2 hX dX9_sums_12 rfl rfl ?_
    refine wm_i2l hX dX9_sums_13 ?_
    refine wm_lconst (0 : Int64) hX dX9_sums_14 (by decide) ?_
    refine wm_aload_n 0 hX dX9_sums_15 rfl rfl ?_
    refine wm_gI hX fl_RX9_129 dX9_sums_16 (fun v2 => ?_)
    refine wm_iconst (1 : Int32) hX dX9_sums_19 (by decide) ?_
    refine wm_isub hX dX9_sums_20 ?_
    refine wm_i2l hX dX9_sums_21 ?_
    refine wm_cSi (st := []) hX hz (i_Md_in (i2.toInt64) (0 : Int64) ((v2 - (1 : Int32)).toInt64)) cal_Md_in wd_896 rfl (fits_Md_sums_Md_in) (Nat.le_of_ble_eq_true rfl) dX9_sums_22 (fun v3 => ?_)
    refine wm_if_ne 30 hX dX9_sums_25 (by decide) ?_ ?_
    · refine wm_iconst (0 : Int32) hX dX9_sums_30 (by decide) ?_
      refine wm_istore_n [(3, .int (0 : Int32)), (0, .ref a0), (1, .int i1), (2, .int i2)] hX dX9_sums_31 rfl (by decide) rfl ?_
      refine wm_sub [1, 2, 3, 0] [(0, .ref a0), (1, .int i1), (2, .int i2), (3, .int (0 : Int32))] rfl ?_
      exact wl_Md_sums_32 hX hr hz FU a0 i1 i2 (0 : Int32)
    · refine wm_lconst (0 : Int64) hX dX9_sums_28 (by decide) ?_
      exact wm_lret hX hr dX9_sums_29
theorem i_Md_sums (a0 : Nat) (i1 : Int32) (i2 : Int32) : Im false yX9_sums cX9_sums 5 (some .long) rm_Md_sums injL [.ref a0, .int i1, .int i2] (m_Md_sums a0 i1 i2) := Im.of RX9 (by decide) rfl (Nat.le_of_ble_eq_true rfl) (fun X hX hr hn hz => w_Md_sums hX hr hz a0 i1 i2)
set_option maxRecDepth 20000 in
theorem w_Ob_trace {X : CX Int32} (hX : Cx X RX8 cX8_trace 2 rm_Ob_trace) (hr : Rt X injI (some .int) rm_Ob_trace.cells rm_Ob_trace.slots) (hz : Zx X false) (a0 : Nat) (i1 : Int32) : WM X 0 [(0, .ref a0), (1, .int i1)] [] 0 0 (m_Ob_trace a0 i1) := by
  unfold m_Ob_trace
  refine wm_ckd ?_
  refine wm_iload_n 1 hX dX8_trace_0 rfl rfl ?_
  refine wm_if_lt 27 hX dX8_trace_1 (by decide) ?_ ?_
  · refine wm_iconst (-1 : Int32) hX dX8_trace_27 (by decide) ?_
    exact wm_iret hX hr dX8_trace_28
  · refine wm_iload_n 1 hX dX8_trace_4 rfl rfl ?_
    refine wm_aload_n 0 hX dX8_trace_5 rfl rfl ?_
    refine wm_gR hX fl_RX8_65 dX8_trace_6 (fun v1 => ?_)
    refine wm_gI hX fl_RX8_227 dX8_trace_9 (fun v2 => ?_)
    refine wm_icmp_ge 27 hX dX8_trace_12 (by decide) ?_ ?_
    · refine wm_iconst (-1 : Int32) hX dX8_trace_27 (by decide) ?_
      exact wm_iret hX hr dX8_trace_28
    · refine wm_aload_n 0 hX dX8_trace_15 rfl rfl ?_
      refine wm_gR hX fl_RX8_65 dX8_trace_16 (fun v3 => ?_)
      refine wm_gR hX fl_RX8_230 dX8_trace_19 (fun v4 => ?_)
      refine wm_iload_n 1 hX dX8_trace_22 rfl rfl ?_
      refine wm_ldI hX dX8_trace_23 (fun v5 => ?_)
      refine wm_goto (tgt := 28) hX dX8_trace_24 (by decide) ?_
      exact wm_iret hX hr dX8_trace_28
theorem i_Ob_trace (a0 : Nat) (i1 : Int32) : Im false yX8_trace cX8_trace 2 (some .int) rm_Ob_trace injI [.ref a0, .int i1] (m_Ob_trace a0 i1) := Im.of RX8 (by decide) rfl (Nat.le_of_ble_eq_true rfl) (fun X hX hr hn hz => w_Ob_trace hX hr hz a0 i1)
set_option maxRecDepth 20000 in
theorem w_Md_trace {X : CX Int32} (hX : Cx X RX9 cX9_trace 2 rm_Md_trace) (hr : Rt X injI (some .int) rm_Md_trace.cells rm_Md_trace.slots) (hz : Zx X false) (a0 : Nat) (i1 : Int32) : WM X 0 [(0, .ref a0), (1, .int i1)] [] 0 0 (m_Md_trace a0 i1) := by
  unfold m_Md_trace
  refine wm_ckd ?_
  refine wm_iload_n 1 hX dX9_trace_0 rfl rfl ?_
  refine wm_i2l hX dX9_trace_1 ?_
  refine wm_lconst (0 : Int64) hX dX9_trace_2 (by decide) ?_
  refine wm_aload_n 0 hX dX9_trace_3 rfl rfl ?_
  refine wm_gI hX fl_RX9_231 dX9_trace_4 (fun v1 => ?_)
  refine wm_iconst (1 : Int32) hX dX9_trace_7 (by decide) ?_
  refine wm_isub hX dX9_trace_8 ?_
  refine wm_i2l hX dX9_trace_9 ?_
  refine wm_cSi (st := []) hX hz (i_Md_in (i1.toInt64) (0 : Int64) ((v1 - (1 : Int32)).toInt64)) cal_Md_in wd_896 rfl (fits_Md_trace_Md_in) (Nat.le_of_ble_eq_true rfl) dX9_trace_10 (fun v2 => ?_)
  refine wm_if_eq 25 hX dX9_trace_13 (by decide) ?_ ?_
  · refine wm_iconst (-1 : Int32) hX dX9_trace_25 (by decide) ?_
    exact wm_iret hX hr dX9_trace_26
  · refine wm_aload_n 0 hX dX9_trace_16 rfl rfl ?_
    refine wm_gR hX fl_RX9_48 dX9_trace_17 (fun v3 => ?_)
    refine wm_iload_n 1 hX dX9_trace_20 rfl rfl ?_
    refine wm_ldI hX dX9_trace_21 (fun v4 => ?_)
    refine wm_goto (tgt := 26) hX dX9_trace_22 (by decide) ?_
    exact wm_iret hX hr dX9_trace_26
theorem i_Md_trace (a0 : Nat) (i1 : Int32) : Im false yX9_trace cX9_trace 2 (some .int) rm_Md_trace injI [.ref a0, .int i1] (m_Md_trace a0 i1) := Im.of RX9 (by decide) rfl (Nat.le_of_ble_eq_true rfl) (fun X hX hr hn hz => w_Md_trace hX hr hz a0 i1)
set_option maxRecDepth 20000 in
theorem wb_J7_fill_53178_5 {X : CX Unit} (hX : Cx X RJ7 cJ7_fill_53178 4 rm_J7_fill_53178) (hr : Rt X injV none rm_J7_fill_53178.cells rm_J7_fill_53178.slots) (hz : Zx X false) {k5 : Nat → Int32 → Int32 → Int32 → M Unit} (h5 : ∀ (a0 : Nat) (i1 : Int32) (i2 : Int32) (i3 : Int32), WM X 5 [(0, .ref a0), (1, .int i1), (2, .int i2), (3, .int i3)] [] 0 0 (k5 a0 i1 i2 i3)) (a0 : Nat) (i1 : Int32) (i2 : Int32) (i3 : Int32) : WM X 5 [(0, .ref a0), (1, .int i1), (2, .int i2), (3, .int i3)] [] 0 0 (b_J7_fill_53178_5 k5 a0 i1 i2 i3) := by
  unfold b_J7_fill_53178_5
  refine wm_iload_n 2 hX dJ7_fill_53178_5 rfl rfl ?_
  refine wm_iload_n 3 hX dJ7_fill_53178_6 rfl rfl ?_
  refine wm_icmp_ge 20 hX dJ7_fill_53178_7 (by decide) ?_ ?_
  · exact wm_vret hX hr dJ7_fill_53178_20
  · refine wm_aload_n 0 hX dJ7_fill_53178_10 rfl rfl ?_
    refine wm_iload_n 2 hX dJ7_fill_53178_11 rfl rfl ?_
    refine wm_iload_n 1 hX dJ7_fill_53178_12 rfl rfl ?_
    refine wm_stI hX dJ7_fill_53178_13 ?_
    refine wm_iinc (i2 + 1) 2 [(2, .int (i2 + 1)), (0, .ref a0), (1, .int i1), (3, .int i3)] hX dJ7_fill_53178_14 rfl rfl (by decide) rfl ?_
    refine wm_goto (tgt := 5) hX dJ7_fill_53178_17 (by decide) ?_
    refine wm_sub [1, 2, 0, 3] [(0, .ref a0), (1, .int i1), (2, .int (i2 + 1)), (3, .int i3)] rfl ?_
    exact h5 a0 i1 (i2 + 1) i3
theorem wl_J7_fill_53178_5 {X : CX Unit} (hX : Cx X RJ7 cJ7_fill_53178 4 rm_J7_fill_53178) (hr : Rt X injV none rm_J7_fill_53178.cells rm_J7_fill_53178.slots) (hz : Zx X false) : ∀ (n : Nat) (a0 : Nat) (i1 : Int32) (i2 : Int32) (i3 : Int32), WM X 5 [(0, .ref a0), (1, .int i1), (2, .int i2), (3, .int i3)] [] 0 0 (l_J7_fill_53178_5 n a0 i1 i2 i3)
  | 0, _, _, _, _ => wm_fl
  | n + 1, a0, i1, i2, i3 => wb_J7_fill_53178_5 hX hr hz (wl_J7_fill_53178_5 hX hr hz n) a0 i1 i2 i3
set_option maxRecDepth 20000 in
theorem w_J7_fill_53178 {X : CX Unit} (hX : Cx X RJ7 cJ7_fill_53178 4 rm_J7_fill_53178) (hr : Rt X injV none rm_J7_fill_53178.cells rm_J7_fill_53178.slots) (hz : Zx X false) (a0 : Nat) (i1 : Int32) : WM X 0 [(0, .ref a0), (1, .int i1)] [] 0 0 (m_J7_fill_53178 a0 i1) := by
  unfold m_J7_fill_53178
  refine wm_iconst (0 : Int32) hX dJ7_fill_53178_0 (by decide) ?_
  refine wm_istore_n [(2, .int (0 : Int32)), (0, .ref a0), (1, .int i1)] hX dJ7_fill_53178_1 rfl (by decide) rfl ?_
  refine wm_aload_n 1 hX dJ7_fill_53178_2 rfl rfl ?_
  refine wm_alen (fun _ => rfl) hX dJ7_fill_53178_3 (fun v1 => ?_)
  refine wm_istore_n [(3, .int v1), (2, .int (0 : Int32)), (0, .ref a0), (1, .int i1)] hX dJ7_fill_53178_4 rfl (by decide) rfl ?_
  refine wm_sub [2, 3, 1, 0] [(0, .ref a0), (1, .int i1), (2, .int (0 : Int32)), (3, .int v1)] rfl ?_
  exact wl_J7_fill_53178_5 hX hr hz FU a0 i1 (0 : Int32) v1
theorem i_J7_fill_53178 (a0 : Nat) (i1 : Int32) : Im false yJ7_fill_53178 cJ7_fill_53178 4 none rm_J7_fill_53178 injV [.ref a0, .int i1] (m_J7_fill_53178 a0 i1) := Im.of RJ7 (by decide) rfl (Nat.le_of_ble_eq_true rfl) (fun X hX hr hn hz => w_J7_fill_53178 hX hr hz a0 i1)
set_option maxRecDepth 20000 in
theorem w_Sn_empty {X : CX Unit} (hX : Cx X RX4 cX4_empty 1 rm_Sn_empty) (hr : Rt X injV none rm_Sn_empty.cells rm_Sn_empty.slots) (hz : Zx X false) (a0 : Nat) : WM X 0 [(0, .ref a0)] [] 0 0 (m_Sn_empty a0) := by
  unfold m_Sn_empty
  refine wm_ckd ?_
  refine wm_aload_n 0 hX dX4_empty_0 rfl rfl ?_
  refine wm_gR hX fl_RX4_15 dX4_empty_1 (fun v1 => ?_)
  refine wm_iconst (0 : Int32) hX dX4_empty_4 (by decide) ?_
  refine wm_cSv (st := []) hX hz (i_J7_fill_53178 v1 (0 : Int32)) cal_J7_fill_53178 wd_649 rfl (fits_Sn_empty_J7_fill_53178) (Nat.le_of_ble_eq_true rfl) dX4_empty_5 ?_
  refine wm_aload_n 0 hX dX4_empty_8 rfl rfl ?_
  refine wm_iconst (0 : Int32) hX dX4_empty_9 (by decide) ?_
  refine wm_pI hX fp_RX4_29 dX4_empty_10 ?_
  exact wm_vret hX hr dX4_empty_13
theorem i_Sn_empty (a0 : Nat) : Im false yX4_empty cX4_empty 1 none rm_Sn_empty injV [.ref a0] (m_Sn_empty a0) := Im.of RX4 (by decide) rfl (Nat.le_of_ble_eq_true rfl) (fun X hX hr hn hz => w_Sn_empty hX hr hz a0)
set_option maxRecDepth 20000 in
theorem wb_Sn_ask_10 {X : CX Unit} (hX : Cx X RX4 cX4_ask 4 rm_Sn_ask) (hr : Rt X injV none rm_Sn_ask.cells rm_Sn_ask.slots) (hz : Zx X false) {k10 : Nat → Nat → Int32 → Int32 → M Unit} (h10 : ∀ (a0 : Nat) (a1 : Nat) (i2 : Int32) (i3 : Int32), WM X 10 [(0, .ref a0), (1, .ref a1), (2, .int i2), (3, .int i3)] [] 0 0 (k10 a0 a1 i2 i3)) (a0 : Nat) (a1 : Nat) (i2 : Int32) (i3 : Int32) : WM X 10 [(0, .ref a0), (1, .ref a1), (2, .int i2), (3, .int i3)] [] 0 0 (b_Sn_ask_10 k10 a0 a1 i2 i3) := by
  unfold b_Sn_ask_10
  refine wm_iload_n 3 hX dX4_ask_10 rfl rfl ?_
  refine wm_iload_n 2 hX dX4_ask_11 rfl rfl ?_
  refine wm_icmp_ge 61 hX dX4_ask_12 (by decide) ?_ ?_
  · refine wm_aload_n 0 hX dX4_ask_61 rfl rfl ?_
    refine wm_iconst (2 : Int32) hX dX4_ask_62 (by decide) ?_
    refine wm_iload_n 2 hX dX4_ask_63 rfl rfl ?_
    refine wm_imul hX dX4_ask_64 ?_
    refine wm_pI hX fp_RX4_26 dX4_ask_65 ?_
    refine wm_aload_n 1 hX dX4_ask_68 rfl rfl ?_
    refine wm_gR hX fl_RX4_56 dX4_ask_69 (fun v1 => ?_)
    refine wm_gI hX fl_RX4_70 dX4_ask_72 (fun v2 => ?_)
    refine wm_if_eq 101 hX dX4_ask_75 (by decide) ?_ ?_
    · exact wm_vret hX hr dX4_ask_101
    · refine wm_aload_n 0 hX dX4_ask_78 rfl rfl ?_
      refine wm_gR hX fl_RX4_19 dX4_ask_79 (fun v3 => ?_)
      refine wm_aload_n 0 hX dX4_ask_82 rfl rfl ?_
      refine wm_gI hX fl_RX4_26 dX4_ask_83 (fun v4 => ?_)
      refine wm_aload_n 1 hX dX4_ask_86 rfl rfl ?_
      refine wm_gL hX fl_RX4_73 dX4_ask_87 (fun v5 => ?_)
      refine wm_stL hX dX4_ask_90 ?_
      refine wm_aload_n 0 hX dX4_ask_91 rfl rfl ?_
      refine wm_dup hX dX4_ask_92 rfl ?_
      refine wm_gI hX fl_RX4_26 dX4_ask_93 (fun v6 => ?_)
      refine wm_iconst (1 : Int32) hX dX4_ask_96 (by decide) ?_
      refine wm_iadd hX dX4_ask_97 ?_
      refine wm_pI hX fp_RX4_26 dX4_ask_98 ?_
      exact wm_vret hX hr dX4_ask_101
  · refine wm_aload_n 0 hX dX4_ask_15 rfl rfl ?_
    refine wm_gR hX fl_RX4_19 dX4_ask_16 (fun v7 => ?_)
    refine wm_iconst (2 : Int32) hX dX4_ask_19 (by decide) ?_
    refine wm_iload_n 3 hX dX4_ask_20 rfl rfl ?_
    refine wm_imul hX dX4_ask_21 ?_
    refine wm_aload_n 1 hX dX4_ask_22 rfl rfl ?_
    refine wm_gR hX fl_RX4_67 dX4_ask_23 (fun v8 => ?_)
    refine wm_iload_n 3 hX dX4_ask_26 rfl rfl ?_
    refine wm_bipush (6 : Int32) hX dX4_ask_27 (by decide) ?_
    refine wm_imul hX dX4_ask_29 ?_
    refine wm_iconst (0 : Int32) hX dX4_ask_30 (by decide) ?_
    refine wm_iadd hX dX4_ask_31 ?_
    refine wm_ldL hX dX4_ask_32 (fun v9 => ?_)
    refine wm_stL hX dX4_ask_33 ?_
    refine wm_aload_n 0 hX dX4_ask_34 rfl rfl ?_
    refine wm_gR hX fl_RX4_19 dX4_ask_35 (fun v10 => ?_)
    refine wm_iconst (2 : Int32) hX dX4_ask_38 (by decide) ?_
    refine wm_iload_n 3 hX dX4_ask_39 rfl rfl ?_
    refine wm_imul hX dX4_ask_40 ?_
    refine wm_iconst (1 : Int32) hX dX4_ask_41 (by decide) ?_
    refine wm_iadd hX dX4_ask_42 ?_
    refine wm_aload_n 1 hX dX4_ask_43 rfl rfl ?_
    refine wm_gR hX fl_RX4_67 dX4_ask_44 (fun v11 => ?_)
    refine wm_iload_n 3 hX dX4_ask_47 rfl rfl ?_
    refine wm_bipush (6 : Int32) hX dX4_ask_48 (by decide) ?_
    refine wm_imul hX dX4_ask_50 ?_
    refine wm_iconst (1 : Int32) hX dX4_ask_51 (by decide) ?_
    refine wm_iadd hX dX4_ask_52 ?_
    refine wm_ldL hX dX4_ask_53 (fun v12 => ?_)
    refine wm_stL hX dX4_ask_54 ?_
    refine wm_iinc (i3 + 1) 3 [(3, .int (i3 + 1)), (0, .ref a0), (1, .ref a1), (2, .int i2)] hX dX4_ask_55 rfl rfl (by decide) rfl ?_
    refine wm_goto (tgt := 10) hX dX4_ask_58 (by decide) ?_
    refine wm_sub [1, 2, 3, 0] [(0, .ref a0), (1, .ref a1), (2, .int i2), (3, .int (i3 + 1))] rfl ?_
    exact h10 a0 a1 i2 (i3 + 1)
theorem wl_Sn_ask_10 {X : CX Unit} (hX : Cx X RX4 cX4_ask 4 rm_Sn_ask) (hr : Rt X injV none rm_Sn_ask.cells rm_Sn_ask.slots) (hz : Zx X false) : ∀ (n : Nat) (a0 : Nat) (a1 : Nat) (i2 : Int32) (i3 : Int32), WM X 10 [(0, .ref a0), (1, .ref a1), (2, .int i2), (3, .int i3)] [] 0 0 (l_Sn_ask_10 n a0 a1 i2 i3)
  | 0, _, _, _, _ => wm_fl
  | n + 1, a0, a1, i2, i3 => wb_Sn_ask_10 hX hr hz (wl_Sn_ask_10 hX hr hz n) a0 a1 i2 i3
set_option maxRecDepth 20000 in
theorem w_Sn_ask {X : CX Unit} (hX : Cx X RX4 cX4_ask 4 rm_Sn_ask) (hr : Rt X injV none rm_Sn_ask.cells rm_Sn_ask.slots) (hz : Zx X false) (a0 : Nat) (a1 : Nat) : WM X 0 [(0, .ref a0), (1, .ref a1)] [] 0 0 (m_Sn_ask a0 a1) := by
  unfold m_Sn_ask
  refine wm_ckd ?_
  refine wm_aload_n 1 hX dX4_ask_0 rfl rfl ?_
  refine wm_gR hX fl_RX4_56 dX4_ask_1 (fun v1 => ?_)
  refine wm_gI hX fl_RX4_62 dX4_ask_4 (fun v2 => ?_)
  refine wm_istore_n [(2, .int v2), (0, .ref a0), (1, .ref a1)] hX dX4_ask_7 rfl (by decide) rfl ?_
  refine wm_iconst (0 : Int32) hX dX4_ask_8 (by decide) ?_
  refine wm_istore_n [(3, .int (0 : Int32)), (2, .int v2), (0, .ref a0), (1, .ref a1)] hX dX4_ask_9 rfl (by decide) rfl ?_
  refine wm_sub [2, 3, 1, 0] [(0, .ref a0), (1, .ref a1), (2, .int v2), (3, .int (0 : Int32))] rfl ?_
  exact wl_Sn_ask_10 hX hr hz FU a0 a1 v2 (0 : Int32)
theorem i_Sn_ask (a0 : Nat) (a1 : Nat) : Im false yX4_ask cX4_ask 4 none rm_Sn_ask injV [.ref a0, .ref a1] (m_Sn_ask a0 a1) := Im.of RX4 (by decide) rfl (Nat.le_of_ble_eq_true rfl) (fun X hX hr hn hz => w_Sn_ask hX hr hz a0 a1)
set_option maxRecDepth 20000 in
theorem wb_Sn_hashOfAsked_4 {X : CX Int32} (hX : Cx X RX4 cX4_hashOfAsked 4 rm_Sn_hashOfAsked) (hr : Rt X injI (some .int) rm_Sn_hashOfAsked.cells rm_Sn_hashOfAsked.slots) (hz : Zx X false) {k4 : Nat → Int64 → Int32 → M Int32} (h4 : ∀ (a0 : Nat) (l1 : Int64) (i3 : Int32), WM X 4 [(0, .ref a0), (1, .long l1), (3, .int i3)] [] 0 0 (k4 a0 l1 i3)) (a0 : Nat) (l1 : Int64) (i3 : Int32) : WM X 4 [(0, .ref a0), (1, .long l1), (3, .int i3)] [] 0 0 (b_Sn_hashOfAsked_4 k4 a0 l1 i3) := by
  unfold b_Sn_hashOfAsked_4
  refine wm_iload_n 2 hX dX4_hashOfAsked_4 rfl rfl ?_
  refine wm_aload_n 0 hX dX4_hashOfAsked_5 rfl rfl ?_
  refine wm_gI hX fl_RX4_26 dX4_hashOfAsked_6 (fun v1 => ?_)
  refine wm_icmp_ge 38 hX dX4_hashOfAsked_9 (by decide) ?_ ?_
  · refine wm_lload_n 1 hX dX4_hashOfAsked_38 rfl rfl ?_
    refine wm_ldc2 hX dX4_hashOfAsked_39 wd_665 ?_
    refine wm_land hX dX4_hashOfAsked_42 ?_
    refine wm_l2i hX dX4_hashOfAsked_43 ?_
    exact wm_iret hX hr dX4_hashOfAsked_44
  · refine wm_lload_n 1 hX dX4_hashOfAsked_12 rfl rfl ?_
    refine wm_aload_n 0 hX dX4_hashOfAsked_13 rfl rfl ?_
    refine wm_gR hX fl_RX4_19 dX4_hashOfAsked_14 (fun v2 => ?_)
    refine wm_iload_n 2 hX dX4_hashOfAsked_17 rfl rfl ?_
    refine wm_ldL hX dX4_hashOfAsked_18 (fun v3 => ?_)
    refine wm_lxor hX dX4_hashOfAsked_19 ?_
    refine wm_ldc2 hX dX4_hashOfAsked_20 wd_664 ?_
    refine wm_lmul hX dX4_hashOfAsked_23 ?_
    refine wm_letl (fun v4 => ?_)
    refine wm_lstore_n [(1, .long v4), (0, .ref a0), (3, .int i3)] hX dX4_hashOfAsked_24 rfl (by decide) rfl ?_
    refine wm_lload_n 0 hX dX4_hashOfAsked_25 rfl rfl ?_
    refine wm_lload_n 0 hX dX4_hashOfAsked_26 rfl rfl ?_
    refine wm_bipush (32 : Int32) hX dX4_hashOfAsked_27 (by decide) ?_
    refine wm_lushr hX dX4_hashOfAsked_29 ?_
    refine wm_lxor hX dX4_hashOfAsked_30 ?_
    refine wm_letl (fun v5 => ?_)
    refine wm_lstore_n [(1, .long v5), (0, .ref a0), (3, .int i3)] hX dX4_hashOfAsked_31 rfl (by decide) rfl ?_
    refine wm_iinc (i3 + 1) 2 [(3, .int (i3 + 1)), (1, .long v5), (0, .ref a0)] hX dX4_hashOfAsked_32 rfl rfl (by decide) rfl ?_
    refine wm_goto (tgt := 4) hX dX4_hashOfAsked_35 (by decide) ?_
    refine wm_sub [2, 1, 0] [(0, .ref a0), (1, .long v5), (3, .int (i3 + 1))] rfl ?_
    exact h4 a0 v5 (i3 + 1)
theorem wl_Sn_hashOfAsked_4 {X : CX Int32} (hX : Cx X RX4 cX4_hashOfAsked 4 rm_Sn_hashOfAsked) (hr : Rt X injI (some .int) rm_Sn_hashOfAsked.cells rm_Sn_hashOfAsked.slots) (hz : Zx X false) : ∀ (n : Nat) (a0 : Nat) (l1 : Int64) (i3 : Int32), WM X 4 [(0, .ref a0), (1, .long l1), (3, .int i3)] [] 0 0 (l_Sn_hashOfAsked_4 n a0 l1 i3)
  | 0, _, _, _ => wm_fl
  | n + 1, a0, l1, i3 => wb_Sn_hashOfAsked_4 hX hr hz (wl_Sn_hashOfAsked_4 hX hr hz n) a0 l1 i3
set_option maxRecDepth 20000 in
theorem w_Sn_hashOfAsked {X : CX Int32} (hX : Cx X RX4 cX4_hashOfAsked 4 rm_Sn_hashOfAsked) (hr : Rt X injI (some .int) rm_Sn_hashOfAsked.cells rm_Sn_hashOfAsked.slots) (hz : Zx X false) (a0 : Nat) : WM X 0 [(0, .ref a0)] [] 0 0 (m_Sn_hashOfAsked a0) := by
  unfold m_Sn_hashOfAsked
  refine wm_ckd ?_
  refine wm_lconst (0 : Int64) hX dX4_hashOfAsked_0 (by decide) ?_
  refine wm_lstore_n [(1, .long (0 : Int64)), (0, .ref a0)] hX dX4_hashOfAsked_1 rfl (by decide) rfl ?_
  refine wm_iconst (0 : Int32) hX dX4_hashOfAsked_2 (by decide) ?_
  refine wm_istore_n [(3, .int (0 : Int32)), (1, .long (0 : Int64)), (0, .ref a0)] hX dX4_hashOfAsked_3 rfl (by decide) rfl ?_
  refine wm_sub [2, 1, 0] [(0, .ref a0), (1, .long (0 : Int64)), (3, .int (0 : Int32))] rfl ?_
  exact wl_Sn_hashOfAsked_4 hX hr hz FU a0 (0 : Int64) (0 : Int32)
theorem i_Sn_hashOfAsked (a0 : Nat) : Im false yX4_hashOfAsked cX4_hashOfAsked 4 (some .int) rm_Sn_hashOfAsked injI [.ref a0] (m_Sn_hashOfAsked a0) := Im.of RX4 (by decide) rfl (Nat.le_of_ble_eq_true rfl) (fun X hX hr hn hz => w_Sn_hashOfAsked hX hr hz a0)
set_option maxRecDepth 20000 in
theorem wb_Sn_isAsked_2 {X : CX Int32} (hX : Cx X RX4 cX4_isAsked 3 rm_Sn_isAsked) (hr : Rt X injI (some .boolean) rm_Sn_isAsked.cells rm_Sn_isAsked.slots) (hz : Zx X false) {k2 : Nat → Int32 → Int32 → M Int32} (h2 : ∀ (a0 : Nat) (i1 : Int32) (i2 : Int32), WM X 2 [(0, .ref a0), (1, .int i1), (2, .int i2)] [] 0 0 (k2 a0 i1 i2)) (a0 : Nat) (i1 : Int32) (i2 : Int32) : WM X 2 [(0, .ref a0), (1, .int i1), (2, .int i2)] [] 0 0 (b_Sn_isAsked_2 k2 a0 i1 i2) := by
  unfold b_Sn_isAsked_2
  refine wm_iload_n 2 hX dX4_isAsked_2 rfl rfl ?_
  refine wm_aload_n 0 hX dX4_isAsked_3 rfl rfl ?_
  refine wm_gI hX fl_RX4_26 dX4_isAsked_4 (fun v1 => ?_)
  refine wm_icmp_ge 41 hX dX4_isAsked_7 (by decide) ?_ ?_
  · refine wm_iconst (1 : Int32) hX dX4_isAsked_41 (by decide) ?_
    exact wm_zret hX hr dX4_isAsked_42
  · refine wm_aload_n 0 hX dX4_isAsked_10 rfl rfl ?_
    refine wm_gR hX fl_RX4_9 dX4_isAsked_11 (fun v2 => ?_)
    refine wm_iload_n 1 hX dX4_isAsked_14 rfl rfl ?_
    refine wm_aload_n 0 hX dX4_isAsked_15 rfl rfl ?_
    refine wm_gI hX fl_RX4_26 dX4_isAsked_16 (fun v3 => ?_)
    refine wm_imul hX dX4_isAsked_19 ?_
    refine wm_iload_n 2 hX dX4_isAsked_20 rfl rfl ?_
    refine wm_iadd hX dX4_isAsked_21 ?_
    refine wm_ldL hX dX4_isAsked_22 (fun v4 => ?_)
    refine wm_aload_n 0 hX dX4_isAsked_23 rfl rfl ?_
    refine wm_gR hX fl_RX4_19 dX4_isAsked_24 (fun v5 => ?_)
    refine wm_iload_n 2 hX dX4_isAsked_27 rfl rfl ?_
    refine wm_ldL hX dX4_isAsked_28 (fun v6 => ?_)
    refine wm_lif_eq 35 hX dX4_isAsked_29 dX4_isAsked_30 (by decide) ?_ ?_
    · refine wm_iinc (i2 + 1) 2 [(2, .int (i2 + 1)), (0, .ref a0), (1, .int i1)] hX dX4_isAsked_35 rfl rfl (by decide) rfl ?_
      refine wm_goto (tgt := 2) hX dX4_isAsked_38 (by decide) ?_
      refine wm_sub [1, 2, 0] [(0, .ref a0), (1, .int i1), (2, .int (i2 + 1))] rfl ?_
      exact h2 a0 i1 (i2 + 1)
    · refine wm_iconst (0 : Int32) hX dX4_isAsked_33 (by decide) ?_
      exact wm_zret hX hr dX4_isAsked_34
theorem wl_Sn_isAsked_2 {X : CX Int32} (hX : Cx X RX4 cX4_isAsked 3 rm_Sn_isAsked) (hr : Rt X injI (some .boolean) rm_Sn_isAsked.cells rm_Sn_isAsked.slots) (hz : Zx X false) : ∀ (n : Nat) (a0 : Nat) (i1 : Int32) (i2 : Int32), WM X 2 [(0, .ref a0), (1, .int i1), (2, .int i2)] [] 0 0 (l_Sn_isAsked_2 n a0 i1 i2)
  | 0, _, _, _ => wm_fl
  | n + 1, a0, i1, i2 => wb_Sn_isAsked_2 hX hr hz (wl_Sn_isAsked_2 hX hr hz n) a0 i1 i2
set_option maxRecDepth 20000 in
theorem w_Sn_isAsked {X : CX Int32} (hX : Cx X RX4 cX4_isAsked 3 rm_Sn_isAsked) (hr : Rt X injI (some .boolean) rm_Sn_isAsked.cells rm_Sn_isAsked.slots) (hz : Zx X false) (a0 : Nat) (i1 : Int32) : WM X 0 [(0, .ref a0), (1, .int i1)] [] 0 0 (m_Sn_isAsked a0 i1) := by
  unfold m_Sn_isAsked
  refine wm_ckd ?_
  refine wm_iconst (0 : Int32) hX dX4_isAsked_0 (by decide) ?_
  refine wm_istore_n [(2, .int (0 : Int32)), (0, .ref a0), (1, .int i1)] hX dX4_isAsked_1 rfl (by decide) rfl ?_
  refine wm_sub [1, 2, 0] [(0, .ref a0), (1, .int i1), (2, .int (0 : Int32))] rfl ?_
  exact wl_Sn_isAsked_2 hX hr hz FU a0 i1 (0 : Int32)
theorem i_Sn_isAsked (a0 : Nat) (i1 : Int32) : Im false yX4_isAsked cX4_isAsked 3 (some .boolean) rm_Sn_isAsked injI [.ref a0, .int i1] (m_Sn_isAsked a0 i1) := Im.of RX4 (by decide) rfl (Nat.le_of_ble_eq_true rfl) (fun X hX hr hn hz => w_Sn_isAsked hX hr hz a0 i1)
set_option maxRecDepth 20000 in
theorem wb_Sn_find_12 {X : CX Int32} (hX : Cx X RX4 cX4_find 4 rm_Sn_find) (hr : Rt X injI (some .int) rm_Sn_find.cells rm_Sn_find.slots) (hz : Zx X false) {k12 : Nat → Int32 → Int32 → M Int32} (h12 : ∀ (a0 : Nat) (i2 : Int32) (i3 : Int32), WM X 12 [(0, .ref a0), (2, .int i2), (3, .int i3)] [] 0 0 (k12 a0 i2 i3)) (a0 : Nat) (i2 : Int32) (i3 : Int32) : WM X 12 [(0, .ref a0), (2, .int i2), (3, .int i3)] [] 0 0 (b_Sn_find_12 k12 a0 i2 i3) := by
  unfold b_Sn_find_12
  refine wm_iload_n 2 hX dX4_find_12 rfl rfl ?_
  refine wm_sipush (1024 : Int32) hX dX4_find_13 (by decide) ?_
  refine wm_icmp_ge 66 hX dX4_find_16 (by decide) ?_ ?_
  · refine wm_aload_n 0 hX dX4_find_66 rfl rfl ?_
    refine wm_iload_n 1 hX dX4_find_67 rfl rfl ?_
    refine wm_pI hX fp_RX4_22 dX4_find_68 ?_
    refine wm_iconst (-1 : Int32) hX dX4_find_71 (by decide) ?_
    exact wm_iret hX hr dX4_find_72
  · refine wm_aload_n 0 hX dX4_find_19 rfl rfl ?_
    refine wm_gR hX fl_RX4_15 dX4_find_20 (fun v1 => ?_)
    refine wm_iload_n 1 hX dX4_find_23 rfl rfl ?_
    refine wm_ldI hX dX4_find_24 (fun v2 => ?_)
    refine wm_if_eq 66 hX dX4_find_25 (by decide) ?_ ?_
    · refine wm_aload_n 0 hX dX4_find_66 rfl rfl ?_
      refine wm_iload_n 1 hX dX4_find_67 rfl rfl ?_
      refine wm_pI hX fp_RX4_22 dX4_find_68 ?_
      refine wm_iconst (-1 : Int32) hX dX4_find_71 (by decide) ?_
      exact wm_iret hX hr dX4_find_72
    · refine wm_aload_n 0 hX dX4_find_28 rfl rfl ?_
      refine wm_aload_n 0 hX dX4_find_29 rfl rfl ?_
      refine wm_gR hX fl_RX4_15 dX4_find_30 (fun v3 => ?_)
      refine wm_iload_n 1 hX dX4_find_33 rfl rfl ?_
      refine wm_ldI hX dX4_find_34 (fun v4 => ?_)
      refine wm_iconst (1 : Int32) hX dX4_find_35 (by decide) ?_
      refine wm_isub hX dX4_find_36 ?_
      refine wm_cVi (st := []) hX hz (i_Sn_isAsked a0 (v4 - (1 : Int32))) Ckd.of rfl cal_Sn_isAsked wd_666 rfl (fits_Sn_find_Sn_isAsked) (Nat.le_of_ble_eq_true rfl) dX4_find_37 (fun v5 => ?_)
      refine wm_if_eq 52 hX dX4_find_40 (by decide) ?_ ?_
      · refine wm_iload_n 1 hX dX4_find_52 rfl rfl ?_
        refine wm_iconst (1 : Int32) hX dX4_find_53 (by decide) ?_
        refine wm_iadd hX dX4_find_54 ?_
        refine wm_sipush (1023 : Int32) hX dX4_find_55 (by decide) ?_
        refine wm_iand hX dX4_find_58 ?_
        refine wm_leti (fun v6 => ?_)
        refine wm_istore_n [(2, .int v6), (0, .ref a0), (3, .int i3)] hX dX4_find_59 rfl (by decide) rfl ?_
        refine wm_iinc (i3 + 1) 2 [(3, .int (i3 + 1)), (2, .int v6), (0, .ref a0)] hX dX4_find_60 rfl rfl (by decide) rfl ?_
        refine wm_goto (tgt := 12) hX dX4_find_63 (by decide) ?_
        refine wm_sub [2, 1, 0] [(0, .ref a0), (2, .int v6), (3, .int (i3 + 1))] rfl ?_
        exact h12 a0 v6 (i3 + 1)
      · refine wm_aload_n 0 hX dX4_find_43 rfl rfl ?_
        refine wm_gR hX fl_RX4_15 dX4_find_44 (fun v7 => ?_)
        refine wm_iload_n 1 hX dX4_find_47 rfl rfl ?_
        refine wm_ldI hX dX4_find_48 (fun v8 => ?_)
        refine wm_iconst (1 : Int32) hX dX4_find_49 (by decide) ?_
        refine wm_isub hX dX4_find_50 ?_
        exact wm_iret hX hr dX4_find_51
theorem wl_Sn_find_12 {X : CX Int32} (hX : Cx X RX4 cX4_find 4 rm_Sn_find) (hr : Rt X injI (some .int) rm_Sn_find.cells rm_Sn_find.slots) (hz : Zx X false) : ∀ (n : Nat) (a0 : Nat) (i2 : Int32) (i3 : Int32), WM X 12 [(0, .ref a0), (2, .int i2), (3, .int i3)] [] 0 0 (l_Sn_find_12 n a0 i2 i3)
  | 0, _, _, _ => wm_fl
  | n + 1, a0, i2, i3 => wb_Sn_find_12 hX hr hz (wl_Sn_find_12 hX hr hz n) a0 i2 i3
set_option maxRecDepth 20000 in
theorem w_Sn_find {X : CX Int32} (hX : Cx X RX4 cX4_find 4 rm_Sn_find) (hr : Rt X injI (some .int) rm_Sn_find.cells rm_Sn_find.slots) (hz : Zx X false) (a0 : Nat) (a1 : Nat) : WM X 0 [(0, .ref a0), (1, .ref a1)] [] 0 0 (m_Sn_find a0 a1) := by
  unfold m_Sn_find
  refine wm_ckd ?_
  refine wm_aload_n 0 hX dX4_find_0 rfl rfl ?_
  refine wm_aload_n 1 hX dX4_find_1 rfl rfl ?_
  refine wm_cVv (st := []) hX hz (i_Sn_ask a0 a1) Ckd.of rfl cal_Sn_ask wd_656 rfl (fits_Sn_find_Sn_ask) (Nat.le_of_ble_eq_true rfl) dX4_find_2 ?_
  refine wm_aload_n 0 hX dX4_find_5 rfl rfl ?_
  refine wm_cVi (st := []) hX hz (i_Sn_hashOfAsked a0) Ckd.of rfl cal_Sn_hashOfAsked wd_660 rfl (fits_Sn_find_Sn_hashOfAsked) (Nat.le_of_ble_eq_true rfl) dX4_find_6 (fun v1 => ?_)
  refine wm_istore_n [(2, .int v1), (0, .ref a0), (1, .ref a1)] hX dX4_find_9 rfl (by decide) rfl ?_
  refine wm_iconst (0 : Int32) hX dX4_find_10 (by decide) ?_
  refine wm_istore_n [(3, .int (0 : Int32)), (2, .int v1), (0, .ref a0), (1, .ref a1)] hX dX4_find_11 rfl (by decide) rfl ?_
  refine wm_sub [2, 1, 0] [(0, .ref a0), (2, .int v1), (3, .int (0 : Int32))] rfl ?_
  exact wl_Sn_find_12 hX hr hz FU a0 v1 (0 : Int32)
theorem i_Sn_find (a0 : Nat) (a1 : Nat) : Im false yX4_find cX4_find 4 (some .int) rm_Sn_find injI [.ref a0, .ref a1] (m_Sn_find a0 a1) := Im.of RX4 (by decide) rfl (Nat.le_of_ble_eq_true rfl) (fun X hX hr hn hz => w_Sn_find hX hr hz a0 a1)
set_option maxRecDepth 20000 in
theorem w_Sn_addAsked {X : CX Unit} (hX : Cx X RX4 cX4_addAsked 1 rm_Sn_addAsked) (hr : Rt X injV none rm_Sn_addAsked.cells rm_Sn_addAsked.slots) (hz : Zx X false) (a0 : Nat) : WM X 0 [(0, .ref a0)] [] 0 0 (m_Sn_addAsked a0) := by
  unfold m_Sn_addAsked
  refine wm_ckd ?_
  refine wm_aload_n 0 hX dX4_addAsked_0 rfl rfl ?_
  refine wm_gI hX fl_RX4_29 dX4_addAsked_1 (fun v1 => ?_)
  refine wm_iconst (1 : Int32) hX dX4_addAsked_4 (by decide) ?_
  refine wm_iadd hX dX4_addAsked_5 ?_
  refine wm_aload_n 0 hX dX4_addAsked_6 rfl rfl ?_
  refine wm_gI hX fl_RX4_26 dX4_addAsked_7 (fun v2 => ?_)
  refine wm_imul hX dX4_addAsked_10 ?_
  refine wm_aload_n 0 hX dX4_addAsked_11 rfl rfl ?_
  refine wm_gR hX fl_RX4_9 dX4_addAsked_12 (fun v3 => ?_)
  refine wm_alen (fun _ => rfl) hX dX4_addAsked_15 (fun v4 => ?_)
  refine wm_icmp_gt 67 hX dX4_addAsked_16 (by decide) ?_ ?_
  · exact wm_vret hX hr dX4_addAsked_67
  · refine wm_aload_n 0 hX dX4_addAsked_19 rfl rfl ?_
    refine wm_gR hX fl_RX4_19 dX4_addAsked_20 (fun v5 => ?_)
    refine wm_iconst (0 : Int32) hX dX4_addAsked_23 (by decide) ?_
    refine wm_aload_n 0 hX dX4_addAsked_24 rfl rfl ?_
    refine wm_gR hX fl_RX4_9 dX4_addAsked_25 (fun v6 => ?_)
    refine wm_aload_n 0 hX dX4_addAsked_28 rfl rfl ?_
    refine wm_gI hX fl_RX4_29 dX4_addAsked_29 (fun v7 => ?_)
    refine wm_aload_n 0 hX dX4_addAsked_32 rfl rfl ?_
    refine wm_gI hX fl_RX4_26 dX4_addAsked_33 (fun v8 => ?_)
    refine wm_imul hX dX4_addAsked_36 ?_
    refine wm_aload_n 0 hX dX4_addAsked_37 rfl rfl ?_
    refine wm_gI hX fl_RX4_26 dX4_addAsked_38 (fun v9 => ?_)
    refine wm_acp hX hz ⟨wd_674, wd_412, wd_411, wd_52⟩ ⟨Nat.le_of_ble_eq_true rfl, Nat.le_of_ble_eq_true rfl⟩ dX4_addAsked_41 ?_
    refine wm_aload_n 0 hX dX4_addAsked_44 rfl rfl ?_
    refine wm_dup hX dX4_addAsked_45 rfl ?_
    refine wm_gI hX fl_RX4_29 dX4_addAsked_46 (fun v10 => ?_)
    refine wm_iconst (1 : Int32) hX dX4_addAsked_49 (by decide) ?_
    refine wm_iadd hX dX4_addAsked_50 ?_
    refine wm_pI hX fp_RX4_29 dX4_addAsked_51 ?_
    refine wm_aload_n 0 hX dX4_addAsked_54 rfl rfl ?_
    refine wm_gR hX fl_RX4_15 dX4_addAsked_55 (fun v11 => ?_)
    refine wm_aload_n 0 hX dX4_addAsked_58 rfl rfl ?_
    refine wm_gI hX fl_RX4_22 dX4_addAsked_59 (fun v12 => ?_)
    refine wm_aload_n 0 hX dX4_addAsked_62 rfl rfl ?_
    refine wm_gI hX fl_RX4_29 dX4_addAsked_63 (fun v13 => ?_)
    refine wm_stI hX dX4_addAsked_66 ?_
    exact wm_vret hX hr dX4_addAsked_67
theorem i_Sn_addAsked (a0 : Nat) : Im false yX4_addAsked cX4_addAsked 1 none rm_Sn_addAsked injV [.ref a0] (m_Sn_addAsked a0) := Im.of RX4 (by decide) rfl (Nat.le_of_ble_eq_true rfl) (fun X hX hr hn hz => w_Sn_addAsked hX hr hz a0)
set_option maxRecDepth 20000 in
theorem wb_Hd_goRound_22 {X : CX Int32} (hX : Cx X RX0 cX0_goRound 9 rm_Hd_goRound) (hr : Rt X injI (some .int) rm_Hd_goRound.cells rm_Hd_goRound.slots) (hz : Zx X false) {k22 : Nat → Nat → Int64 → Int32 → Int64 → Int32 → M Int32} (h22 : ∀ (a0 : Nat) (a1 : Nat) (l2 : Int64) (i4 : Int32) (l5 : Int64) (i7 : Int32), WM X 22 [(0, .ref a0), (1, .ref a1), (2, .long l2), (4, .int i4), (5, .long l5), (7, .int i7)] [] 0 0 (k22 a0 a1 l2 i4 l5 i7)) (a0 : Nat) (a1 : Nat) (l2 : Int64) (i4 : Int32) (l5 : Int64) (i7 : Int32) : WM X 22 [(0, .ref a0), (1, .ref a1), (2, .long l2), (4, .int i4), (5, .long l5), (7, .int i7)] [] 0 0 (b_Hd_goRound_22 k22 a0 a1 l2 i4 l5 i7) := by
  unfold b_Hd_goRound_22
  refine wm_iload 5 hX dX0_goRound_22 rfl ?_
  refine wm_iload 3 hX dX0_goRound_24 rfl ?_
  refine wm_icmp_ge 138 hX dX0_goRound_26 (by decide) ?_ ?_
  · refine wm_bipush (-5 : Int32) hX dX0_goRound_138 (by decide) ?_
    exact wm_iret hX hr dX0_goRound_140
  · refine wm_iload 5 hX dX0_goRound_29 rfl ?_
    refine wm_sipush (400 : Int32) hX dX0_goRound_31 (by decide) ?_
    refine wm_icmp_ge 138 hX dX0_goRound_34 (by decide) ?_ ?_
    · refine wm_bipush (-5 : Int32) hX dX0_goRound_138 (by decide) ?_
      exact wm_iret hX hr dX0_goRound_140
    · refine wm_aload_n 0 hX dX0_goRound_37 rfl rfl ?_
      refine wm_gR hX fl_RX0_30 dX0_goRound_38 (fun v1 => ?_)
      refine wm_cVv (st := []) hX hz (i_Sn_addAsked v1) Ckd.of rfl cal_Sn_addAsked wd_670 rfl (fits_Hd_goRound_Sn_addAsked) (Nat.le_of_ble_eq_true rfl) dX0_goRound_41 ?_
      refine wm_aload_n 0 hX dX0_goRound_44 rfl rfl ?_
      refine wm_gR hX fl_RX0_9 dX0_goRound_45 (fun v2 => ?_)
      refine wm_iload 5 hX dX0_goRound_48 rfl ?_
      refine wm_lload 4 hX dX0_goRound_50 rfl ?_
      refine wm_stL hX dX0_goRound_52 ?_
      refine wm_aload_n 1 hX dX0_goRound_53 rfl rfl ?_
      refine wm_lload_n 2 hX dX0_goRound_54 rfl rfl ?_
      refine wm_cVi (st := []) hX hz (i_Tw_makeStep a1 l2) Ckd.of rfl cal_Tw_makeStep wd_675 rfl (fits_Hd_goRound_Tw_makeStep) (Nat.le_of_ble_eq_true rfl) dX0_goRound_55 (fun v3 => ?_)
      refine wm_if_ne 64 hX dX0_goRound_58 (by decide) ?_ ?_
      · refine wm_lload 4 hX dX0_goRound_64 rfl ?_
        refine wm_aload_n 0 hX dX0_goRound_66 rfl rfl ?_
        refine wm_gR hX fl_RX0_26 dX0_goRound_67 (fun v4 => ?_)
        refine wm_gR hX fl_RX0_52 dX0_goRound_70 (fun v5 => ?_)
        refine wm_aload_n 1 hX dX0_goRound_73 rfl rfl ?_
        refine wm_gI hX fl_RX0_57 dX0_goRound_74 (fun v6 => ?_)
        refine wm_ldL hX dX0_goRound_77 (fun v7 => ?_)
        refine wm_ladd hX dX0_goRound_78 ?_
        refine wm_letl (fun v8 => ?_)
        refine wm_lstore [(5, .long v8), (0, .ref a0), (1, .ref a1), (2, .long l2), (4, .int i4), (7, .int i7)] hX dX0_goRound_79 (by decide) rfl ?_
        refine wm_aload_n 1 hX dX0_goRound_81 rfl rfl ?_
        refine wm_gR hX fl_RX0_30 dX0_goRound_82 (fun v9 => ?_)
        refine wm_aload_n 2 hX dX0_goRound_85 rfl rfl ?_
        refine wm_cVi (st := []) hX hz (i_Sn_find v9 a1) Ckd.of rfl cal_Sn_find wd_652 rfl (fits_Hd_goRound_Sn_find) (Nat.le_of_ble_eq_true rfl) dX0_goRound_86 (fun v10 => ?_)
        refine wm_istore [(8, .int v10), (5, .long v8), (0, .ref a0), (1, .ref a1), (2, .long l2), (4, .int i4), (7, .int i7)] hX dX0_goRound_89 (by decide) rfl ?_
        refine wm_iload 0 hX dX0_goRound_91 rfl ?_
        refine wm_if_lt 132 hX dX0_goRound_93 (by decide) ?_ ?_
        · refine wm_iinc (i7 + 1) 6 [(7, .int (i7 + 1)), (8, .int v10), (5, .long v8), (0, .ref a0), (1, .ref a1), (2, .long l2), (4, .int i4)] hX dX0_goRound_132 rfl rfl (by decide) rfl ?_
          refine wm_goto (tgt := 22) hX dX0_goRound_135 (by decide) ?_
          refine wm_sub [3, 4, 5, 6, 2, 0] [(0, .ref a0), (1, .ref a1), (2, .long l2), (4, .int i4), (5, .long v8), (7, .int (i7 + 1))] rfl ?_
          exact h22 a0 a1 l2 i4 v8 (i7 + 1)
        · refine wm_aload_n 2 hX dX0_goRound_96 rfl rfl ?_
          refine wm_iload 0 hX dX0_goRound_97 rfl ?_
          refine wm_pI hX fp_RX0_15 dX0_goRound_99 ?_
          refine wm_aload_n 2 hX dX0_goRound_102 rfl rfl ?_
          refine wm_iload 6 hX dX0_goRound_103 rfl ?_
          refine wm_iconst (1 : Int32) hX dX0_goRound_105 (by decide) ?_
          refine wm_iadd hX dX0_goRound_106 ?_
          refine wm_iload 0 hX dX0_goRound_107 rfl ?_
          refine wm_isub hX dX0_goRound_109 ?_
          refine wm_pI hX fp_RX0_19 dX0_goRound_110 ?_
          refine wm_aload_n 2 hX dX0_goRound_113 rfl rfl ?_
          refine wm_lload 1 hX dX0_goRound_114 rfl ?_
          refine wm_aload_n 2 hX dX0_goRound_116 rfl rfl ?_
          refine wm_gR hX fl_RX0_9 dX0_goRound_117 (fun v11 => ?_)
          refine wm_iload 0 hX dX0_goRound_120 rfl ?_
          refine wm_ldL hX dX0_goRound_122 (fun v12 => ?_)
          refine wm_lsub hX dX0_goRound_123 ?_
          refine wm_pL hX fp_RX0_22 dX0_goRound_124 ?_
          refine wm_aload_n 2 hX dX0_goRound_127 rfl rfl ?_
          refine wm_gI hX fl_RX0_15 dX0_goRound_128 (fun v13 => ?_)
          exact wm_iret hX hr dX0_goRound_131
      · refine wm_bipush (-6 : Int32) hX dX0_goRound_61 (by decide) ?_
        exact wm_iret hX hr dX0_goRound_63
theorem wl_Hd_goRound_22 {X : CX Int32} (hX : Cx X RX0 cX0_goRound 9 rm_Hd_goRound) (hr : Rt X injI (some .int) rm_Hd_goRound.cells rm_Hd_goRound.slots) (hz : Zx X false) : ∀ (n : Nat) (a0 : Nat) (a1 : Nat) (l2 : Int64) (i4 : Int32) (l5 : Int64) (i7 : Int32), WM X 22 [(0, .ref a0), (1, .ref a1), (2, .long l2), (4, .int i4), (5, .long l5), (7, .int i7)] [] 0 0 (l_Hd_goRound_22 n a0 a1 l2 i4 l5 i7)
  | 0, _, _, _, _, _, _ => wm_fl
  | n + 1, a0, a1, l2, i4, l5, i7 => wb_Hd_goRound_22 hX hr hz (wl_Hd_goRound_22 hX hr hz n) a0 a1 l2 i4 l5 i7
set_option maxRecDepth 20000 in
theorem w_Hd_goRound {X : CX Int32} (hX : Cx X RX0 cX0_goRound 9 rm_Hd_goRound) (hr : Rt X injI (some .int) rm_Hd_goRound.cells rm_Hd_goRound.slots) (hz : Zx X false) (a0 : Nat) (a1 : Nat) (l2 : Int64) (i4 : Int32) : WM X 0 [(0, .ref a0), (1, .ref a1), (2, .long l2), (4, .int i4)] [] 0 0 (m_Hd_goRound a0 a1 l2 i4) := by
  unfold m_Hd_goRound
  refine wm_ckd ?_
  refine wm_aload_n 0 hX dX0_goRound_0 rfl rfl ?_
  refine wm_gR hX fl_RX0_30 dX0_goRound_1 (fun v1 => ?_)
  refine wm_cVv (st := []) hX hz (i_Sn_empty v1) Ckd.of rfl cal_Sn_empty wd_645 rfl (fits_Hd_goRound_Sn_empty) (Nat.le_of_ble_eq_true rfl) dX0_goRound_4 ?_
  refine wm_aload_n 0 hX dX0_goRound_7 rfl rfl ?_
  refine wm_gR hX fl_RX0_30 dX0_goRound_8 (fun v2 => ?_)
  refine wm_aload_n 1 hX dX0_goRound_11 rfl rfl ?_
  refine wm_cVi (st := []) hX hz (i_Sn_find v2 a1) Ckd.of rfl cal_Sn_find wd_652 rfl (fits_Hd_goRound_Sn_find) (Nat.le_of_ble_eq_true rfl) dX0_goRound_12 (fun v3 => ?_)
  refine wm_pop hX dX0_goRound_15 rfl ?_
  refine wm_lconst (0 : Int64) hX dX0_goRound_16 (by decide) ?_
  refine wm_lstore [(5, .long (0 : Int64)), (0, .ref a0), (1, .ref a1), (2, .long l2), (4, .int i4)] hX dX0_goRound_17 (by decide) rfl ?_
  refine wm_iconst (0 : Int32) hX dX0_goRound_19 (by decide) ?_
  refine wm_istore [(7, .int (0 : Int32)), (5, .long (0 : Int64)), (0, .ref a0), (1, .ref a1), (2, .long l2), (4, .int i4)] hX dX0_goRound_20 (by decide) rfl ?_
  refine wm_sub [2, 3, 4, 5, 1, 0] [(0, .ref a0), (1, .ref a1), (2, .long l2), (4, .int i4), (5, .long (0 : Int64)), (7, .int (0 : Int32))] rfl ?_
  exact wl_Hd_goRound_22 hX hr hz FU a0 a1 l2 i4 (0 : Int64) (0 : Int32)
theorem i_Hd_goRound (a0 : Nat) (a1 : Nat) (l2 : Int64) (i4 : Int32) : Im false yX0_goRound cX0_goRound 9 (some .int) rm_Hd_goRound injI [.ref a0, .ref a1, .long l2, .int i4] (m_Hd_goRound a0 a1 l2 i4) := Im.of RX0 (by decide) rfl (Nat.le_of_ble_eq_true rfl) (fun X hX hr hn hz => w_Hd_goRound hX hr hz a0 a1 l2 i4)
set_option maxRecDepth 20000 in
theorem w_Ob_hold {X : CX Int32} (hX : Cx X RX8 cX8_hold 4 rm_Ob_hold) (hr : Rt X injI (some .int) rm_Ob_hold.cells rm_Ob_hold.slots) (hz : Zx X false) (a0 : Nat) (l1 : Int64) (i3 : Int32) : WM X 0 [(0, .ref a0), (1, .long l1), (3, .int i3)] [] 0 0 (m_Ob_hold a0 l1 i3) := by
  unfold m_Ob_hold
  refine wm_ckd ?_
  refine wm_lload_n 1 hX dX8_hold_0 rfl rfl ?_
  refine wm_cSi (st := []) hX hz (i_Ob_isSample l1) cal_Ob_isSample wd_466 rfl (fits_Ob_hold_Ob_isSample) (Nat.le_of_ble_eq_true rfl) dX8_hold_1 (fun v1 => ?_)
  refine wm_if_eq 19 hX dX8_hold_4 (by decide) ?_ ?_
  · refine wm_bipush (-2 : Int32) hX dX8_hold_19 (by decide) ?_
    exact wm_iret hX hr dX8_hold_21
  · refine wm_iload_n 2 hX dX8_hold_7 rfl rfl ?_
    refine wm_iconst (1 : Int32) hX dX8_hold_8 (by decide) ?_
    refine wm_icmp_lt 19 hX dX8_hold_9 (by decide) ?_ ?_
    · refine wm_bipush (-2 : Int32) hX dX8_hold_19 (by decide) ?_
      exact wm_iret hX hr dX8_hold_21
    · refine wm_iload_n 2 hX dX8_hold_12 rfl rfl ?_
      refine wm_sipush (400 : Int32) hX dX8_hold_13 (by decide) ?_
      refine wm_icmp_le 22 hX dX8_hold_16 (by decide) ?_ ?_
      · refine wm_aload_n 0 hX dX8_hold_22 rfl rfl ?_
        refine wm_gR hX fl_RX8_69 dX8_hold_23 (fun v2 => ?_)
        refine wm_aload_n 0 hX dX8_hold_26 rfl rfl ?_
        refine wm_gR hX fl_RX8_65 dX8_hold_27 (fun v3 => ?_)
        refine wm_cVv (st := []) hX hz (i_Tw_becomeLike v2 v3) Ckd.of rfl cal_Tw_becomeLike wd_498 rfl (fits_Ob_hold_Tw_becomeLike) (Nat.le_of_ble_eq_true rfl) dX8_hold_30 ?_
        refine wm_aload_n 0 hX dX8_hold_33 rfl rfl ?_
        refine wm_gR hX fl_RX8_38 dX8_hold_34 (fun v4 => ?_)
        refine wm_aload_n 0 hX dX8_hold_37 rfl rfl ?_
        refine wm_gR hX fl_RX8_69 dX8_hold_38 (fun v5 => ?_)
        refine wm_lload_n 1 hX dX8_hold_41 rfl rfl ?_
        refine wm_iload_n 2 hX dX8_hold_42 rfl rfl ?_
        refine wm_cVi (st := []) hX hz (i_Hd_goRound v4 v5 l1 i3) Ckd.of rfl cal_Hd_goRound wd_641 rfl (fits_Ob_hold_Hd_goRound) (Nat.le_of_ble_eq_true rfl) dX8_hold_43 (fun v6 => ?_)
        exact wm_iret hX hr dX8_hold_46
      · refine wm_bipush (-2 : Int32) hX dX8_hold_19 (by decide) ?_
        exact wm_iret hX hr dX8_hold_21
theorem i_Ob_hold (a0 : Nat) (l1 : Int64) (i3 : Int32) : Im false yX8_hold cX8_hold 4 (some .int) rm_Ob_hold injI [.ref a0, .long l1, .int i3] (m_Ob_hold a0 l1 i3) := Im.of RX8 (by decide) rfl (Nat.le_of_ble_eq_true rfl) (fun X hX hr hn hz => w_Ob_hold hX hr hz a0 l1 i3)
set_option maxRecDepth 20000 in
theorem w_Md_stands_40 {X : CX Unit} (hX : Cx X RX9 cX9_stands 3 rm_Md_stands) (hr : Rt X injV none rm_Md_stands.cells rm_Md_stands.slots) (hz : Zx X false) {k2 : Nat → Int32 → Int32 → M Unit} (h2 : ∀ (a0 : Nat) (i1 : Int32) (i2 : Int32), WM X 2 [(0, .ref a0), (1, .int i1), (2, .int i2)] [] 0 0 (k2 a0 i1 i2)) (a0 : Nat) (i1 : Int32) (i2 : Int32) (s0 : Int64) (s1 : Int32) (s2 : Nat) : WM X 40 [(0, .ref a0), (1, .int i1), (2, .int i2)] [.long s0, .int s1, .ref s2] 0 0 (m_Md_stands_40 k2 a0 i1 i2 s0 s1 s2) := by
  unfold m_Md_stands_40
  refine wm_stL hX dX9_stands_40 ?_
  refine wm_aload_n 0 hX dX9_stands_41 rfl rfl ?_
  refine wm_gR hX fl_RX9_63 dX9_stands_42 (fun v1 => ?_)
  refine wm_bipush (12 : Int32) hX dX9_stands_45 (by decide) ?_
  refine wm_iload_n 1 hX dX9_stands_47 rfl rfl ?_
  refine wm_imul hX dX9_stands_48 ?_
  refine wm_iconst (2 : Int32) hX dX9_stands_49 (by decide) ?_
  refine wm_iload_n 2 hX dX9_stands_50 rfl rfl ?_
  refine wm_imul hX dX9_stands_51 ?_
  refine wm_iadd hX dX9_stands_52 ?_
  refine wm_iconst (1 : Int32) hX dX9_stands_53 (by decide) ?_
  refine wm_iadd hX dX9_stands_54 ?_
  refine wm_iload_n 2 hX dX9_stands_55 rfl rfl ?_
  refine wm_aload_n 0 hX dX9_stands_56 rfl rfl ?_
  refine wm_gI hX fl_RX9_160 dX9_stands_57 (fun v2 => ?_)
  refine wm_icmp_ge 77 hX dX9_stands_60 (by decide) ?_ ?_
  · refine wm_lconst (0 : Int64) hX dX9_stands_77 (by decide) ?_
    refine wm_stL hX dX9_stands_78 ?_
    refine wm_iinc (i2 + 1) 2 [(2, .int (i2 + 1)), (0, .ref a0), (1, .int i1)] hX dX9_stands_79 rfl rfl (by decide) rfl ?_
    refine wm_goto (tgt := 2) hX dX9_stands_82 (by decide) ?_
    refine wm_sub [1, 2, 0] [(0, .ref a0), (1, .int i1), (2, .int (i2 + 1))] rfl ?_
    exact h2 a0 i1 (i2 + 1)
  · refine wm_aload_n 0 hX dX9_stands_63 rfl rfl ?_
    refine wm_gR hX fl_RX9_51 dX9_stands_64 (fun v3 => ?_)
    refine wm_bipush (6 : Int32) hX dX9_stands_67 (by decide) ?_
    refine wm_iload_n 2 hX dX9_stands_69 rfl rfl ?_
    refine wm_imul hX dX9_stands_70 ?_
    refine wm_iconst (1 : Int32) hX dX9_stands_71 (by decide) ?_
    refine wm_iadd hX dX9_stands_72 ?_
    refine wm_ldL hX dX9_stands_73 (fun v4 => ?_)
    refine wm_goto (tgt := 78) hX dX9_stands_74 (by decide) ?_
    refine wm_stL hX dX9_stands_78 ?_
    refine wm_iinc (i2 + 1) 2 [(2, .int (i2 + 1)), (0, .ref a0), (1, .int i1)] hX dX9_stands_79 rfl rfl (by decide) rfl ?_
    refine wm_goto (tgt := 2) hX dX9_stands_82 (by decide) ?_
    refine wm_sub [1, 2, 0] [(0, .ref a0), (1, .int i1), (2, .int (i2 + 1))] rfl ?_
    exact h2 a0 i1 (i2 + 1)
set_option maxRecDepth 20000 in
theorem w_Md_stands_111 {X : CX Unit} (hX : Cx X RX9 cX9_stands 3 rm_Md_stands) (hr : Rt X injV none rm_Md_stands.cells rm_Md_stands.slots) (hz : Zx X false) (a0 : Nat) (i1 : Int32) (s0 : Int64) (s1 : Int32) (s2 : Nat) : WM X 111 [(0, .ref a0), (1, .int i1)] [.long s0, .int s1, .ref s2] 0 0 (m_Md_stands_111 a0 i1 s0 s1 s2) := by
  unfold m_Md_stands_111
  refine wm_stL hX dX9_stands_111 ?_
  refine wm_aload_n 0 hX dX9_stands_112 rfl rfl ?_
  refine wm_gR hX fl_RX9_63 dX9_stands_113 (fun v1 => ?_)
  refine wm_bipush (12 : Int32) hX dX9_stands_116 (by decide) ?_
  refine wm_iload_n 1 hX dX9_stands_118 rfl rfl ?_
  refine wm_imul hX dX9_stands_119 ?_
  refine wm_bipush (11 : Int32) hX dX9_stands_120 (by decide) ?_
  refine wm_iadd hX dX9_stands_122 ?_
  refine wm_iload_n 1 hX dX9_stands_123 rfl rfl ?_
  refine wm_if_le 139 hX dX9_stands_124 (by decide) ?_ ?_
  · refine wm_lconst (0 : Int64) hX dX9_stands_139 (by decide) ?_
    refine wm_stL hX dX9_stands_140 ?_
    exact wm_vret hX hr dX9_stands_141
  · refine wm_aload_n 0 hX dX9_stands_127 rfl rfl ?_
    refine wm_gR hX fl_RX9_36 dX9_stands_128 (fun v2 => ?_)
    refine wm_aload_n 0 hX dX9_stands_131 rfl rfl ?_
    refine wm_gI hX fl_RX9_211 dX9_stands_132 (fun v3 => ?_)
    refine wm_ldL hX dX9_stands_135 (fun v4 => ?_)
    refine wm_goto (tgt := 140) hX dX9_stands_136 (by decide) ?_
    refine wm_stL hX dX9_stands_140 ?_
    exact wm_vret hX hr dX9_stands_141
set_option maxRecDepth 20000 in
theorem wb_Md_stands_2 {X : CX Unit} (hX : Cx X RX9 cX9_stands 3 rm_Md_stands) (hr : Rt X injV none rm_Md_stands.cells rm_Md_stands.slots) (hz : Zx X false) {k2 : Nat → Int32 → Int32 → M Unit} (h2 : ∀ (a0 : Nat) (i1 : Int32) (i2 : Int32), WM X 2 [(0, .ref a0), (1, .int i1), (2, .int i2)] [] 0 0 (k2 a0 i1 i2)) (a0 : Nat) (i1 : Int32) (i2 : Int32) : WM X 2 [(0, .ref a0), (1, .int i1), (2, .int i2)] [] 0 0 (b_Md_stands_2 k2 a0 i1 i2) := by
  unfold b_Md_stands_2
  refine wm_iload_n 2 hX dX9_stands_2 rfl rfl ?_
  refine wm_iconst (5 : Int32) hX dX9_stands_3 (by decide) ?_
  refine wm_icmp_ge 85 hX dX9_stands_4 (by decide) ?_ ?_
  · refine wm_aload_n 0 hX dX9_stands_85 rfl rfl ?_
    refine wm_gR hX fl_RX9_63 dX9_stands_86 (fun v1 => ?_)
    refine wm_bipush (12 : Int32) hX dX9_stands_89 (by decide) ?_
    refine wm_iload_n 1 hX dX9_stands_91 rfl rfl ?_
    refine wm_imul hX dX9_stands_92 ?_
    refine wm_bipush (10 : Int32) hX dX9_stands_93 (by decide) ?_
    refine wm_iadd hX dX9_stands_95 ?_
    refine wm_aload_n 0 hX dX9_stands_96 rfl rfl ?_
    refine wm_gI hX fl_RX9_173 dX9_stands_97 (fun v2 => ?_)
    refine wm_if_le 110 hX dX9_stands_100 (by decide) ?_ ?_
    · refine wm_lconst (0 : Int64) hX dX9_stands_110 (by decide) ?_
      refine wm_sub [0, 1] [(0, .ref a0), (1, .int i1)] rfl ?_
      exact w_Md_stands_111 hX hr hz a0 i1 (0 : Int64) (((12 : Int32) * i1) + (10 : Int32)) v1
    · refine wm_aload_n 0 hX dX9_stands_103 rfl rfl ?_
      refine wm_gL hX fl_RX9_183 dX9_stands_104 (fun v3 => ?_)
      refine wm_goto (tgt := 111) hX dX9_stands_107 (by decide) ?_
      refine wm_sub [0, 1] [(0, .ref a0), (1, .int i1)] rfl ?_
      exact w_Md_stands_111 hX hr hz a0 i1 v3 (((12 : Int32) * i1) + (10 : Int32)) v1
  · refine wm_aload_n 0 hX dX9_stands_7 rfl rfl ?_
    refine wm_gR hX fl_RX9_63 dX9_stands_8 (fun v4 => ?_)
    refine wm_bipush (12 : Int32) hX dX9_stands_11 (by decide) ?_
    refine wm_iload_n 1 hX dX9_stands_13 rfl rfl ?_
    refine wm_imul hX dX9_stands_14 ?_
    refine wm_iconst (2 : Int32) hX dX9_stands_15 (by decide) ?_
    refine wm_iload_n 2 hX dX9_stands_16 rfl rfl ?_
    refine wm_imul hX dX9_stands_17 ?_
    refine wm_iadd hX dX9_stands_18 ?_
    refine wm_iload_n 2 hX dX9_stands_19 rfl rfl ?_
    refine wm_aload_n 0 hX dX9_stands_20 rfl rfl ?_
    refine wm_gI hX fl_RX9_160 dX9_stands_21 (fun v5 => ?_)
    refine wm_icmp_ge 39 hX dX9_stands_24 (by decide) ?_ ?_
    · refine wm_lconst (0 : Int64) hX dX9_stands_39 (by decide) ?_
      exact w_Md_stands_40 hX hr hz h2 a0 i1 i2 (0 : Int64) (((12 : Int32) * i1) + ((2 : Int32) * i2)) v4
    · refine wm_aload_n 0 hX dX9_stands_27 rfl rfl ?_
      refine wm_gR hX fl_RX9_51 dX9_stands_28 (fun v6 => ?_)
      refine wm_bipush (6 : Int32) hX dX9_stands_31 (by decide) ?_
      refine wm_iload_n 2 hX dX9_stands_33 rfl rfl ?_
      refine wm_imul hX dX9_stands_34 ?_
      refine wm_ldL hX dX9_stands_35 (fun v7 => ?_)
      refine wm_goto (tgt := 40) hX dX9_stands_36 (by decide) ?_
      exact w_Md_stands_40 hX hr hz h2 a0 i1 i2 v7 (((12 : Int32) * i1) + ((2 : Int32) * i2)) v4
theorem wl_Md_stands_2 {X : CX Unit} (hX : Cx X RX9 cX9_stands 3 rm_Md_stands) (hr : Rt X injV none rm_Md_stands.cells rm_Md_stands.slots) (hz : Zx X false) : ∀ (n : Nat) (a0 : Nat) (i1 : Int32) (i2 : Int32), WM X 2 [(0, .ref a0), (1, .int i1), (2, .int i2)] [] 0 0 (l_Md_stands_2 n a0 i1 i2)
  | 0, _, _, _ => wm_fl
  | n + 1, a0, i1, i2 => wb_Md_stands_2 hX hr hz (wl_Md_stands_2 hX hr hz n) a0 i1 i2
set_option maxRecDepth 20000 in
theorem w_Md_stands {X : CX Unit} (hX : Cx X RX9 cX9_stands 3 rm_Md_stands) (hr : Rt X injV none rm_Md_stands.cells rm_Md_stands.slots) (hz : Zx X false) (a0 : Nat) (i1 : Int32) : WM X 0 [(0, .ref a0), (1, .int i1)] [] 0 0 (m_Md_stands a0 i1) := by
  unfold m_Md_stands
  refine wm_ckd ?_
  refine wm_iconst (0 : Int32) hX dX9_stands_0 (by decide) ?_
  refine wm_istore_n [(2, .int (0 : Int32)), (0, .ref a0), (1, .int i1)] hX dX9_stands_1 rfl (by decide) rfl ?_
  refine wm_sub [1, 2, 0] [(0, .ref a0), (1, .int i1), (2, .int (0 : Int32))] rfl ?_
  exact wl_Md_stands_2 hX hr hz FU a0 i1 (0 : Int32)
theorem i_Md_stands (a0 : Nat) (i1 : Int32) : Im false yX9_stands cX9_stands 3 none rm_Md_stands injV [.ref a0, .int i1] (m_Md_stands a0 i1) := Im.of RX9 (by decide) rfl (Nat.le_of_ble_eq_true rfl) (fun X hX hr hn hz => w_Md_stands hX hr hz a0 i1)
set_option maxRecDepth 20000 in
theorem wb_Md_isAlike_5 {X : CX Int32} (hX : Cx X RX9 cX9_isAlike 5 rm_Md_isAlike) (hr : Rt X injI (some .boolean) rm_Md_isAlike.cells rm_Md_isAlike.slots) (hz : Zx X false) {k5 : Nat → Int32 → Int32 → Int32 → Int32 → M Int32} (h5 : ∀ (a0 : Nat) (i1 : Int32) (i2 : Int32) (i3 : Int32) (i4 : Int32), WM X 5 [(0, .ref a0), (1, .int i1), (2, .int i2), (3, .int i3), (4, .int i4)] [] 0 0 (k5 a0 i1 i2 i3 i4)) (a0 : Nat) (i1 : Int32) (i2 : Int32) (i3 : Int32) (i4 : Int32) : WM X 5 [(0, .ref a0), (1, .int i1), (2, .int i2), (3, .int i3), (4, .int i4)] [] 0 0 (b_Md_isAlike_5 k5 a0 i1 i2 i3 i4) := by
  unfold b_Md_isAlike_5
  refine wm_iload 4 hX dX9_isAlike_5 rfl ?_
  refine wm_bipush (11 : Int32) hX dX9_isAlike_7 (by decide) ?_
  refine wm_icmp_ge 54 hX dX9_isAlike_9 (by decide) ?_ ?_
  · refine wm_iload_n 3 hX dX9_isAlike_54 rfl rfl ?_
    exact wm_zret hX hr dX9_isAlike_55
  · refine wm_iload_n 3 hX dX9_isAlike_12 rfl rfl ?_
    refine wm_aload_n 0 hX dX9_isAlike_13 rfl rfl ?_
    refine wm_gR hX fl_RX9_63 dX9_isAlike_14 (fun v1 => ?_)
    refine wm_bipush (12 : Int32) hX dX9_isAlike_17 (by decide) ?_
    refine wm_iload_n 1 hX dX9_isAlike_19 rfl rfl ?_
    refine wm_imul hX dX9_isAlike_20 ?_
    refine wm_iload 4 hX dX9_isAlike_21 rfl ?_
    refine wm_iadd hX dX9_isAlike_23 ?_
    refine wm_ldL hX dX9_isAlike_24 (fun v2 => ?_)
    refine wm_aload_n 0 hX dX9_isAlike_25 rfl rfl ?_
    refine wm_gR hX fl_RX9_63 dX9_isAlike_26 (fun v3 => ?_)
    refine wm_bipush (12 : Int32) hX dX9_isAlike_29 (by decide) ?_
    refine wm_iload_n 2 hX dX9_isAlike_31 rfl rfl ?_
    refine wm_imul hX dX9_isAlike_32 ?_
    refine wm_iload 4 hX dX9_isAlike_33 rfl ?_
    refine wm_iadd hX dX9_isAlike_35 ?_
    refine wm_ldL hX dX9_isAlike_36 (fun v4 => ?_)
    refine wm_lif_ne 45 hX dX9_isAlike_37 dX9_isAlike_38 (by decide) ?_ ?_
    · refine wm_iconst (0 : Int32) hX dX9_isAlike_45 (by decide) ?_
      refine wm_iand hX dX9_isAlike_46 ?_
      refine wm_leti (fun v5 => ?_)
      refine wm_istore_n [(3, .int v5), (0, .ref a0), (1, .int i1), (2, .int i2), (4, .int i4)] hX dX9_isAlike_47 rfl (by decide) rfl ?_
      refine wm_iinc (i4 + 1) 4 [(4, .int (i4 + 1)), (3, .int v5), (0, .ref a0), (1, .int i1), (2, .int i2)] hX dX9_isAlike_48 rfl rfl (by decide) rfl ?_
      refine wm_goto (tgt := 5) hX dX9_isAlike_51 (by decide) ?_
      refine wm_sub [2, 3, 4, 1, 0] [(0, .ref a0), (1, .int i1), (2, .int i2), (3, .int v5), (4, .int (i4 + 1))] rfl ?_
      exact h5 a0 i1 i2 v5 (i4 + 1)
    · refine wm_iconst (1 : Int32) hX dX9_isAlike_41 (by decide) ?_
      refine wm_goto (tgt := 46) hX dX9_isAlike_42 (by decide) ?_
      refine wm_iand hX dX9_isAlike_46 ?_
      refine wm_leti (fun v6 => ?_)
      refine wm_istore_n [(3, .int v6), (0, .ref a0), (1, .int i1), (2, .int i2), (4, .int i4)] hX dX9_isAlike_47 rfl (by decide) rfl ?_
      refine wm_iinc (i4 + 1) 4 [(4, .int (i4 + 1)), (3, .int v6), (0, .ref a0), (1, .int i1), (2, .int i2)] hX dX9_isAlike_48 rfl rfl (by decide) rfl ?_
      refine wm_goto (tgt := 5) hX dX9_isAlike_51 (by decide) ?_
      refine wm_sub [2, 3, 4, 1, 0] [(0, .ref a0), (1, .int i1), (2, .int i2), (3, .int v6), (4, .int (i4 + 1))] rfl ?_
      exact h5 a0 i1 i2 v6 (i4 + 1)
theorem wl_Md_isAlike_5 {X : CX Int32} (hX : Cx X RX9 cX9_isAlike 5 rm_Md_isAlike) (hr : Rt X injI (some .boolean) rm_Md_isAlike.cells rm_Md_isAlike.slots) (hz : Zx X false) : ∀ (n : Nat) (a0 : Nat) (i1 : Int32) (i2 : Int32) (i3 : Int32) (i4 : Int32), WM X 5 [(0, .ref a0), (1, .int i1), (2, .int i2), (3, .int i3), (4, .int i4)] [] 0 0 (l_Md_isAlike_5 n a0 i1 i2 i3 i4)
  | 0, _, _, _, _, _ => wm_fl
  | n + 1, a0, i1, i2, i3, i4 => wb_Md_isAlike_5 hX hr hz (wl_Md_isAlike_5 hX hr hz n) a0 i1 i2 i3 i4
set_option maxRecDepth 20000 in
theorem w_Md_isAlike {X : CX Int32} (hX : Cx X RX9 cX9_isAlike 5 rm_Md_isAlike) (hr : Rt X injI (some .boolean) rm_Md_isAlike.cells rm_Md_isAlike.slots) (hz : Zx X false) (a0 : Nat) (i1 : Int32) (i2 : Int32) : WM X 0 [(0, .ref a0), (1, .int i1), (2, .int i2)] [] 0 0 (m_Md_isAlike a0 i1 i2) := by
  unfold m_Md_isAlike
  refine wm_ckd ?_
  refine wm_iconst (1 : Int32) hX dX9_isAlike_0 (by decide) ?_
  refine wm_istore_n [(3, .int (1 : Int32)), (0, .ref a0), (1, .int i1), (2, .int i2)] hX dX9_isAlike_1 rfl (by decide) rfl ?_
  refine wm_iconst (0 : Int32) hX dX9_isAlike_2 (by decide) ?_
  refine wm_istore [(4, .int (0 : Int32)), (3, .int (1 : Int32)), (0, .ref a0), (1, .int i1), (2, .int i2)] hX dX9_isAlike_3 (by decide) rfl ?_
  refine wm_sub [2, 3, 4, 1, 0] [(0, .ref a0), (1, .int i1), (2, .int i2), (3, .int (1 : Int32)), (4, .int (0 : Int32))] rfl ?_
  exact wl_Md_isAlike_5 hX hr hz FU a0 i1 i2 (1 : Int32) (0 : Int32)
theorem i_Md_isAlike (a0 : Nat) (i1 : Int32) (i2 : Int32) : Im false yX9_isAlike cX9_isAlike 5 (some .boolean) rm_Md_isAlike injI [.ref a0, .int i1, .int i2] (m_Md_isAlike a0 i1 i2) := Im.of RX9 (by decide) rfl (Nat.le_of_ble_eq_true rfl) (fun X hX hr hn hz => w_Md_isAlike hX hr hz a0 i1 i2)
set_option maxRecDepth 20000 in
theorem wb_Md_hold_112 {X : CX Int32} (hX : Cx X RX9 cX9_hold 7 rm_Md_hold) (hr : Rt X injI (some .int) rm_Md_hold.cells rm_Md_hold.slots) (hz : Zx X false) {k112 : Nat → Int32 → Int32 → Int32 → M Int32} (h112 : ∀ (a0 : Nat) (i4 : Int32) (i5 : Int32) (i6 : Int32), WM X 112 [(0, .ref a0), (4, .int i4), (5, .int i5), (6, .int i6)] [] 0 0 (k112 a0 i4 i5 i6)) (a0 : Nat) (i4 : Int32) (i5 : Int32) (i6 : Int32) : WM X 112 [(0, .ref a0), (4, .int i4), (5, .int i5), (6, .int i6)] [] 0 0 (b_Md_hold_112 k112 a0 i4 i5 i6) := by
  unfold b_Md_hold_112
  refine wm_iload 3 hX dX9_hold_112 rfl ?_
  refine wm_iload 1 hX dX9_hold_114 rfl ?_
  refine wm_icmp_gt 147 hX dX9_hold_116 (by decide) ?_ ?_
  · refine wm_iload 2 hX dX9_hold_147 rfl ?_
    exact wm_iret hX hr dX9_hold_149
  · refine wm_aload_n 0 hX dX9_hold_119 rfl rfl ?_
    refine wm_gR hX fl_RX9_66 dX9_hold_120 (fun v1 => ?_)
    refine wm_iconst (2 : Int32) hX dX9_hold_123 (by decide) ?_
    refine wm_dup2 hX dX9_hold_124 rfl rfl ?_
    refine wm_ldL hX dX9_hold_125 (fun v2 => ?_)
    refine wm_aload_n 0 hX dX9_hold_126 rfl rfl ?_
    refine wm_gR hX fl_RX9_63 dX9_hold_127 (fun v3 => ?_)
    refine wm_bipush (12 : Int32) hX dX9_hold_130 (by decide) ?_
    refine wm_iload 3 hX dX9_hold_132 rfl ?_
    refine wm_imul hX dX9_hold_134 ?_
    refine wm_bipush (11 : Int32) hX dX9_hold_135 (by decide) ?_
    refine wm_iadd hX dX9_hold_137 ?_
    refine wm_ldL hX dX9_hold_138 (fun v4 => ?_)
    refine wm_ladd hX dX9_hold_139 ?_
    refine wm_stL hX dX9_hold_140 ?_
    refine wm_iinc (i6 + 1) 3 [(6, .int (i6 + 1)), (0, .ref a0), (4, .int i4), (5, .int i5)] hX dX9_hold_141 rfl rfl (by decide) rfl ?_
    refine wm_goto (tgt := 112) hX dX9_hold_144 (by decide) ?_
    refine wm_sub [1, 2, 3, 0] [(0, .ref a0), (4, .int i4), (5, .int i5), (6, .int (i6 + 1))] rfl ?_
    exact h112 a0 i4 i5 (i6 + 1)
theorem wl_Md_hold_112 {X : CX Int32} (hX : Cx X RX9 cX9_hold 7 rm_Md_hold) (hr : Rt X injI (some .int) rm_Md_hold.cells rm_Md_hold.slots) (hz : Zx X false) : ∀ (n : Nat) (a0 : Nat) (i4 : Int32) (i5 : Int32) (i6 : Int32), WM X 112 [(0, .ref a0), (4, .int i4), (5, .int i5), (6, .int i6)] [] 0 0 (l_Md_hold_112 n a0 i4 i5 i6)
  | 0, _, _, _, _ => wm_fl
  | n + 1, a0, i4, i5, i6 => wb_Md_hold_112 hX hr hz (wl_Md_hold_112 hX hr hz n) a0 i4 i5 i6
set_option maxRecDepth 20000 in
theorem wb_Md_hold_60 {X : CX Int32} (hX : Cx X RX9 cX9_hold 7 rm_Md_hold) (hr : Rt X injI (some .int) rm_Md_hold.cells rm_Md_hold.slots) (hz : Zx X false) {k34 : Nat → Int64 → Int32 → Int32 → M Int32} (h34 : ∀ (a0 : Nat) (l1 : Int64) (i3 : Int32) (i4 : Int32), WM X 34 [(0, .ref a0), (1, .long l1), (3, .int i3), (4, .int i4)] [] 0 0 (k34 a0 l1 i3 i4)) {k60 : Nat → Int64 → Int32 → Int32 → Int32 → M Int32} (h60 : ∀ (a0 : Nat) (l1 : Int64) (i3 : Int32) (i4 : Int32) (i5 : Int32), WM X 60 [(0, .ref a0), (1, .long l1), (3, .int i3), (4, .int i4), (5, .int i5)] [] 0 0 (k60 a0 l1 i3 i4 i5)) (a0 : Nat) (l1 : Int64) (i3 : Int32) (i4 : Int32) (i5 : Int32) : WM X 60 [(0, .ref a0), (1, .long l1), (3, .int i3), (4, .int i4), (5, .int i5)] [] 0 0 (b_Md_hold_60 k34 k60 a0 l1 i3 i4 i5) := by
  unfold b_Md_hold_60
  refine wm_iload 4 hX dX9_hold_60 rfl ?_
  refine wm_iload 3 hX dX9_hold_62 rfl ?_
  refine wm_icmp_ge 156 hX dX9_hold_64 (by decide) ?_ ?_
  · refine wm_iinc (i4 + 1) 3 [(4, .int (i4 + 1)), (0, .ref a0), (1, .long l1), (3, .int i3), (5, .int i5)] hX dX9_hold_156 rfl rfl (by decide) rfl ?_
    refine wm_goto (tgt := 34) hX dX9_hold_159 (by decide) ?_
    refine wm_sub [1, 2, 3, 0] [(0, .ref a0), (1, .long l1), (3, .int i3), (4, .int (i4 + 1))] rfl ?_
    exact h34 a0 l1 i3 (i4 + 1)
  · refine wm_aload_n 0 hX dX9_hold_67 rfl rfl ?_
    refine wm_iload 4 hX dX9_hold_68 rfl ?_
    refine wm_iload 3 hX dX9_hold_70 rfl ?_
    refine wm_cVi (st := []) hX hz (i_Md_isAlike a0 i5 i4) Ckd.of rfl cal_Md_isAlike wd_1094 rfl (fits_Md_hold_Md_isAlike) (Nat.le_of_ble_eq_true rfl) dX9_hold_72 (fun v1 => ?_)
    refine wm_if_eq 150 hX dX9_hold_75 (by decide) ?_ ?_
    · refine wm_iinc (i5 + 1) 4 [(5, .int (i5 + 1)), (0, .ref a0), (1, .long l1), (3, .int i3), (4, .int i4)] hX dX9_hold_150 rfl rfl (by decide) rfl ?_
      refine wm_goto (tgt := 60) hX dX9_hold_153 (by decide) ?_
      refine wm_sub [1, 2, 3, 4, 0] [(0, .ref a0), (1, .long l1), (3, .int i3), (4, .int i4), (5, .int (i5 + 1))] rfl ?_
      exact h60 a0 l1 i3 i4 (i5 + 1)
    · refine wm_aload_n 0 hX dX9_hold_78 rfl rfl ?_
      refine wm_gR hX fl_RX9_66 dX9_hold_79 (fun v2 => ?_)
      refine wm_iconst (0 : Int32) hX dX9_hold_82 (by decide) ?_
      refine wm_iload 4 hX dX9_hold_83 rfl ?_
      refine wm_i2l hX dX9_hold_85 ?_
      refine wm_stL hX dX9_hold_86 ?_
      refine wm_aload_n 0 hX dX9_hold_87 rfl rfl ?_
      refine wm_gR hX fl_RX9_66 dX9_hold_88 (fun v3 => ?_)
      refine wm_iconst (1 : Int32) hX dX9_hold_91 (by decide) ?_
      refine wm_iload 3 hX dX9_hold_92 rfl ?_
      refine wm_iload 4 hX dX9_hold_94 rfl ?_
      refine wm_isub hX dX9_hold_96 ?_
      refine wm_i2l hX dX9_hold_97 ?_
      refine wm_stL hX dX9_hold_98 ?_
      refine wm_aload_n 0 hX dX9_hold_99 rfl rfl ?_
      refine wm_gR hX fl_RX9_66 dX9_hold_100 (fun v4 => ?_)
      refine wm_iconst (2 : Int32) hX dX9_hold_103 (by decide) ?_
      refine wm_lconst (0 : Int64) hX dX9_hold_104 (by decide) ?_
      refine wm_stL hX dX9_hold_105 ?_
      refine wm_iload 4 hX dX9_hold_106 rfl ?_
      refine wm_iconst (1 : Int32) hX dX9_hold_108 (by decide) ?_
      refine wm_iadd hX dX9_hold_109 ?_
      refine wm_leti (fun v5 => ?_)
      refine wm_istore [(6, .int v5), (0, .ref a0), (1, .long l1), (3, .int i3), (4, .int i4), (5, .int i5)] hX dX9_hold_110 (by decide) rfl ?_
      refine wm_sub [1, 4, 5, 0] [(0, .ref a0), (4, .int i4), (5, .int i5), (6, .int v5)] rfl ?_
      exact wl_Md_hold_112 hX hr hz FU a0 i4 i5 v5
theorem wl_Md_hold_60 {X : CX Int32} (hX : Cx X RX9 cX9_hold 7 rm_Md_hold) (hr : Rt X injI (some .int) rm_Md_hold.cells rm_Md_hold.slots) (hz : Zx X false) {k34 : Nat → Int64 → Int32 → Int32 → M Int32} (h34 : ∀ (a0 : Nat) (l1 : Int64) (i3 : Int32) (i4 : Int32), WM X 34 [(0, .ref a0), (1, .long l1), (3, .int i3), (4, .int i4)] [] 0 0 (k34 a0 l1 i3 i4)) : ∀ (n : Nat) (a0 : Nat) (l1 : Int64) (i3 : Int32) (i4 : Int32) (i5 : Int32), WM X 60 [(0, .ref a0), (1, .long l1), (3, .int i3), (4, .int i4), (5, .int i5)] [] 0 0 (l_Md_hold_60 k34 n a0 l1 i3 i4 i5)
  | 0, _, _, _, _, _ => wm_fl
  | n + 1, a0, l1, i3, i4, i5 => wb_Md_hold_60 hX hr hz h34 (wl_Md_hold_60 hX hr hz h34 n) a0 l1 i3 i4 i5
set_option maxRecDepth 20000 in
theorem wb_Md_hold_34 {X : CX Int32} (hX : Cx X RX9 cX9_hold 7 rm_Md_hold) (hr : Rt X injI (some .int) rm_Md_hold.cells rm_Md_hold.slots) (hz : Zx X false) {k34 : Nat → Int64 → Int32 → Int32 → M Int32} (h34 : ∀ (a0 : Nat) (l1 : Int64) (i3 : Int32) (i4 : Int32), WM X 34 [(0, .ref a0), (1, .long l1), (3, .int i3), (4, .int i4)] [] 0 0 (k34 a0 l1 i3 i4)) (a0 : Nat) (l1 : Int64) (i3 : Int32) (i4 : Int32) : WM X 34 [(0, .ref a0), (1, .long l1), (3, .int i3), (4, .int i4)] [] 0 0 (b_Md_hold_34 k34 a0 l1 i3 i4) := by
  unfold b_Md_hold_34
  refine wm_iload 3 hX dX9_hold_34 rfl ?_
  refine wm_iload_n 2 hX dX9_hold_36 rfl rfl ?_
  refine wm_icmp_gt 162 hX dX9_hold_37 (by decide) ?_ ?_
  · refine wm_bipush (-5 : Int32) hX dX9_hold_162 (by decide) ?_
    exact wm_iret hX hr dX9_hold_164
  · refine wm_aload_n 0 hX dX9_hold_40 rfl rfl ?_
    refine wm_lload_n 1 hX dX9_hold_41 rfl rfl ?_
    refine wm_cVi (st := []) hX hz (i_Md_tries a0 l1) Ckd.of rfl cal_Md_tries wd_987 rfl (fits_Md_hold_Md_tries) (Nat.le_of_ble_eq_true rfl) dX9_hold_42 (fun v1 => ?_)
    refine wm_if_ne 51 hX dX9_hold_45 (by decide) ?_ ?_
    · refine wm_aload_n 0 hX dX9_hold_51 rfl rfl ?_
      refine wm_iload 3 hX dX9_hold_52 rfl ?_
      refine wm_cVv (st := []) hX hz (i_Md_stands a0 i4) Ckd.of rfl cal_Md_stands wd_1090 rfl (fits_Md_hold_Md_stands) (Nat.le_of_ble_eq_true rfl) dX9_hold_54 ?_
      refine wm_iconst (0 : Int32) hX dX9_hold_57 (by decide) ?_
      refine wm_istore [(5, .int (0 : Int32)), (0, .ref a0), (1, .long l1), (3, .int i3), (4, .int i4)] hX dX9_hold_58 (by decide) rfl ?_
      refine wm_sub [1, 2, 3, 4, 0] [(0, .ref a0), (1, .long l1), (3, .int i3), (4, .int i4), (5, .int (0 : Int32))] rfl ?_
      exact wl_Md_hold_60 hX hr hz h34 FU a0 l1 i3 i4 (0 : Int32)
    · refine wm_bipush (-6 : Int32) hX dX9_hold_48 (by decide) ?_
      exact wm_iret hX hr dX9_hold_50
theorem wl_Md_hold_34 {X : CX Int32} (hX : Cx X RX9 cX9_hold 7 rm_Md_hold) (hr : Rt X injI (some .int) rm_Md_hold.cells rm_Md_hold.slots) (hz : Zx X false) : ∀ (n : Nat) (a0 : Nat) (l1 : Int64) (i3 : Int32) (i4 : Int32), WM X 34 [(0, .ref a0), (1, .long l1), (3, .int i3), (4, .int i4)] [] 0 0 (l_Md_hold_34 n a0 l1 i3 i4)
  | 0, _, _, _, _ => wm_fl
  | n + 1, a0, l1, i3, i4 => wb_Md_hold_34 hX hr hz (wl_Md_hold_34 hX hr hz n) a0 l1 i3 i4
set_option maxRecDepth 20000 in
theorem w_Md_hold {X : CX Int32} (hX : Cx X RX9 cX9_hold 7 rm_Md_hold) (hr : Rt X injI (some .int) rm_Md_hold.cells rm_Md_hold.slots) (hz : Zx X false) (a0 : Nat) (l1 : Int64) (i3 : Int32) : WM X 0 [(0, .ref a0), (1, .long l1), (3, .int i3)] [] 0 0 (m_Md_hold a0 l1 i3) := by
  unfold m_Md_hold
  refine wm_ckd ?_
  refine wm_lload_n 1 hX dX9_hold_0 rfl rfl ?_
  refine wm_cSi (st := []) hX hz (i_Md_isSample l1) cal_Md_isSample wd_963 rfl (fits_Md_hold_Md_isSample) (Nat.le_of_ble_eq_true rfl) dX9_hold_1 (fun v1 => ?_)
  refine wm_if_eq 19 hX dX9_hold_4 (by decide) ?_ ?_
  · refine wm_bipush (-2 : Int32) hX dX9_hold_19 (by decide) ?_
    exact wm_iret hX hr dX9_hold_21
  · refine wm_iload_n 2 hX dX9_hold_7 rfl rfl ?_
    refine wm_i2l hX dX9_hold_8 ?_
    refine wm_lconst (1 : Int64) hX dX9_hold_9 (by decide) ?_
    refine wm_ldc2 hX dX9_hold_10 wd_1089 ?_
    refine wm_cSi (st := []) hX hz (i_Md_in (i3.toInt64) (1 : Int64) (400 : Int64)) cal_Md_in wd_896 rfl (fits_Md_hold_Md_in) (Nat.le_of_ble_eq_true rfl) dX9_hold_13 (fun v2 => ?_)
    refine wm_if_ne 22 hX dX9_hold_16 (by decide) ?_ ?_
    · refine wm_aload_n 0 hX dX9_hold_22 rfl rfl ?_
      refine wm_cVv (st := []) hX hz (i_Md_take a0) Ckd.of rfl cal_Md_take wd_983 rfl (fits_Md_hold_Md_take) (Nat.le_of_ble_eq_true rfl) dX9_hold_23 ?_
      refine wm_aload_n 0 hX dX9_hold_26 rfl rfl ?_
      refine wm_iconst (0 : Int32) hX dX9_hold_27 (by decide) ?_
      refine wm_cVv (st := []) hX hz (i_Md_stands a0 (0 : Int32)) Ckd.of rfl cal_Md_stands wd_1090 rfl (fits_Md_hold_Md_stands) (Nat.le_of_ble_eq_true rfl) dX9_hold_28 ?_
      refine wm_iconst (1 : Int32) hX dX9_hold_31 (by decide) ?_
      refine wm_istore [(4, .int (1 : Int32)), (0, .ref a0), (1, .long l1), (3, .int i3)] hX dX9_hold_32 (by decide) rfl ?_
      refine wm_sub [1, 2, 3, 0] [(0, .ref a0), (1, .long l1), (3, .int i3), (4, .int (1 : Int32))] rfl ?_
      exact wl_Md_hold_34 hX hr hz FU a0 l1 i3 (1 : Int32)
    · refine wm_bipush (-2 : Int32) hX dX9_hold_19 (by decide) ?_
      exact wm_iret hX hr dX9_hold_21
theorem i_Md_hold (a0 : Nat) (l1 : Int64) (i3 : Int32) : Im false yX9_hold cX9_hold 7 (some .int) rm_Md_hold injI [.ref a0, .long l1, .int i3] (m_Md_hold a0 l1 i3) := Im.of RX9 (by decide) rfl (Nat.le_of_ble_eq_true rfl) (fun X hX hr hn hz => w_Md_hold hX hr hz a0 l1 i3)
set_option maxRecDepth 20000 in
theorem w_Ob_held {X : CX Int64} (hX : Cx X RX8 cX8_held 2 rm_Ob_held) (hr : Rt X injL (some .long) rm_Ob_held.cells rm_Ob_held.slots) (hz : Zx X false) (a0 : Nat) (i1 : Int32) : WM X 0 [(0, .ref a0), (1, .int i1)] [] 0 0 (m_Ob_held a0 i1) := by
  unfold m_Ob_held
  refine wm_ckd ?_
  refine wm_iload_n 1 hX dX8_held_0 rfl rfl ?_
  refine wm_tsw [28, 37, 46] 54 hX dX8_held_1 (by decide) (by decide) (by decide) ⟨?_, ?_, ?_, trivial⟩ ?_
  · refine wm_aload_n 0 hX dX8_held_28 rfl rfl ?_
    refine wm_gR hX fl_RX8_38 dX8_held_29 (fun v1 => ?_)
    refine wm_gI hX fl_RX8_237 dX8_held_32 (fun v2 => ?_)
    refine wm_i2l hX dX8_held_35 ?_
    exact wm_lret hX hr dX8_held_36
  · refine wm_aload_n 0 hX dX8_held_37 rfl rfl ?_
    refine wm_gR hX fl_RX8_38 dX8_held_38 (fun v3 => ?_)
    refine wm_gI hX fl_RX8_240 dX8_held_41 (fun v4 => ?_)
    refine wm_i2l hX dX8_held_44 ?_
    exact wm_lret hX hr dX8_held_45
  · refine wm_aload_n 0 hX dX8_held_46 rfl rfl ?_
    refine wm_gR hX fl_RX8_38 dX8_held_47 (fun v5 => ?_)
    refine wm_gL hX fl_RX8_243 dX8_held_50 (fun v6 => ?_)
    exact wm_lret hX hr dX8_held_53
  · refine wm_ldc2 hX dX8_held_54 wd_582 ?_
    exact wm_lret hX hr dX8_held_57
theorem i_Ob_held (a0 : Nat) (i1 : Int32) : Im false yX8_held cX8_held 2 (some .long) rm_Ob_held injL [.ref a0, .int i1] (m_Ob_held a0 i1) := Im.of RX8 (by decide) rfl (Nat.le_of_ble_eq_true rfl) (fun X hX hr hn hz => w_Ob_held hX hr hz a0 i1)
set_option maxRecDepth 20000 in
theorem w_Md_held {X : CX Int64} (hX : Cx X RX9 cX9_held 2 rm_Md_held) (hr : Rt X injL (some .long) rm_Md_held.cells rm_Md_held.slots) (hz : Zx X false) (a0 : Nat) (i1 : Int32) : WM X 0 [(0, .ref a0), (1, .int i1)] [] 0 0 (m_Md_held a0 i1) := by
  unfold m_Md_held
  refine wm_ckd ?_
  refine wm_iload_n 1 hX dX9_held_0 rfl rfl ?_
  refine wm_i2l hX dX9_held_1 ?_
  refine wm_lconst (0 : Int64) hX dX9_held_2 (by decide) ?_
  refine wm_ldc2 hX dX9_held_3 wd_961 ?_
  refine wm_cSi (st := []) hX hz (i_Md_in (i1.toInt64) (0 : Int64) (2 : Int64)) cal_Md_in wd_896 rfl (fits_Md_held_Md_in) (Nat.le_of_ble_eq_true rfl) dX9_held_6 (fun v1 => ?_)
  refine wm_if_eq 21 hX dX9_held_9 (by decide) ?_ ?_
  · refine wm_ldc2 hX dX9_held_21 wd_1045 ?_
    exact wm_lret hX hr dX9_held_24
  · refine wm_aload_n 0 hX dX9_held_12 rfl rfl ?_
    refine wm_gR hX fl_RX9_66 dX9_held_13 (fun v2 => ?_)
    refine wm_iload_n 1 hX dX9_held_16 rfl rfl ?_
    refine wm_ldL hX dX9_held_17 (fun v3 => ?_)
    refine wm_goto (tgt := 24) hX dX9_held_18 (by decide) ?_
    exact wm_lret hX hr dX9_held_24
theorem i_Md_held (a0 : Nat) (i1 : Int32) : Im false yX9_held cX9_held 2 (some .long) rm_Md_held injL [.ref a0, .int i1] (m_Md_held a0 i1) := Im.of RX9 (by decide) rfl (Nat.le_of_ble_eq_true rfl) (fun X hX hr hn hz => w_Md_held hX hr hz a0 i1)
set_option maxRecDepth 20000 in
theorem wb_Ob_isReachable_36 {X : CX Int32} (hX : Cx X RX8 cX8_isReachable 2 rm_Ob_isReachable) (hr : Rt X injI (some .boolean) rm_Ob_isReachable.cells rm_Ob_isReachable.slots) (hz : Zx X false) {k36 : Nat → Int32 → M Int32} (h36 : ∀ (a0 : Nat) (i1 : Int32), WM X 36 [(0, .ref a0), (1, .int i1)] [] 0 0 (k36 a0 i1)) (a0 : Nat) (i1 : Int32) : WM X 36 [(0, .ref a0), (1, .int i1)] [] 0 0 (b_Ob_isReachable_36 k36 a0 i1) := by
  unfold b_Ob_isReachable_36
  refine wm_iload_n 1 hX dX8_isReachable_36 rfl rfl ?_
  refine wm_aload_n 0 hX dX8_isReachable_37 rfl rfl ?_
  refine wm_gR hX fl_RX8_19 dX8_isReachable_38 (fun v1 => ?_)
  refine wm_gI hX fl_RX8_141 dX8_isReachable_41 (fun v2 => ?_)
  refine wm_icmp_ge 68 hX dX8_isReachable_44 (by decide) ?_ ?_
  · refine wm_iconst (1 : Int32) hX dX8_isReachable_68 (by decide) ?_
    exact wm_zret hX hr dX8_isReachable_69
  · refine wm_aload_n 0 hX dX8_isReachable_47 rfl rfl ?_
    refine wm_gR hX fl_RX8_19 dX8_isReachable_48 (fun v3 => ?_)
    refine wm_gR hX fl_RX8_201 dX8_isReachable_51 (fun v4 => ?_)
    refine wm_iload_n 1 hX dX8_isReachable_54 rfl rfl ?_
    refine wm_ldI hX dX8_isReachable_55 (fun v5 => ?_)
    refine wm_iconst (3 : Int32) hX dX8_isReachable_56 (by decide) ?_
    refine wm_icmp_ne 62 hX dX8_isReachable_57 (by decide) ?_ ?_
    · refine wm_iinc (i1 + 1) 1 [(1, .int (i1 + 1)), (0, .ref a0)] hX dX8_isReachable_62 rfl rfl (by decide) rfl ?_
      refine wm_goto (tgt := 36) hX dX8_isReachable_65 (by decide) ?_
      refine wm_sub [1, 0] [(0, .ref a0), (1, .int (i1 + 1))] rfl ?_
      exact h36 a0 (i1 + 1)
    · refine wm_iconst (0 : Int32) hX dX8_isReachable_60 (by decide) ?_
      exact wm_zret hX hr dX8_isReachable_61
theorem wl_Ob_isReachable_36 {X : CX Int32} (hX : Cx X RX8 cX8_isReachable 2 rm_Ob_isReachable) (hr : Rt X injI (some .boolean) rm_Ob_isReachable.cells rm_Ob_isReachable.slots) (hz : Zx X false) : ∀ (n : Nat) (a0 : Nat) (i1 : Int32), WM X 36 [(0, .ref a0), (1, .int i1)] [] 0 0 (l_Ob_isReachable_36 n a0 i1)
  | 0, _, _ => wm_fl
  | n + 1, a0, i1 => wb_Ob_isReachable_36 hX hr hz (wl_Ob_isReachable_36 hX hr hz n) a0 i1
set_option maxRecDepth 20000 in
theorem w_Ob_isReachable {X : CX Int32} (hX : Cx X RX8 cX8_isReachable 2 rm_Ob_isReachable) (hr : Rt X injI (some .boolean) rm_Ob_isReachable.cells rm_Ob_isReachable.slots) (hz : Zx X false) (a0 : Nat) : WM X 0 [(0, .ref a0)] [] 0 0 (m_Ob_isReachable a0) := by
  unfold m_Ob_isReachable
  refine wm_ckd ?_
  refine wm_aload_n 0 hX dX8_isReachable_0 rfl rfl ?_
  refine wm_gR hX fl_RX8_19 dX8_isReachable_1 (fun v1 => ?_)
  refine wm_gI hX fl_RX8_141 dX8_isReachable_4 (fun v2 => ?_)
  refine wm_iconst (1 : Int32) hX dX8_isReachable_7 (by decide) ?_
  refine wm_icmp_lt 32 hX dX8_isReachable_8 (by decide) ?_ ?_
  · refine wm_iconst (0 : Int32) hX dX8_isReachable_32 (by decide) ?_
    exact wm_zret hX hr dX8_isReachable_33
  · refine wm_aload_n 0 hX dX8_isReachable_11 rfl rfl ?_
    refine wm_gR hX fl_RX8_19 dX8_isReachable_12 (fun v3 => ?_)
    refine wm_gI hX fl_RX8_141 dX8_isReachable_15 (fun v4 => ?_)
    refine wm_iconst (2 : Int32) hX dX8_isReachable_18 (by decide) ?_
    refine wm_icmp_gt 32 hX dX8_isReachable_19 (by decide) ?_ ?_
    · refine wm_iconst (0 : Int32) hX dX8_isReachable_32 (by decide) ?_
      exact wm_zret hX hr dX8_isReachable_33
    · refine wm_aload_n 0 hX dX8_isReachable_22 rfl rfl ?_
      refine wm_gR hX fl_RX8_19 dX8_isReachable_23 (fun v5 => ?_)
      refine wm_gI hX fl_RX8_169 dX8_isReachable_26 (fun v6 => ?_)
      refine wm_if_eq 34 hX dX8_isReachable_29 (by decide) ?_ ?_
      · refine wm_iconst (0 : Int32) hX dX8_isReachable_34 (by decide) ?_
        refine wm_istore_n [(1, .int (0 : Int32)), (0, .ref a0)] hX dX8_isReachable_35 rfl (by decide) rfl ?_
        refine wm_sub [1, 0] [(0, .ref a0), (1, .int (0 : Int32))] rfl ?_
        exact wl_Ob_isReachable_36 hX hr hz FU a0 (0 : Int32)
      · refine wm_iconst (0 : Int32) hX dX8_isReachable_32 (by decide) ?_
        exact wm_zret hX hr dX8_isReachable_33
theorem i_Ob_isReachable (a0 : Nat) : Im false yX8_isReachable cX8_isReachable 2 (some .boolean) rm_Ob_isReachable injI [.ref a0] (m_Ob_isReachable a0) := Im.of RX8 (by decide) rfl (Nat.le_of_ble_eq_true rfl) (fun X hX hr hn hz => w_Ob_isReachable hX hr hz a0)
set_option maxRecDepth 20000 in
theorem wb_Sn_restore_2 {X : CX Unit} (hX : Cx X RX4 cX4_restore 4 rm_Sn_restore) (hr : Rt X injV none rm_Sn_restore.cells rm_Sn_restore.slots) (hz : Zx X false) {k2 : Nat → Int32 → Nat → Int32 → M Unit} (h2 : ∀ (a0 : Nat) (i1 : Int32) (a2 : Nat) (i3 : Int32), WM X 2 [(0, .ref a0), (1, .int i1), (2, .ref a2), (3, .int i3)] [] 0 0 (k2 a0 i1 a2 i3)) (a0 : Nat) (i1 : Int32) (a2 : Nat) (i3 : Int32) : WM X 2 [(0, .ref a0), (1, .int i1), (2, .ref a2), (3, .int i3)] [] 0 0 (b_Sn_restore_2 k2 a0 i1 a2 i3) := by
  unfold b_Sn_restore_2
  refine wm_iload_n 3 hX dX4_restore_2 rfl rfl ?_
  refine wm_aload_n 2 hX dX4_restore_3 rfl rfl ?_
  refine wm_gR hX fl_RX4_56 dX4_restore_4 (fun v1 => ?_)
  refine wm_gI hX fl_RX4_62 dX4_restore_7 (fun v2 => ?_)
  refine wm_icmp_ge 73 hX dX4_restore_10 (by decide) ?_ ?_
  · exact wm_vret hX hr dX4_restore_73
  · refine wm_aload_n 2 hX dX4_restore_13 rfl rfl ?_
    refine wm_gR hX fl_RX4_67 dX4_restore_14 (fun v3 => ?_)
    refine wm_iload_n 3 hX dX4_restore_17 rfl rfl ?_
    refine wm_bipush (6 : Int32) hX dX4_restore_18 (by decide) ?_
    refine wm_imul hX dX4_restore_20 ?_
    refine wm_iconst (0 : Int32) hX dX4_restore_21 (by decide) ?_
    refine wm_iadd hX dX4_restore_22 ?_
    refine wm_aload_n 0 hX dX4_restore_23 rfl rfl ?_
    refine wm_gR hX fl_RX4_9 dX4_restore_24 (fun v4 => ?_)
    refine wm_iload_n 1 hX dX4_restore_27 rfl rfl ?_
    refine wm_aload_n 0 hX dX4_restore_28 rfl rfl ?_
    refine wm_gI hX fl_RX4_26 dX4_restore_29 (fun v5 => ?_)
    refine wm_imul hX dX4_restore_32 ?_
    refine wm_iconst (2 : Int32) hX dX4_restore_33 (by decide) ?_
    refine wm_iload_n 3 hX dX4_restore_34 rfl rfl ?_
    refine wm_imul hX dX4_restore_35 ?_
    refine wm_iadd hX dX4_restore_36 ?_
    refine wm_ldL hX dX4_restore_37 (fun v6 => ?_)
    refine wm_stL hX dX4_restore_38 ?_
    refine wm_aload_n 2 hX dX4_restore_39 rfl rfl ?_
    refine wm_gR hX fl_RX4_67 dX4_restore_40 (fun v7 => ?_)
    refine wm_iload_n 3 hX dX4_restore_43 rfl rfl ?_
    refine wm_bipush (6 : Int32) hX dX4_restore_44 (by decide) ?_
    refine wm_imul hX dX4_restore_46 ?_
    refine wm_iconst (1 : Int32) hX dX4_restore_47 (by decide) ?_
    refine wm_iadd hX dX4_restore_48 ?_
    refine wm_aload_n 0 hX dX4_restore_49 rfl rfl ?_
    refine wm_gR hX fl_RX4_9 dX4_restore_50 (fun v8 => ?_)
    refine wm_iload_n 1 hX dX4_restore_53 rfl rfl ?_
    refine wm_aload_n 0 hX dX4_restore_54 rfl rfl ?_
    refine wm_gI hX fl_RX4_26 dX4_restore_55 (fun v9 => ?_)
    refine wm_imul hX dX4_restore_58 ?_
    refine wm_iconst (2 : Int32) hX dX4_restore_59 (by decide) ?_
    refine wm_iload_n 3 hX dX4_restore_60 rfl rfl ?_
    refine wm_imul hX dX4_restore_61 ?_
    refine wm_iadd hX dX4_restore_62 ?_
    refine wm_iconst (1 : Int32) hX dX4_restore_63 (by decide) ?_
    refine wm_iadd hX dX4_restore_64 ?_
    refine wm_ldL hX dX4_restore_65 (fun v10 => ?_)
    refine wm_stL hX dX4_restore_66 ?_
    refine wm_iinc (i3 + 1) 3 [(3, .int (i3 + 1)), (0, .ref a0), (1, .int i1), (2, .ref a2)] hX dX4_restore_67 rfl rfl (by decide) rfl ?_
    refine wm_goto (tgt := 2) hX dX4_restore_70 (by decide) ?_
    refine wm_sub [1, 2, 3, 0] [(0, .ref a0), (1, .int i1), (2, .ref a2), (3, .int (i3 + 1))] rfl ?_
    exact h2 a0 i1 a2 (i3 + 1)
theorem wl_Sn_restore_2 {X : CX Unit} (hX : Cx X RX4 cX4_restore 4 rm_Sn_restore) (hr : Rt X injV none rm_Sn_restore.cells rm_Sn_restore.slots) (hz : Zx X false) : ∀ (n : Nat) (a0 : Nat) (i1 : Int32) (a2 : Nat) (i3 : Int32), WM X 2 [(0, .ref a0), (1, .int i1), (2, .ref a2), (3, .int i3)] [] 0 0 (l_Sn_restore_2 n a0 i1 a2 i3)
  | 0, _, _, _, _ => wm_fl
  | n + 1, a0, i1, a2, i3 => wb_Sn_restore_2 hX hr hz (wl_Sn_restore_2 hX hr hz n) a0 i1 a2 i3
set_option maxRecDepth 20000 in
theorem w_Sn_restore {X : CX Unit} (hX : Cx X RX4 cX4_restore 4 rm_Sn_restore) (hr : Rt X injV none rm_Sn_restore.cells rm_Sn_restore.slots) (hz : Zx X false) (a0 : Nat) (i1 : Int32) (a2 : Nat) : WM X 0 [(0, .ref a0), (1, .int i1), (2, .ref a2)] [] 0 0 (m_Sn_restore a0 i1 a2) := by
  unfold m_Sn_restore
  refine wm_ckd ?_
  refine wm_iconst (0 : Int32) hX dX4_restore_0 (by decide) ?_
  refine wm_istore_n [(3, .int (0 : Int32)), (0, .ref a0), (1, .int i1), (2, .ref a2)] hX dX4_restore_1 rfl (by decide) rfl ?_
  refine wm_sub [1, 2, 3, 0] [(0, .ref a0), (1, .int i1), (2, .ref a2), (3, .int (0 : Int32))] rfl ?_
  exact wl_Sn_restore_2 hX hr hz FU a0 i1 a2 (0 : Int32)
theorem i_Sn_restore (a0 : Nat) (i1 : Int32) (a2 : Nat) : Im false yX4_restore cX4_restore 4 none rm_Sn_restore injV [.ref a0, .int i1, .ref a2] (m_Sn_restore a0 i1 a2) := Im.of RX4 (by decide) rfl (Nat.le_of_ble_eq_true rfl) (fun X hX hr hn hz => w_Sn_restore hX hr hz a0 i1 a2)
set_option maxRecDepth 20000 in
theorem wb_Rc_isBeyond_3 {X : CX Int32} (hX : Cx X RX2 cX2_isBeyond 7 rm_Rc_isBeyond) (hr : Rt X injI (some .boolean) rm_Rc_isBeyond.cells rm_Rc_isBeyond.slots) (hz : Zx X false) {k3 : Nat → Nat → Int64 → Int32 → M Int32} (h3 : ∀ (a0 : Nat) (a1 : Nat) (l2 : Int64) (i4 : Int32), WM X 3 [(0, .ref a0), (1, .ref a1), (2, .long l2), (4, .int i4)] [] 0 0 (k3 a0 a1 l2 i4)) (a0 : Nat) (a1 : Nat) (l2 : Int64) (i4 : Int32) : WM X 3 [(0, .ref a0), (1, .ref a1), (2, .long l2), (4, .int i4)] [] 0 0 (b_Rc_isBeyond_3 k3 a0 a1 l2 i4) := by
  unfold b_Rc_isBeyond_3
  refine wm_iload 3 hX dX2_isBeyond_3 rfl ?_
  refine wm_aload_n 0 hX dX2_isBeyond_5 rfl rfl ?_
  refine wm_gR hX fl_RX2_26 dX2_isBeyond_6 (fun v1 => ?_)
  refine wm_gI hX fl_RX2_71 dX2_isBeyond_9 (fun v2 => ?_)
  refine wm_icmp_ge 52 hX dX2_isBeyond_12 (by decide) ?_ ?_
  · refine wm_iconst (0 : Int32) hX dX2_isBeyond_52 (by decide) ?_
    exact wm_zret hX hr dX2_isBeyond_53
  · refine wm_aload_n 1 hX dX2_isBeyond_15 rfl rfl ?_
    refine wm_gR hX fl_RX2_76 dX2_isBeyond_16 (fun v3 => ?_)
    refine wm_iload 3 hX dX2_isBeyond_19 rfl ?_
    refine wm_bipush (6 : Int32) hX dX2_isBeyond_21 (by decide) ?_
    refine wm_imul hX dX2_isBeyond_23 ?_
    refine wm_iconst (0 : Int32) hX dX2_isBeyond_24 (by decide) ?_
    refine wm_iadd hX dX2_isBeyond_25 ?_
    refine wm_ldL hX dX2_isBeyond_26 (fun v4 => ?_)
    refine wm_lstore [(5, .long v4), (0, .ref a0), (1, .ref a1), (2, .long l2), (4, .int i4)] hX dX2_isBeyond_27 (by decide) rfl ?_
    refine wm_lload 0 hX dX2_isBeyond_29 rfl ?_
    refine wm_lload_n 3 hX dX2_isBeyond_31 rfl rfl ?_
    refine wm_lif_gt 44 hX dX2_isBeyond_32 dX2_isBeyond_33 (by decide) ?_ ?_
    · refine wm_iconst (1 : Int32) hX dX2_isBeyond_44 (by decide) ?_
      exact wm_zret hX hr dX2_isBeyond_45
    · refine wm_lload 0 hX dX2_isBeyond_36 rfl ?_
      refine wm_lload_n 3 hX dX2_isBeyond_38 rfl rfl ?_
      refine wm_lneg hX dX2_isBeyond_39 ?_
      refine wm_lif_ge 46 hX dX2_isBeyond_40 dX2_isBeyond_41 (by decide) ?_ ?_
      · refine wm_iinc (i4 + 1) 4 [(4, .int (i4 + 1)), (5, .long v4), (0, .ref a0), (1, .ref a1), (2, .long l2)] hX dX2_isBeyond_46 rfl rfl (by decide) rfl ?_
        refine wm_goto (tgt := 3) hX dX2_isBeyond_49 (by decide) ?_
        refine wm_sub [2, 3, 4, 0] [(0, .ref a0), (1, .ref a1), (2, .long l2), (4, .int (i4 + 1))] rfl ?_
        exact h3 a0 a1 l2 (i4 + 1)
      · refine wm_iconst (1 : Int32) hX dX2_isBeyond_44 (by decide) ?_
        exact wm_zret hX hr dX2_isBeyond_45
theorem wl_Rc_isBeyond_3 {X : CX Int32} (hX : Cx X RX2 cX2_isBeyond 7 rm_Rc_isBeyond) (hr : Rt X injI (some .boolean) rm_Rc_isBeyond.cells rm_Rc_isBeyond.slots) (hz : Zx X false) : ∀ (n : Nat) (a0 : Nat) (a1 : Nat) (l2 : Int64) (i4 : Int32), WM X 3 [(0, .ref a0), (1, .ref a1), (2, .long l2), (4, .int i4)] [] 0 0 (l_Rc_isBeyond_3 n a0 a1 l2 i4)
  | 0, _, _, _, _ => wm_fl
  | n + 1, a0, a1, l2, i4 => wb_Rc_isBeyond_3 hX hr hz (wl_Rc_isBeyond_3 hX hr hz n) a0 a1 l2 i4
set_option maxRecDepth 20000 in
theorem w_Rc_isBeyond {X : CX Int32} (hX : Cx X RX2 cX2_isBeyond 7 rm_Rc_isBeyond) (hr : Rt X injI (some .boolean) rm_Rc_isBeyond.cells rm_Rc_isBeyond.slots) (hz : Zx X false) (a0 : Nat) (a1 : Nat) (l2 : Int64) : WM X 0 [(0, .ref a0), (1, .ref a1), (2, .long l2)] [] 0 0 (m_Rc_isBeyond a0 a1 l2) := by
  unfold m_Rc_isBeyond
  refine wm_ckd ?_
  refine wm_iconst (0 : Int32) hX dX2_isBeyond_0 (by decide) ?_
  refine wm_istore [(4, .int (0 : Int32)), (0, .ref a0), (1, .ref a1), (2, .long l2)] hX dX2_isBeyond_1 (by decide) rfl ?_
  refine wm_sub [1, 2, 3, 0] [(0, .ref a0), (1, .ref a1), (2, .long l2), (4, .int (0 : Int32))] rfl ?_
  exact wl_Rc_isBeyond_3 hX hr hz FU a0 a1 l2 (0 : Int32)
theorem i_Rc_isBeyond (a0 : Nat) (a1 : Nat) (l2 : Int64) : Im false yX2_isBeyond cX2_isBeyond 7 (some .boolean) rm_Rc_isBeyond injI [.ref a0, .ref a1, .long l2] (m_Rc_isBeyond a0 a1 l2) := Im.of RX2 (by decide) rfl (Nat.le_of_ble_eq_true rfl) (fun X hX hr hn hz => w_Rc_isBeyond hX hr hz a0 a1 l2)
set_option maxRecDepth 20000 in
theorem wb_Rc_tellRow_59 {X : CX Unit} (hX : Cx X RX2 cX2_tellRow 7 rm_Rc_tellRow) (hr : Rt X injV none rm_Rc_tellRow.cells rm_Rc_tellRow.slots) (hz : Zx X false) {k59 : Nat → Int32 → Int32 → M Unit} (h59 : ∀ (a0 : Nat) (i5 : Int32) (i6 : Int32), WM X 59 [(0, .ref a0), (5, .int i5), (6, .int i6)] [] 0 0 (k59 a0 i5 i6)) (a0 : Nat) (i5 : Int32) (i6 : Int32) : WM X 59 [(0, .ref a0), (5, .int i5), (6, .int i6)] [] 0 0 (b_Rc_tellRow_59 k59 a0 i5 i6) := by
  unfold b_Rc_tellRow_59
  refine wm_iload 2 hX dX2_tellRow_59 rfl ?_
  refine wm_if_le 98 hX dX2_tellRow_61 (by decide) ?_ ?_
  · exact wm_vret hX hr dX2_tellRow_98
  · refine wm_iload 1 hX dX2_tellRow_64 rfl ?_
    refine wm_if_lt 98 hX dX2_tellRow_66 (by decide) ?_ ?_
    · exact wm_vret hX hr dX2_tellRow_98
    · refine wm_aload_n 0 hX dX2_tellRow_69 rfl rfl ?_
      refine wm_gR hX fl_RX2_19 dX2_tellRow_70 (fun v1 => ?_)
      refine wm_iload 1 hX dX2_tellRow_73 rfl ?_
      refine wm_aload_n 0 hX dX2_tellRow_75 rfl rfl ?_
      refine wm_gR hX fl_RX2_15 dX2_tellRow_76 (fun v2 => ?_)
      refine wm_iload 2 hX dX2_tellRow_79 rfl ?_
      refine wm_ldL hX dX2_tellRow_81 (fun v3 => ?_)
      refine wm_stL hX dX2_tellRow_82 ?_
      refine wm_iinc (i5 + (-1)) 1 [(5, .int (i5 + (-1))), (0, .ref a0), (6, .int i6)] hX dX2_tellRow_83 rfl rfl (by decide) rfl ?_
      refine wm_aload_n 1 hX dX2_tellRow_86 rfl rfl ?_
      refine wm_gR hX fl_RX2_9 dX2_tellRow_87 (fun v4 => ?_)
      refine wm_iload 2 hX dX2_tellRow_90 rfl ?_
      refine wm_ldI hX dX2_tellRow_92 (fun v5 => ?_)
      refine wm_istore [(6, .int v5), (5, .int (i5 + (-1))), (0, .ref a0)] hX dX2_tellRow_93 (by decide) rfl ?_
      refine wm_goto (tgt := 59) hX dX2_tellRow_95 (by decide) ?_
      refine wm_sub [2, 1, 0] [(0, .ref a0), (5, .int (i5 + (-1))), (6, .int v5)] rfl ?_
      exact h59 a0 (i5 + (-1)) v5
theorem wl_Rc_tellRow_59 {X : CX Unit} (hX : Cx X RX2 cX2_tellRow 7 rm_Rc_tellRow) (hr : Rt X injV none rm_Rc_tellRow.cells rm_Rc_tellRow.slots) (hz : Zx X false) : ∀ (n : Nat) (a0 : Nat) (i5 : Int32) (i6 : Int32), WM X 59 [(0, .ref a0), (5, .int i5), (6, .int i6)] [] 0 0 (l_Rc_tellRow_59 n a0 i5 i6)
  | 0, _, _, _ => wm_fl
  | n + 1, a0, i5, i6 => wb_Rc_tellRow_59 hX hr hz (wl_Rc_tellRow_59 hX hr hz n) a0 i5 i6
set_option maxRecDepth 20000 in
theorem w_Rc_tellRow_34 {X : CX Unit} (hX : Cx X RX2 cX2_tellRow 7 rm_Rc_tellRow) (hr : Rt X injV none rm_Rc_tellRow.cells rm_Rc_tellRow.slots) (hz : Zx X false) (a0 : Nat) (i1 : Int32) (l2 : Int64) (i4 : Int32) : WM X 34 [(0, .ref a0), (1, .int i1), (2, .long l2), (4, .int i4)] [] 0 0 (m_Rc_tellRow_34 a0 i1 l2 i4) := by
  unfold m_Rc_tellRow_34
  refine wm_aload_n 0 hX dX2_tellRow_34 rfl rfl ?_
  refine wm_iload 3 hX dX2_tellRow_35 rfl ?_
  refine wm_pI hX fp_RX2_22 dX2_tellRow_37 ?_
  refine wm_aload_n 0 hX dX2_tellRow_40 rfl rfl ?_
  refine wm_gR hX fl_RX2_19 dX2_tellRow_41 (fun v1 => ?_)
  refine wm_iload 3 hX dX2_tellRow_44 rfl ?_
  refine wm_iconst (1 : Int32) hX dX2_tellRow_46 (by decide) ?_
  refine wm_isub hX dX2_tellRow_47 ?_
  refine wm_lload_n 2 hX dX2_tellRow_48 rfl rfl ?_
  refine wm_stL hX dX2_tellRow_49 ?_
  refine wm_iload 3 hX dX2_tellRow_50 rfl ?_
  refine wm_iconst (2 : Int32) hX dX2_tellRow_52 (by decide) ?_
  refine wm_isub hX dX2_tellRow_53 ?_
  refine wm_leti (fun v2 => ?_)
  refine wm_istore [(5, .int v2), (0, .ref a0), (1, .int i1), (2, .long l2), (4, .int i4)] hX dX2_tellRow_54 (by decide) rfl ?_
  refine wm_iload_n 2 hX dX2_tellRow_56 rfl rfl ?_
  refine wm_istore [(6, .int i1), (5, .int v2), (0, .ref a0), (1, .int i1), (2, .long l2), (4, .int i4)] hX dX2_tellRow_57 (by decide) rfl ?_
  refine wm_sub [2, 1, 0] [(0, .ref a0), (5, .int v2), (6, .int i1)] rfl ?_
  exact wl_Rc_tellRow_59 hX hr hz FU a0 v2 i1
set_option maxRecDepth 20000 in
theorem wb_Rc_tellRow_6 {X : CX Unit} (hX : Cx X RX2 cX2_tellRow 7 rm_Rc_tellRow) (hr : Rt X injV none rm_Rc_tellRow.cells rm_Rc_tellRow.slots) (hz : Zx X false) {k6 : Nat → Int32 → Int64 → Int32 → Int32 → M Unit} (h6 : ∀ (a0 : Nat) (i1 : Int32) (l2 : Int64) (i4 : Int32) (i5 : Int32), WM X 6 [(0, .ref a0), (1, .int i1), (2, .long l2), (4, .int i4), (5, .int i5)] [] 0 0 (k6 a0 i1 l2 i4 i5)) (a0 : Nat) (i1 : Int32) (l2 : Int64) (i4 : Int32) (i5 : Int32) : WM X 6 [(0, .ref a0), (1, .int i1), (2, .long l2), (4, .int i4), (5, .int i5)] [] 0 0 (b_Rc_tellRow_6 k6 a0 i1 l2 i4 i5) := by
  unfold b_Rc_tellRow_6
  refine wm_iload 4 hX dX2_tellRow_6 rfl ?_
  refine wm_if_le 34 hX dX2_tellRow_8 (by decide) ?_ ?_
  · refine wm_sub [0, 1, 2, 3] [(0, .ref a0), (1, .int i1), (2, .long l2), (4, .int i4)] rfl ?_
    exact w_Rc_tellRow_34 hX hr hz a0 i1 l2 i4
  · refine wm_iload 3 hX dX2_tellRow_11 rfl ?_
    refine wm_sipush (500 : Int32) hX dX2_tellRow_13 (by decide) ?_
    refine wm_icmp_ge 34 hX dX2_tellRow_16 (by decide) ?_ ?_
    · refine wm_sub [0, 1, 2, 3] [(0, .ref a0), (1, .int i1), (2, .long l2), (4, .int i4)] rfl ?_
      exact w_Rc_tellRow_34 hX hr hz a0 i1 l2 i4
    · refine wm_iinc (i4 + 1) 3 [(4, .int (i4 + 1)), (0, .ref a0), (1, .int i1), (2, .long l2), (5, .int i5)] hX dX2_tellRow_19 rfl rfl (by decide) rfl ?_
      refine wm_aload_n 1 hX dX2_tellRow_22 rfl rfl ?_
      refine wm_gR hX fl_RX2_9 dX2_tellRow_23 (fun v1 => ?_)
      refine wm_iload 4 hX dX2_tellRow_26 rfl ?_
      refine wm_ldI hX dX2_tellRow_28 (fun v2 => ?_)
      refine wm_istore [(5, .int v2), (4, .int (i4 + 1)), (0, .ref a0), (1, .int i1), (2, .long l2)] hX dX2_tellRow_29 (by decide) rfl ?_
      refine wm_goto (tgt := 6) hX dX2_tellRow_31 (by decide) ?_
      refine wm_sub [2, 3, 4, 1, 0] [(0, .ref a0), (1, .int i1), (2, .long l2), (4, .int (i4 + 1)), (5, .int v2)] rfl ?_
      exact h6 a0 i1 l2 (i4 + 1) v2
theorem wl_Rc_tellRow_6 {X : CX Unit} (hX : Cx X RX2 cX2_tellRow 7 rm_Rc_tellRow) (hr : Rt X injV none rm_Rc_tellRow.cells rm_Rc_tellRow.slots) (hz : Zx X false) : ∀ (n : Nat) (a0 : Nat) (i1 : Int32) (l2 : Int64) (i4 : Int32) (i5 : Int32), WM X 6 [(0, .ref a0), (1, .int i1), (2, .long l2), (4, .int i4), (5, .int i5)] [] 0 0 (l_Rc_tellRow_6 n a0 i1 l2 i4 i5)
  | 0, _, _, _, _, _ => wm_fl
  | n + 1, a0, i1, l2, i4, i5 => wb_Rc_tellRow_6 hX hr hz (wl_Rc_tellRow_6 hX hr hz n) a0 i1 l2 i4 i5
set_option maxRecDepth 20000 in
theorem w_Rc_tellRow {X : CX Unit} (hX : Cx X RX2 cX2_tellRow 7 rm_Rc_tellRow) (hr : Rt X injV none rm_Rc_tellRow.cells rm_Rc_tellRow.slots) (hz : Zx X false) (a0 : Nat) (i1 : Int32) (l2 : Int64) : WM X 0 [(0, .ref a0), (1, .int i1), (2, .long l2)] [] 0 0 (m_Rc_tellRow a0 i1 l2) := by
  unfold m_Rc_tellRow
  refine wm_ckd ?_
  refine wm_iconst (1 : Int32) hX dX2_tellRow_0 (by decide) ?_
  refine wm_istore [(4, .int (1 : Int32)), (0, .ref a0), (1, .int i1), (2, .long l2)] hX dX2_tellRow_1 (by decide) rfl ?_
  refine wm_iload_n 2 hX dX2_tellRow_3 rfl rfl ?_
  refine wm_istore [(5, .int i1), (4, .int (1 : Int32)), (0, .ref a0), (1, .int i1), (2, .long l2)] hX dX2_tellRow_4 (by decide) rfl ?_
  refine wm_sub [2, 3, 4, 1, 0] [(0, .ref a0), (1, .int i1), (2, .long l2), (4, .int (1 : Int32)), (5, .int i1)] rfl ?_
  exact wl_Rc_tellRow_6 hX hr hz FU a0 i1 l2 (1 : Int32) i1
theorem i_Rc_tellRow (a0 : Nat) (i1 : Int32) (l2 : Int64) : Im false yX2_tellRow cX2_tellRow 7 none rm_Rc_tellRow injV [.ref a0, .int i1, .long l2] (m_Rc_tellRow a0 i1 l2) := Im.of RX2 (by decide) rfl (Nat.le_of_ble_eq_true rfl) (fun X hX hr hn hz => w_Rc_tellRow hX hr hz a0 i1 l2)
set_option maxRecDepth 20000 in
theorem w_Rc_tryFrom {X : CX Int32} (hX : Cx X RX2 cX2_tryFrom 7 rm_Rc_tryFrom) (hr : Rt X injI (some .int) rm_Rc_tryFrom.cells rm_Rc_tryFrom.slots) (hz : Zx X false) (a0 : Nat) (i1 : Int32) (a2 : Nat) (l3 : Int64) (l5 : Int64) : WM X 0 [(0, .ref a0), (1, .int i1), (2, .ref a2), (3, .long l3), (5, .long l5)] [] 0 0 (m_Rc_tryFrom a0 i1 a2 l3 l5) := by
  unfold m_Rc_tryFrom
  refine wm_ckd ?_
  refine wm_aload_n 0 hX dX2_tryFrom_0 rfl rfl ?_
  refine wm_gR hX fl_RX2_30 dX2_tryFrom_1 (fun v1 => ?_)
  refine wm_iload_n 1 hX dX2_tryFrom_4 rfl rfl ?_
  refine wm_aload_n 2 hX dX2_tryFrom_5 rfl rfl ?_
  refine wm_cVv (st := []) hX hz (i_Sn_restore v1 i1 a2) Ckd.of rfl cal_Sn_restore wd_700 rfl (fits_Rc_tryFrom_Sn_restore) (Nat.le_of_ble_eq_true rfl) dX2_tryFrom_6 ?_
  refine wm_aload_n 2 hX dX2_tryFrom_9 rfl rfl ?_
  refine wm_lload_n 3 hX dX2_tryFrom_10 rfl rfl ?_
  refine wm_cVi (st := []) hX hz (i_Tw_makeStep a2 l3) Ckd.of rfl cal_Tw_makeStep wd_704 rfl (fits_Rc_tryFrom_Tw_makeStep) (Nat.le_of_ble_eq_true rfl) dX2_tryFrom_11 (fun v2 => ?_)
  refine wm_if_ne 20 hX dX2_tryFrom_14 (by decide) ?_ ?_
  · refine wm_aload_n 0 hX dX2_tryFrom_20 rfl rfl ?_
    refine wm_aload_n 2 hX dX2_tryFrom_21 rfl rfl ?_
    refine wm_lload 4 hX dX2_tryFrom_22 rfl ?_
    refine wm_cVi (st := []) hX hz (i_Rc_isBeyond a0 a2 l5) Ckd.of rfl cal_Rc_isBeyond wd_705 rfl (fits_Rc_tryFrom_Rc_isBeyond) (Nat.le_of_ble_eq_true rfl) dX2_tryFrom_24 (fun v3 => ?_)
    refine wm_if_eq 44 hX dX2_tryFrom_27 (by decide) ?_ ?_
    · refine wm_aload_n 0 hX dX2_tryFrom_44 rfl rfl ?_
      refine wm_gR hX fl_RX2_30 dX2_tryFrom_45 (fun v4 => ?_)
      refine wm_aload_n 2 hX dX2_tryFrom_48 rfl rfl ?_
      refine wm_cVi (st := []) hX hz (i_Sn_find v4 a2) Ckd.of rfl cal_Sn_find wd_694 rfl (fits_Rc_tryFrom_Sn_find) (Nat.le_of_ble_eq_true rfl) dX2_tryFrom_49 (fun v5 => ?_)
      refine wm_if_lt 57 hX dX2_tryFrom_52 (by decide) ?_ ?_
      · refine wm_aload_n 0 hX dX2_tryFrom_57 rfl rfl ?_
        refine wm_gR hX fl_RX2_30 dX2_tryFrom_58 (fun v6 => ?_)
        refine wm_gI hX fl_RX2_46 dX2_tryFrom_61 (fun v7 => ?_)
        refine wm_sipush (500 : Int32) hX dX2_tryFrom_64 (by decide) ?_
        refine wm_icmp_lt 73 hX dX2_tryFrom_67 (by decide) ?_ ?_
        · refine wm_aload_n 0 hX dX2_tryFrom_73 rfl rfl ?_
          refine wm_gR hX fl_RX2_9 dX2_tryFrom_74 (fun v8 => ?_)
          refine wm_aload_n 0 hX dX2_tryFrom_77 rfl rfl ?_
          refine wm_gR hX fl_RX2_30 dX2_tryFrom_78 (fun v9 => ?_)
          refine wm_gI hX fl_RX2_46 dX2_tryFrom_81 (fun v10 => ?_)
          refine wm_iload_n 1 hX dX2_tryFrom_84 rfl rfl ?_
          refine wm_stI hX dX2_tryFrom_85 ?_
          refine wm_aload_n 0 hX dX2_tryFrom_86 rfl rfl ?_
          refine wm_gR hX fl_RX2_15 dX2_tryFrom_87 (fun v11 => ?_)
          refine wm_aload_n 0 hX dX2_tryFrom_90 rfl rfl ?_
          refine wm_gR hX fl_RX2_30 dX2_tryFrom_91 (fun v12 => ?_)
          refine wm_gI hX fl_RX2_46 dX2_tryFrom_94 (fun v13 => ?_)
          refine wm_lload_n 3 hX dX2_tryFrom_97 rfl rfl ?_
          refine wm_stL hX dX2_tryFrom_98 ?_
          refine wm_aload_n 0 hX dX2_tryFrom_99 rfl rfl ?_
          refine wm_gR hX fl_RX2_30 dX2_tryFrom_100 (fun v14 => ?_)
          refine wm_cVv (st := []) hX hz (i_Sn_addAsked v14) Ckd.of rfl cal_Sn_addAsked wd_695 rfl (fits_Rc_tryFrom_Sn_addAsked) (Nat.le_of_ble_eq_true rfl) dX2_tryFrom_103 ?_
          refine wm_iconst (0 : Int32) hX dX2_tryFrom_106 (by decide) ?_
          exact wm_iret hX hr dX2_tryFrom_107
        · refine wm_bipush (-5 : Int32) hX dX2_tryFrom_70 (by decide) ?_
          exact wm_iret hX hr dX2_tryFrom_72
      · refine wm_iconst (0 : Int32) hX dX2_tryFrom_55 (by decide) ?_
        exact wm_iret hX hr dX2_tryFrom_56
    · refine wm_aload_n 0 hX dX2_tryFrom_30 rfl rfl ?_
      refine wm_iload_n 1 hX dX2_tryFrom_31 rfl rfl ?_
      refine wm_lload_n 3 hX dX2_tryFrom_32 rfl rfl ?_
      refine wm_cVv (st := []) hX hz (i_Rc_tellRow a0 i1 l3) Ckd.of rfl cal_Rc_tellRow wd_709 rfl (fits_Rc_tryFrom_Rc_tellRow) (Nat.le_of_ble_eq_true rfl) dX2_tryFrom_33 ?_
      refine wm_bipush (-100 : Int32) hX dX2_tryFrom_36 (by decide) ?_
      refine wm_aload_n 0 hX dX2_tryFrom_38 rfl rfl ?_
      refine wm_gI hX fl_RX2_22 dX2_tryFrom_39 (fun v15 => ?_)
      refine wm_isub hX dX2_tryFrom_42 ?_
      exact wm_iret hX hr dX2_tryFrom_43
  · refine wm_bipush (-6 : Int32) hX dX2_tryFrom_17 (by decide) ?_
    exact wm_iret hX hr dX2_tryFrom_19
theorem i_Rc_tryFrom (a0 : Nat) (i1 : Int32) (a2 : Nat) (l3 : Int64) (l5 : Int64) : Im false yX2_tryFrom cX2_tryFrom 7 (some .int) rm_Rc_tryFrom injI [.ref a0, .int i1, .ref a2, .long l3, .long l5] (m_Rc_tryFrom a0 i1 a2 l3 l5) := Im.of RX2 (by decide) rfl (Nat.le_of_ble_eq_true rfl) (fun X hX hr hn hz => w_Rc_tryFrom hX hr hz a0 i1 a2 l3 l5)
set_option maxRecDepth 20000 in
theorem wb_Rc_findStands_54 {X : CX Int32} (hX : Cx X RX2 cX2_findStands 12 rm_Rc_findStands) (hr : Rt X injI (some .int) rm_Rc_findStands.cells rm_Rc_findStands.slots) (hz : Zx X false) {k31 : Nat → Nat → Int64 → Int64 → Int64 → Int32 → M Int32} (h31 : ∀ (a0 : Nat) (a1 : Nat) (l2 : Int64) (l4 : Int64) (l6 : Int64) (i8 : Int32), WM X 31 [(0, .ref a0), (1, .ref a1), (2, .long l2), (4, .long l4), (6, .long l6), (8, .int i8)] [] 0 0 (k31 a0 a1 l2 l4 l6 i8)) {k54 : Nat → Nat → Int64 → Int64 → Int64 → Int32 → Int64 → M Int32} (h54 : ∀ (a0 : Nat) (a1 : Nat) (l2 : Int64) (l4 : Int64) (l6 : Int64) (i8 : Int32) (l9 : Int64), WM X 54 [(0, .ref a0), (1, .ref a1), (2, .long l2), (4, .long l4), (6, .long l6), (8, .int i8), (9, .long l9)] [] 0 0 (k54 a0 a1 l2 l4 l6 i8 l9)) (a0 : Nat) (a1 : Nat) (l2 : Int64) (l4 : Int64) (l6 : Int64) (i8 : Int32) (l9 : Int64) : WM X 54 [(0, .ref a0), (1, .ref a1), (2, .long l2), (4, .long l4), (6, .long l6), (8, .int i8), (9, .long l9)] [] 0 0 (b_Rc_findStands_54 k31 k54 a0 a1 l2 l4 l6 i8 l9) := by
  unfold b_Rc_findStands_54
  refine wm_lload 6 hX dX2_findStands_54 rfl ?_
  refine wm_lload 3 hX dX2_findStands_56 rfl ?_
  refine wm_lif_gt 92 hX dX2_findStands_58 dX2_findStands_59 (by decide) ?_ ?_
  · refine wm_iinc (i8 + 1) 5 [(8, .int (i8 + 1)), (0, .ref a0), (1, .ref a1), (2, .long l2), (4, .long l4), (6, .long l6), (9, .long l9)] hX dX2_findStands_92 rfl rfl (by decide) rfl ?_
    refine wm_goto (tgt := 31) hX dX2_findStands_95 (by decide) ?_
    refine wm_sub [1, 2, 3, 4, 5, 0] [(0, .ref a0), (1, .ref a1), (2, .long l2), (4, .long l4), (6, .long l6), (8, .int (i8 + 1))] rfl ?_
    exact h31 a0 a1 l2 l4 l6 (i8 + 1)
  · refine wm_aload_n 0 hX dX2_findStands_62 rfl rfl ?_
    refine wm_iload 5 hX dX2_findStands_63 rfl ?_
    refine wm_aload_n 1 hX dX2_findStands_65 rfl rfl ?_
    refine wm_lload 6 hX dX2_findStands_66 rfl ?_
    refine wm_lload 4 hX dX2_findStands_68 rfl ?_
    refine wm_cVi (st := []) hX hz (i_Rc_tryFrom a0 i8 a1 l9 l6) Ckd.of rfl cal_Rc_tryFrom wd_696 rfl (fits_Rc_findStands_Rc_tryFrom) (Nat.le_of_ble_eq_true rfl) dX2_findStands_70 (fun v1 => ?_)
    refine wm_istore [(11, .int v1), (0, .ref a0), (1, .ref a1), (2, .long l2), (4, .long l4), (6, .long l6), (8, .int i8), (9, .long l9)] hX dX2_findStands_73 (by decide) rfl ?_
    refine wm_iload 0 hX dX2_findStands_75 rfl ?_
    refine wm_if_eq 83 hX dX2_findStands_77 (by decide) ?_ ?_
    · refine wm_lload 7 hX dX2_findStands_83 rfl ?_
      refine wm_lconst (1 : Int64) hX dX2_findStands_85 (by decide) ?_
      refine wm_ladd hX dX2_findStands_86 ?_
      refine wm_letl (fun v2 => ?_)
      refine wm_lstore [(9, .long v2), (11, .int v1), (0, .ref a0), (1, .ref a1), (2, .long l2), (4, .long l4), (6, .long l6), (8, .int i8)] hX dX2_findStands_87 (by decide) rfl ?_
      refine wm_goto (tgt := 54) hX dX2_findStands_89 (by decide) ?_
      refine wm_sub [2, 3, 4, 5, 6, 7, 0] [(0, .ref a0), (1, .ref a1), (2, .long l2), (4, .long l4), (6, .long l6), (8, .int i8), (9, .long v2)] rfl ?_
      exact h54 a0 a1 l2 l4 l6 i8 v2
    · refine wm_iload 0 hX dX2_findStands_80 rfl ?_
      exact wm_iret hX hr dX2_findStands_82
theorem wl_Rc_findStands_54 {X : CX Int32} (hX : Cx X RX2 cX2_findStands 12 rm_Rc_findStands) (hr : Rt X injI (some .int) rm_Rc_findStands.cells rm_Rc_findStands.slots) (hz : Zx X false) {k31 : Nat → Nat → Int64 → Int64 → Int64 → Int32 → M Int32} (h31 : ∀ (a0 : Nat) (a1 : Nat) (l2 : Int64) (l4 : Int64) (l6 : Int64) (i8 : Int32), WM X 31 [(0, .ref a0), (1, .ref a1), (2, .long l2), (4, .long l4), (6, .long l6), (8, .int i8)] [] 0 0 (k31 a0 a1 l2 l4 l6 i8)) : ∀ (n : Nat) (a0 : Nat) (a1 : Nat) (l2 : Int64) (l4 : Int64) (l6 : Int64) (i8 : Int32) (l9 : Int64), WM X 54 [(0, .ref a0), (1, .ref a1), (2, .long l2), (4, .long l4), (6, .long l6), (8, .int i8), (9, .long l9)] [] 0 0 (l_Rc_findStands_54 k31 n a0 a1 l2 l4 l6 i8 l9)
  | 0, _, _, _, _, _, _, _ => wm_fl
  | n + 1, a0, a1, l2, l4, l6, i8, l9 => wb_Rc_findStands_54 hX hr hz h31 (wl_Rc_findStands_54 hX hr hz h31 n) a0 a1 l2 l4 l6 i8 l9
set_option maxRecDepth 20000 in
theorem wb_Rc_findStands_31 {X : CX Int32} (hX : Cx X RX2 cX2_findStands 12 rm_Rc_findStands) (hr : Rt X injI (some .int) rm_Rc_findStands.cells rm_Rc_findStands.slots) (hz : Zx X false) {k31 : Nat → Nat → Int64 → Int64 → Int64 → Int32 → M Int32} (h31 : ∀ (a0 : Nat) (a1 : Nat) (l2 : Int64) (l4 : Int64) (l6 : Int64) (i8 : Int32), WM X 31 [(0, .ref a0), (1, .ref a1), (2, .long l2), (4, .long l4), (6, .long l6), (8, .int i8)] [] 0 0 (k31 a0 a1 l2 l4 l6 i8)) (a0 : Nat) (a1 : Nat) (l2 : Int64) (l4 : Int64) (l6 : Int64) (i8 : Int32) : WM X 31 [(0, .ref a0), (1, .ref a1), (2, .long l2), (4, .long l4), (6, .long l6), (8, .int i8)] [] 0 0 (b_Rc_findStands_31 k31 a0 a1 l2 l4 l6 i8) := by
  unfold b_Rc_findStands_31
  refine wm_iload 5 hX dX2_findStands_31 rfl ?_
  refine wm_sipush (500 : Int32) hX dX2_findStands_33 (by decide) ?_
  refine wm_icmp_ge 98 hX dX2_findStands_36 (by decide) ?_ ?_
  · refine wm_aload_n 0 hX dX2_findStands_98 rfl rfl ?_
    refine wm_gR hX fl_RX2_30 dX2_findStands_99 (fun v1 => ?_)
    refine wm_gI hX fl_RX2_46 dX2_findStands_102 (fun v2 => ?_)
    exact wm_iret hX hr dX2_findStands_105
  · refine wm_iload 5 hX dX2_findStands_39 rfl ?_
    refine wm_aload_n 0 hX dX2_findStands_41 rfl rfl ?_
    refine wm_gR hX fl_RX2_30 dX2_findStands_42 (fun v3 => ?_)
    refine wm_gI hX fl_RX2_46 dX2_findStands_45 (fun v4 => ?_)
    refine wm_icmp_ge 98 hX dX2_findStands_48 (by decide) ?_ ?_
    · refine wm_aload_n 0 hX dX2_findStands_98 rfl rfl ?_
      refine wm_gR hX fl_RX2_30 dX2_findStands_99 (fun v5 => ?_)
      refine wm_gI hX fl_RX2_46 dX2_findStands_102 (fun v6 => ?_)
      exact wm_iret hX hr dX2_findStands_105
    · refine wm_lload_n 2 hX dX2_findStands_51 rfl rfl ?_
      refine wm_lstore [(9, .long l2), (0, .ref a0), (1, .ref a1), (2, .long l2), (4, .long l4), (6, .long l6), (8, .int i8)] hX dX2_findStands_52 (by decide) rfl ?_
      refine wm_sub [1, 2, 3, 4, 5, 6, 0] [(0, .ref a0), (1, .ref a1), (2, .long l2), (4, .long l4), (6, .long l6), (8, .int i8), (9, .long l2)] rfl ?_
      exact wl_Rc_findStands_54 hX hr hz h31 FU a0 a1 l2 l4 l6 i8 l2
theorem wl_Rc_findStands_31 {X : CX Int32} (hX : Cx X RX2 cX2_findStands 12 rm_Rc_findStands) (hr : Rt X injI (some .int) rm_Rc_findStands.cells rm_Rc_findStands.slots) (hz : Zx X false) : ∀ (n : Nat) (a0 : Nat) (a1 : Nat) (l2 : Int64) (l4 : Int64) (l6 : Int64) (i8 : Int32), WM X 31 [(0, .ref a0), (1, .ref a1), (2, .long l2), (4, .long l4), (6, .long l6), (8, .int i8)] [] 0 0 (l_Rc_findStands_31 n a0 a1 l2 l4 l6 i8)
  | 0, _, _, _, _, _, _ => wm_fl
  | n + 1, a0, a1, l2, l4, l6, i8 => wb_Rc_findStands_31 hX hr hz (wl_Rc_findStands_31 hX hr hz n) a0 a1 l2 l4 l6 i8
set_option maxRecDepth 20000 in
theorem w_Rc_findStands {X : CX Int32} (hX : Cx X RX2 cX2_findStands 12 rm_Rc_findStands) (hr : Rt X injI (some .int) rm_Rc_findStands.cells rm_Rc_findStands.slots) (hz : Zx X false) (a0 : Nat) (a1 : Nat) (l2 : Int64) (l4 : Int64) (l6 : Int64) : WM X 0 [(0, .ref a0), (1, .ref a1), (2, .long l2), (4, .long l4), (6, .long l6)] [] 0 0 (m_Rc_findStands a0 a1 l2 l4 l6) := by
  unfold m_Rc_findStands
  refine wm_ckd ?_
  refine wm_aload_n 0 hX dX2_findStands_0 rfl rfl ?_
  refine wm_iconst (0 : Int32) hX dX2_findStands_1 (by decide) ?_
  refine wm_pI hX fp_RX2_22 dX2_findStands_2 ?_
  refine wm_aload_n 0 hX dX2_findStands_5 rfl rfl ?_
  refine wm_gR hX fl_RX2_30 dX2_findStands_6 (fun v1 => ?_)
  refine wm_cVv (st := []) hX hz (i_Sn_empty v1) Ckd.of rfl cal_Sn_empty wd_693 rfl (fits_Rc_findStands_Sn_empty) (Nat.le_of_ble_eq_true rfl) dX2_findStands_9 ?_
  refine wm_aload_n 0 hX dX2_findStands_12 rfl rfl ?_
  refine wm_gR hX fl_RX2_30 dX2_findStands_13 (fun v2 => ?_)
  refine wm_aload_n 1 hX dX2_findStands_16 rfl rfl ?_
  refine wm_cVi (st := []) hX hz (i_Sn_find v2 a1) Ckd.of rfl cal_Sn_find wd_694 rfl (fits_Rc_findStands_Sn_find) (Nat.le_of_ble_eq_true rfl) dX2_findStands_17 (fun v3 => ?_)
  refine wm_pop hX dX2_findStands_20 rfl ?_
  refine wm_aload_n 0 hX dX2_findStands_21 rfl rfl ?_
  refine wm_gR hX fl_RX2_30 dX2_findStands_22 (fun v4 => ?_)
  refine wm_cVv (st := []) hX hz (i_Sn_addAsked v4) Ckd.of rfl cal_Sn_addAsked wd_695 rfl (fits_Rc_findStands_Sn_addAsked) (Nat.le_of_ble_eq_true rfl) dX2_findStands_25 ?_
  refine wm_iconst (0 : Int32) hX dX2_findStands_28 (by decide) ?_
  refine wm_istore [(8, .int (0 : Int32)), (0, .ref a0), (1, .ref a1), (2, .long l2), (4, .long l4), (6, .long l6)] hX dX2_findStands_29 (by decide) rfl ?_
  refine wm_sub [1, 2, 3, 4, 5, 0] [(0, .ref a0), (1, .ref a1), (2, .long l2), (4, .long l4), (6, .long l6), (8, .int (0 : Int32))] rfl ?_
  exact wl_Rc_findStands_31 hX hr hz FU a0 a1 l2 l4 l6 (0 : Int32)
theorem i_Rc_findStands (a0 : Nat) (a1 : Nat) (l2 : Int64) (l4 : Int64) (l6 : Int64) : Im false yX2_findStands cX2_findStands 12 (some .int) rm_Rc_findStands injI [.ref a0, .ref a1, .long l2, .long l4, .long l6] (m_Rc_findStands a0 a1 l2 l4 l6) := Im.of RX2 (by decide) rfl (Nat.le_of_ble_eq_true rfl) (fun X hX hr hn hz => w_Rc_findStands hX hr hz a0 a1 l2 l4 l6)
set_option maxRecDepth 20000 in
theorem w_Ob_reach {X : CX Int32} (hX : Cx X RX8 cX8_reach 7 rm_Ob_reach) (hr : Rt X injI (some .int) rm_Ob_reach.cells rm_Ob_reach.slots) (hz : Zx X false) (a0 : Nat) (l1 : Int64) (l3 : Int64) (l5 : Int64) : WM X 0 [(0, .ref a0), (1, .long l1), (3, .long l3), (5, .long l5)] [] 0 0 (m_Ob_reach a0 l1 l3 l5) := by
  unfold m_Ob_reach
  refine wm_ckd ?_
  refine wm_lload_n 1 hX dX8_reach_0 rfl rfl ?_
  refine wm_cSi (st := []) hX hz (i_Ob_isSample l1) cal_Ob_isSample wd_466 rfl (fits_Ob_reach_Ob_isSample) (Nat.le_of_ble_eq_true rfl) dX8_reach_1 (fun v1 => ?_)
  refine wm_if_eq 30 hX dX8_reach_4 (by decide) ?_ ?_
  · refine wm_bipush (-2 : Int32) hX dX8_reach_30 (by decide) ?_
    exact wm_iret hX hr dX8_reach_32
  · refine wm_lload_n 2 hX dX8_reach_7 rfl rfl ?_
    refine wm_cSi (st := []) hX hz (i_Ob_isSample l3) cal_Ob_isSample wd_466 rfl (fits_Ob_reach_Ob_isSample) (Nat.le_of_ble_eq_true rfl) dX8_reach_8 (fun v2 => ?_)
    refine wm_if_eq 30 hX dX8_reach_11 (by decide) ?_ ?_
    · refine wm_bipush (-2 : Int32) hX dX8_reach_30 (by decide) ?_
      exact wm_iret hX hr dX8_reach_32
    · refine wm_lload_n 2 hX dX8_reach_14 rfl rfl ?_
      refine wm_lload_n 1 hX dX8_reach_15 rfl rfl ?_
      refine wm_lif_lt 30 hX dX8_reach_16 dX8_reach_17 (by decide) ?_ ?_
      · refine wm_bipush (-2 : Int32) hX dX8_reach_30 (by decide) ?_
        exact wm_iret hX hr dX8_reach_32
      · refine wm_lload_n 2 hX dX8_reach_20 rfl rfl ?_
        refine wm_lload_n 1 hX dX8_reach_21 rfl rfl ?_
        refine wm_lsub hX dX8_reach_22 ?_
        refine wm_ldc2 hX dX8_reach_23 wd_684 ?_
        refine wm_lif_le 33 hX dX8_reach_26 dX8_reach_27 (by decide) ?_ ?_
        · refine wm_lload 3 hX dX8_reach_33 rfl ?_
          refine wm_lconst (1 : Int64) hX dX8_reach_35 (by decide) ?_
          refine wm_lif_lt 49 hX dX8_reach_36 dX8_reach_37 (by decide) ?_ ?_
          · refine wm_bipush (-2 : Int32) hX dX8_reach_49 (by decide) ?_
            exact wm_iret hX hr dX8_reach_51
          · refine wm_lload 3 hX dX8_reach_40 rfl ?_
            refine wm_ldc2 hX dX8_reach_42 wd_456 ?_
            refine wm_lif_le 52 hX dX8_reach_45 dX8_reach_46 (by decide) ?_ ?_
            · refine wm_aload_n 0 hX dX8_reach_52 rfl rfl ?_
              refine wm_cVi (st := []) hX hz (i_Ob_isReachable a0) Ckd.of rfl cal_Ob_isReachable wd_685 rfl (fits_Ob_reach_Ob_isReachable) (Nat.le_of_ble_eq_true rfl) dX8_reach_53 (fun v3 => ?_)
              refine wm_if_ne 62 hX dX8_reach_56 (by decide) ?_ ?_
              · refine wm_aload_n 0 hX dX8_reach_62 rfl rfl ?_
                refine wm_gR hX fl_RX8_69 dX8_reach_63 (fun v4 => ?_)
                refine wm_aload_n 0 hX dX8_reach_66 rfl rfl ?_
                refine wm_gR hX fl_RX8_65 dX8_reach_67 (fun v5 => ?_)
                refine wm_cVv (st := []) hX hz (i_Tw_becomeLike v4 v5) Ckd.of rfl cal_Tw_becomeLike wd_498 rfl (fits_Ob_reach_Tw_becomeLike) (Nat.le_of_ble_eq_true rfl) dX8_reach_70 ?_
                refine wm_aload_n 0 hX dX8_reach_73 rfl rfl ?_
                refine wm_gR hX fl_RX8_45 dX8_reach_74 (fun v6 => ?_)
                refine wm_aload_n 0 hX dX8_reach_77 rfl rfl ?_
                refine wm_gR hX fl_RX8_69 dX8_reach_78 (fun v7 => ?_)
                refine wm_lload_n 1 hX dX8_reach_81 rfl rfl ?_
                refine wm_lload_n 2 hX dX8_reach_82 rfl rfl ?_
                refine wm_lload 3 hX dX8_reach_83 rfl ?_
                refine wm_cVi (st := []) hX hz (i_Rc_findStands v6 v7 l1 l3 l5) Ckd.of rfl cal_Rc_findStands wd_689 rfl (fits_Ob_reach_Rc_findStands) (Nat.le_of_ble_eq_true rfl) dX8_reach_85 (fun v8 => ?_)
                exact wm_iret hX hr dX8_reach_88
              · refine wm_bipush (-7 : Int32) hX dX8_reach_59 (by decide) ?_
                exact wm_iret hX hr dX8_reach_61
            · refine wm_bipush (-2 : Int32) hX dX8_reach_49 (by decide) ?_
              exact wm_iret hX hr dX8_reach_51
        · refine wm_bipush (-2 : Int32) hX dX8_reach_30 (by decide) ?_
          exact wm_iret hX hr dX8_reach_32
theorem i_Ob_reach (a0 : Nat) (l1 : Int64) (l3 : Int64) (l5 : Int64) : Im false yX8_reach cX8_reach 7 (some .int) rm_Ob_reach injI [.ref a0, .long l1, .long l3, .long l5] (m_Ob_reach a0 l1 l3 l5) := Im.of RX8 (by decide) rfl (Nat.le_of_ble_eq_true rfl) (fun X hX hr hn hz => w_Ob_reach hX hr hz a0 l1 l3 l5)
set_option maxRecDepth 20000 in
theorem wb_Md_mayReach_30 {X : CX Int32} (hX : Cx X RX9 cX9_mayReach 3 rm_Md_mayReach) (hr : Rt X injI (some .boolean) rm_Md_mayReach.cells rm_Md_mayReach.slots) (hz : Zx X false) {k30 : Nat → Int32 → Int32 → M Int32} (h30 : ∀ (a0 : Nat) (i1 : Int32) (i2 : Int32), WM X 30 [(0, .ref a0), (1, .int i1), (2, .int i2)] [] 0 0 (k30 a0 i1 i2)) (a0 : Nat) (i1 : Int32) (i2 : Int32) : WM X 30 [(0, .ref a0), (1, .int i1), (2, .int i2)] [] 0 0 (b_Md_mayReach_30 k30 a0 i1 i2) := by
  unfold b_Md_mayReach_30
  refine wm_iload_n 2 hX dX9_mayReach_30 rfl rfl ?_
  refine wm_aload_n 0 hX dX9_mayReach_31 rfl rfl ?_
  refine wm_gI hX fl_RX9_160 dX9_mayReach_32 (fun v1 => ?_)
  refine wm_icmp_ge 62 hX dX9_mayReach_35 (by decide) ?_ ?_
  · refine wm_iload_n 1 hX dX9_mayReach_62 rfl rfl ?_
    exact wm_zret hX hr dX9_mayReach_63
  · refine wm_iload_n 1 hX dX9_mayReach_38 rfl rfl ?_
    refine wm_aload_n 0 hX dX9_mayReach_39 rfl rfl ?_
    refine wm_gR hX fl_RX9_27 dX9_mayReach_40 (fun v2 => ?_)
    refine wm_iload_n 2 hX dX9_mayReach_43 rfl rfl ?_
    refine wm_ldI hX dX9_mayReach_44 (fun v3 => ?_)
    refine wm_iconst (3 : Int32) hX dX9_mayReach_45 (by decide) ?_
    refine wm_icmp_eq 53 hX dX9_mayReach_46 (by decide) ?_ ?_
    · refine wm_iconst (0 : Int32) hX dX9_mayReach_53 (by decide) ?_
      refine wm_iand hX dX9_mayReach_54 ?_
      refine wm_leti (fun v4 => ?_)
      refine wm_istore_n [(1, .int v4), (0, .ref a0), (2, .int i2)] hX dX9_mayReach_55 rfl (by decide) rfl ?_
      refine wm_iinc (i2 + 1) 2 [(2, .int (i2 + 1)), (1, .int v4), (0, .ref a0)] hX dX9_mayReach_56 rfl rfl (by decide) rfl ?_
      refine wm_goto (tgt := 30) hX dX9_mayReach_59 (by decide) ?_
      refine wm_sub [2, 1, 0] [(0, .ref a0), (1, .int v4), (2, .int (i2 + 1))] rfl ?_
      exact h30 a0 v4 (i2 + 1)
    · refine wm_iconst (1 : Int32) hX dX9_mayReach_49 (by decide) ?_
      refine wm_goto (tgt := 54) hX dX9_mayReach_50 (by decide) ?_
      refine wm_iand hX dX9_mayReach_54 ?_
      refine wm_leti (fun v5 => ?_)
      refine wm_istore_n [(1, .int v5), (0, .ref a0), (2, .int i2)] hX dX9_mayReach_55 rfl (by decide) rfl ?_
      refine wm_iinc (i2 + 1) 2 [(2, .int (i2 + 1)), (1, .int v5), (0, .ref a0)] hX dX9_mayReach_56 rfl rfl (by decide) rfl ?_
      refine wm_goto (tgt := 30) hX dX9_mayReach_59 (by decide) ?_
      refine wm_sub [2, 1, 0] [(0, .ref a0), (1, .int v5), (2, .int (i2 + 1))] rfl ?_
      exact h30 a0 v5 (i2 + 1)
theorem wl_Md_mayReach_30 {X : CX Int32} (hX : Cx X RX9 cX9_mayReach 3 rm_Md_mayReach) (hr : Rt X injI (some .boolean) rm_Md_mayReach.cells rm_Md_mayReach.slots) (hz : Zx X false) : ∀ (n : Nat) (a0 : Nat) (i1 : Int32) (i2 : Int32), WM X 30 [(0, .ref a0), (1, .int i1), (2, .int i2)] [] 0 0 (l_Md_mayReach_30 n a0 i1 i2)
  | 0, _, _, _ => wm_fl
  | n + 1, a0, i1, i2 => wb_Md_mayReach_30 hX hr hz (wl_Md_mayReach_30 hX hr hz n) a0 i1 i2
set_option maxRecDepth 20000 in
theorem w_Md_mayReach {X : CX Int32} (hX : Cx X RX9 cX9_mayReach 3 rm_Md_mayReach) (hr : Rt X injI (some .boolean) rm_Md_mayReach.cells rm_Md_mayReach.slots) (hz : Zx X false) (a0 : Nat) : WM X 0 [(0, .ref a0)] [] 0 0 (m_Md_mayReach a0) := by
  unfold m_Md_mayReach
  refine wm_ckd ?_
  refine wm_aload_n 0 hX dX9_mayReach_0 rfl rfl ?_
  refine wm_gI hX fl_RX9_160 dX9_mayReach_1 (fun v1 => ?_)
  refine wm_i2l hX dX9_mayReach_4 ?_
  refine wm_lconst (1 : Int64) hX dX9_mayReach_5 (by decide) ?_
  refine wm_ldc2 hX dX9_mayReach_6 wd_961 ?_
  refine wm_cSi (st := []) hX hz (i_Md_in (v1.toInt64) (1 : Int64) (2 : Int64)) cal_Md_in wd_896 rfl (fits_Md_mayReach_Md_in) (Nat.le_of_ble_eq_true rfl) dX9_mayReach_9 (fun v2 => ?_)
  refine wm_if_eq 26 hX dX9_mayReach_12 (by decide) ?_ ?_
  · refine wm_iconst (0 : Int32) hX dX9_mayReach_26 (by decide) ?_
    refine wm_istore_n [(1, .int (0 : Int32)), (0, .ref a0)] hX dX9_mayReach_27 rfl (by decide) rfl ?_
    refine wm_iconst (0 : Int32) hX dX9_mayReach_28 (by decide) ?_
    refine wm_istore_n [(2, .int (0 : Int32)), (1, .int (0 : Int32)), (0, .ref a0)] hX dX9_mayReach_29 rfl (by decide) rfl ?_
    refine wm_sub [2, 1, 0] [(0, .ref a0), (1, .int (0 : Int32)), (2, .int (0 : Int32))] rfl ?_
    exact wl_Md_mayReach_30 hX hr hz FU a0 (0 : Int32) (0 : Int32)
  · refine wm_aload_n 0 hX dX9_mayReach_15 rfl rfl ?_
    refine wm_gI hX fl_RX9_173 dX9_mayReach_16 (fun v3 => ?_)
    refine wm_if_ne 26 hX dX9_mayReach_19 (by decide) ?_ ?_
    · refine wm_iconst (0 : Int32) hX dX9_mayReach_26 (by decide) ?_
      refine wm_istore_n [(1, .int (0 : Int32)), (0, .ref a0)] hX dX9_mayReach_27 rfl (by decide) rfl ?_
      refine wm_iconst (0 : Int32) hX dX9_mayReach_28 (by decide) ?_
      refine wm_istore_n [(2, .int (0 : Int32)), (1, .int (0 : Int32)), (0, .ref a0)] hX dX9_mayReach_29 rfl (by decide) rfl ?_
      refine wm_sub [2, 1, 0] [(0, .ref a0), (1, .int (0 : Int32)), (2, .int (0 : Int32))] rfl ?_
      exact wl_Md_mayReach_30 hX hr hz FU a0 (0 : Int32) (0 : Int32)
    · refine wm_iconst (1 : Int32) hX dX9_mayReach_22 (by decide) ?_
      refine wm_goto (tgt := 27) hX dX9_mayReach_23 (by decide) ?_
      refine wm_istore_n [(1, .int (1 : Int32)), (0, .ref a0)] hX dX9_mayReach_27 rfl (by decide) rfl ?_
      refine wm_iconst (0 : Int32) hX dX9_mayReach_28 (by decide) ?_
      refine wm_istore_n [(2, .int (0 : Int32)), (1, .int (1 : Int32)), (0, .ref a0)] hX dX9_mayReach_29 rfl (by decide) rfl ?_
      refine wm_sub [2, 1, 0] [(0, .ref a0), (1, .int (1 : Int32)), (2, .int (0 : Int32))] rfl ?_
      exact wl_Md_mayReach_30 hX hr hz FU a0 (1 : Int32) (0 : Int32)
theorem i_Md_mayReach (a0 : Nat) : Im false yX9_mayReach cX9_mayReach 3 (some .boolean) rm_Md_mayReach injI [.ref a0] (m_Md_mayReach a0) := Im.of RX9 (by decide) rfl (Nat.le_of_ble_eq_true rfl) (fun X hX hr hn hz => w_Md_mayReach hX hr hz a0)
set_option maxRecDepth 20000 in
theorem wb_Md_tellRow_57 {X : CX Unit} (hX : Cx X RX9 cX9_tellRow 7 rm_Md_tellRow) (hr : Rt X injV none rm_Md_tellRow.cells rm_Md_tellRow.slots) (hz : Zx X false) {k57 : Nat → Int32 → Int32 → M Unit} (h57 : ∀ (a0 : Nat) (i5 : Int32) (i6 : Int32), WM X 57 [(0, .ref a0), (5, .int i5), (6, .int i6)] [] 0 0 (k57 a0 i5 i6)) (a0 : Nat) (i5 : Int32) (i6 : Int32) : WM X 57 [(0, .ref a0), (5, .int i5), (6, .int i6)] [] 0 0 (b_Md_tellRow_57 k57 a0 i5 i6) := by
  unfold b_Md_tellRow_57
  refine wm_iload 2 hX dX9_tellRow_57 rfl ?_
  refine wm_if_lt 91 hX dX9_tellRow_59 (by decide) ?_ ?_
  · exact wm_vret hX hr dX9_tellRow_91
  · refine wm_aload_n 0 hX dX9_tellRow_62 rfl rfl ?_
    refine wm_gR hX fl_RX9_81 dX9_tellRow_63 (fun v1 => ?_)
    refine wm_iload 2 hX dX9_tellRow_66 rfl ?_
    refine wm_aload_n 0 hX dX9_tellRow_68 rfl rfl ?_
    refine wm_gR hX fl_RX9_78 dX9_tellRow_69 (fun v2 => ?_)
    refine wm_iload 1 hX dX9_tellRow_72 rfl ?_
    refine wm_ldL hX dX9_tellRow_74 (fun v3 => ?_)
    refine wm_stL hX dX9_tellRow_75 ?_
    refine wm_aload_n 0 hX dX9_tellRow_76 rfl rfl ?_
    refine wm_gR hX fl_RX9_75 dX9_tellRow_77 (fun v4 => ?_)
    refine wm_iload 1 hX dX9_tellRow_80 rfl ?_
    refine wm_ldI hX dX9_tellRow_82 (fun v5 => ?_)
    refine wm_istore [(5, .int v5), (0, .ref a0), (6, .int i6)] hX dX9_tellRow_83 (by decide) rfl ?_
    refine wm_iinc (i6 + (-1)) 2 [(6, .int (i6 + (-1))), (5, .int v5), (0, .ref a0)] hX dX9_tellRow_85 rfl rfl (by decide) rfl ?_
    refine wm_goto (tgt := 57) hX dX9_tellRow_88 (by decide) ?_
    refine wm_sub [2, 1, 0] [(0, .ref a0), (5, .int v5), (6, .int (i6 + (-1)))] rfl ?_
    exact h57 a0 v5 (i6 + (-1))
theorem wl_Md_tellRow_57 {X : CX Unit} (hX : Cx X RX9 cX9_tellRow 7 rm_Md_tellRow) (hr : Rt X injV none rm_Md_tellRow.cells rm_Md_tellRow.slots) (hz : Zx X false) : ∀ (n : Nat) (a0 : Nat) (i5 : Int32) (i6 : Int32), WM X 57 [(0, .ref a0), (5, .int i5), (6, .int i6)] [] 0 0 (l_Md_tellRow_57 n a0 i5 i6)
  | 0, _, _, _ => wm_fl
  | n + 1, a0, i5, i6 => wb_Md_tellRow_57 hX hr hz (wl_Md_tellRow_57 hX hr hz n) a0 i5 i6
set_option maxRecDepth 20000 in
theorem wb_Md_tellRow_6 {X : CX Unit} (hX : Cx X RX9 cX9_tellRow 7 rm_Md_tellRow) (hr : Rt X injV none rm_Md_tellRow.cells rm_Md_tellRow.slots) (hz : Zx X false) {k6 : Nat → Int32 → Int64 → Int32 → Int32 → M Unit} (h6 : ∀ (a0 : Nat) (i1 : Int32) (l2 : Int64) (i4 : Int32) (i5 : Int32), WM X 6 [(0, .ref a0), (1, .int i1), (2, .long l2), (4, .int i4), (5, .int i5)] [] 0 0 (k6 a0 i1 l2 i4 i5)) (a0 : Nat) (i1 : Int32) (l2 : Int64) (i4 : Int32) (i5 : Int32) : WM X 6 [(0, .ref a0), (1, .int i1), (2, .long l2), (4, .int i4), (5, .int i5)] [] 0 0 (b_Md_tellRow_6 k6 a0 i1 l2 i4 i5) := by
  unfold b_Md_tellRow_6
  refine wm_aload_n 0 hX dX9_tellRow_6 rfl rfl ?_
  refine wm_gR hX fl_RX9_75 dX9_tellRow_7 (fun v1 => ?_)
  refine wm_iload 4 hX dX9_tellRow_10 rfl ?_
  refine wm_ldI hX dX9_tellRow_12 (fun v2 => ?_)
  refine wm_iconst (-1 : Int32) hX dX9_tellRow_13 (by decide) ?_
  refine wm_icmp_eq 32 hX dX9_tellRow_14 (by decide) ?_ ?_
  · refine wm_aload_n 0 hX dX9_tellRow_32 rfl rfl ?_
    refine wm_iload 3 hX dX9_tellRow_33 rfl ?_
    refine wm_pI hX fp_RX9_263 dX9_tellRow_35 ?_
    refine wm_aload_n 0 hX dX9_tellRow_38 rfl rfl ?_
    refine wm_gR hX fl_RX9_81 dX9_tellRow_39 (fun v3 => ?_)
    refine wm_iload 3 hX dX9_tellRow_42 rfl ?_
    refine wm_iconst (1 : Int32) hX dX9_tellRow_44 (by decide) ?_
    refine wm_isub hX dX9_tellRow_45 ?_
    refine wm_lload_n 2 hX dX9_tellRow_46 rfl rfl ?_
    refine wm_stL hX dX9_tellRow_47 ?_
    refine wm_iload_n 1 hX dX9_tellRow_48 rfl rfl ?_
    refine wm_istore [(5, .int i1), (0, .ref a0), (1, .int i1), (2, .long l2), (4, .int i4)] hX dX9_tellRow_49 (by decide) rfl ?_
    refine wm_iload 4 hX dX9_tellRow_51 rfl ?_
    refine wm_iconst (2 : Int32) hX dX9_tellRow_53 (by decide) ?_
    refine wm_isub hX dX9_tellRow_54 ?_
    refine wm_leti (fun v4 => ?_)
    refine wm_istore [(6, .int v4), (5, .int i1), (0, .ref a0), (1, .int i1), (2, .long l2), (4, .int i4)] hX dX9_tellRow_55 (by decide) rfl ?_
    refine wm_sub [2, 1, 0] [(0, .ref a0), (5, .int i1), (6, .int v4)] rfl ?_
    exact wl_Md_tellRow_57 hX hr hz FU a0 i1 v4
  · refine wm_iinc (i4 + 1) 3 [(4, .int (i4 + 1)), (0, .ref a0), (1, .int i1), (2, .long l2), (5, .int i5)] hX dX9_tellRow_17 rfl rfl (by decide) rfl ?_
    refine wm_aload_n 1 hX dX9_tellRow_20 rfl rfl ?_
    refine wm_gR hX fl_RX9_75 dX9_tellRow_21 (fun v5 => ?_)
    refine wm_iload 4 hX dX9_tellRow_24 rfl ?_
    refine wm_ldI hX dX9_tellRow_26 (fun v6 => ?_)
    refine wm_istore [(5, .int v6), (4, .int (i4 + 1)), (0, .ref a0), (1, .int i1), (2, .long l2)] hX dX9_tellRow_27 (by decide) rfl ?_
    refine wm_goto (tgt := 6) hX dX9_tellRow_29 (by decide) ?_
    refine wm_sub [2, 3, 4, 1, 0] [(0, .ref a0), (1, .int i1), (2, .long l2), (4, .int (i4 + 1)), (5, .int v6)] rfl ?_
    exact h6 a0 i1 l2 (i4 + 1) v6
theorem wl_Md_tellRow_6 {X : CX Unit} (hX : Cx X RX9 cX9_tellRow 7 rm_Md_tellRow) (hr : Rt X injV none rm_Md_tellRow.cells rm_Md_tellRow.slots) (hz : Zx X false) : ∀ (n : Nat) (a0 : Nat) (i1 : Int32) (l2 : Int64) (i4 : Int32) (i5 : Int32), WM X 6 [(0, .ref a0), (1, .int i1), (2, .long l2), (4, .int i4), (5, .int i5)] [] 0 0 (l_Md_tellRow_6 n a0 i1 l2 i4 i5)
  | 0, _, _, _, _, _ => wm_fl
  | n + 1, a0, i1, l2, i4, i5 => wb_Md_tellRow_6 hX hr hz (wl_Md_tellRow_6 hX hr hz n) a0 i1 l2 i4 i5
set_option maxRecDepth 20000 in
theorem w_Md_tellRow {X : CX Unit} (hX : Cx X RX9 cX9_tellRow 7 rm_Md_tellRow) (hr : Rt X injV none rm_Md_tellRow.cells rm_Md_tellRow.slots) (hz : Zx X false) (a0 : Nat) (i1 : Int32) (l2 : Int64) : WM X 0 [(0, .ref a0), (1, .int i1), (2, .long l2)] [] 0 0 (m_Md_tellRow a0 i1 l2) := by
  unfold m_Md_tellRow
  refine wm_ckd ?_
  refine wm_iconst (1 : Int32) hX dX9_tellRow_0 (by decide) ?_
  refine wm_istore [(4, .int (1 : Int32)), (0, .ref a0), (1, .int i1), (2, .long l2)] hX dX9_tellRow_1 (by decide) rfl ?_
  refine wm_iload_n 2 hX dX9_tellRow_3 rfl rfl ?_
  refine wm_istore [(5, .int i1), (4, .int (1 : Int32)), (0, .ref a0), (1, .int i1), (2, .long l2)] hX dX9_tellRow_4 (by decide) rfl ?_
  refine wm_sub [2, 3, 4, 1, 0] [(0, .ref a0), (1, .int i1), (2, .long l2), (4, .int (1 : Int32)), (5, .int i1)] rfl ?_
  exact wl_Md_tellRow_6 hX hr hz FU a0 i1 l2 (1 : Int32) i1
theorem i_Md_tellRow (a0 : Nat) (i1 : Int32) (l2 : Int64) : Im false yX9_tellRow cX9_tellRow 7 none rm_Md_tellRow injV [.ref a0, .int i1, .long l2] (m_Md_tellRow a0 i1 l2) := Im.of RX9 (by decide) rfl (Nat.le_of_ble_eq_true rfl) (fun X hX hr hn hz => w_Md_tellRow hX hr hz a0 i1 l2)
set_option maxRecDepth 20000 in
theorem w_Md_reach_286 {X : CX Int32} (hX : Cx X RX9 cX9_reach 15 rm_Md_reach) (hr : Rt X injI (some .int) rm_Md_reach.cells rm_Md_reach.slots) (hz : Zx X false) {k109 : Nat → Int64 → Int64 → Int64 → Int32 → M Int32} (h109 : ∀ (a0 : Nat) (l1 : Int64) (l3 : Int64) (l5 : Int64) (i7 : Int32), WM X 109 [(0, .ref a0), (1, .long l1), (3, .long l3), (5, .long l5), (7, .int i7)] [] 0 0 (k109 a0 l1 l3 l5 i7)) {k121 : Nat → Int64 → Int64 → Int64 → Int32 → Int64 → M Int32} (h121 : ∀ (a0 : Nat) (l1 : Int64) (l3 : Int64) (l5 : Int64) (i7 : Int32) (l8 : Int64), WM X 121 [(0, .ref a0), (1, .long l1), (3, .long l3), (5, .long l5), (7, .int i7), (8, .long l8)] [] 0 0 (k121 a0 l1 l3 l5 i7 l8)) (a0 : Nat) (l1 : Int64) (l3 : Int64) (l5 : Int64) (i7 : Int32) (l8 : Int64) (l10 : Int64) (l12 : Int64) (i14 : Int32) : WM X 286 [(0, .ref a0), (1, .long l1), (3, .long l3), (5, .long l5), (7, .int i7), (8, .long l8), (10, .long l10), (12, .long l12), (14, .int i14)] [] 0 0 (m_Md_reach_286 k109 k121 a0 l1 l3 l5 i7 l8 l10 l12 i14) := by
  unfold m_Md_reach_286
  refine wm_iload 8 hX dX9_reach_286 rfl ?_
  refine wm_aload_n 0 hX dX9_reach_288 rfl rfl ?_
  refine wm_gI hX fl_RX9_270 dX9_reach_289 (fun v1 => ?_)
  refine wm_icmp_ne 354 hX dX9_reach_292 (by decide) ?_ ?_
  · refine wm_lload 5 hX dX9_reach_354 rfl ?_
    refine wm_lconst (1 : Int64) hX dX9_reach_356 (by decide) ?_
    refine wm_ladd hX dX9_reach_357 ?_
    refine wm_letl (fun v2 => ?_)
    refine wm_lstore [(8, .long v2), (0, .ref a0), (1, .long l1), (3, .long l3), (5, .long l5), (7, .int i7), (10, .long l10), (12, .long l12), (14, .int i14)] hX dX9_reach_358 (by decide) rfl ?_
    refine wm_goto (tgt := 121) hX dX9_reach_360 (by decide) ?_
    refine wm_sub [1, 2, 3, 4, 5, 0] [(0, .ref a0), (1, .long l1), (3, .long l3), (5, .long l5), (7, .int i7), (8, .long v2)] rfl ?_
    exact h121 a0 l1 l3 l5 i7 v2
  · refine wm_aload_n 0 hX dX9_reach_295 rfl rfl ?_
    refine wm_gI hX fl_RX9_270 dX9_reach_296 (fun v3 => ?_)
    refine wm_sipush (500 : Int32) hX dX9_reach_299 (by decide) ?_
    refine wm_icmp_ne 308 hX dX9_reach_302 (by decide) ?_ ?_
    · refine wm_aload_n 0 hX dX9_reach_308 rfl rfl ?_
      refine wm_gR hX fl_RX9_69 dX9_reach_309 (fun v4 => ?_)
      refine wm_iload 8 hX dX9_reach_312 rfl ?_
      refine wm_lload 6 hX dX9_reach_314 rfl ?_
      refine wm_stL hX dX9_reach_316 ?_
      refine wm_aload_n 0 hX dX9_reach_317 rfl rfl ?_
      refine wm_gR hX fl_RX9_72 dX9_reach_318 (fun v5 => ?_)
      refine wm_iload 8 hX dX9_reach_321 rfl ?_
      refine wm_lload 7 hX dX9_reach_323 rfl ?_
      refine wm_stL hX dX9_reach_325 ?_
      refine wm_aload_n 0 hX dX9_reach_326 rfl rfl ?_
      refine wm_gR hX fl_RX9_75 dX9_reach_327 (fun v6 => ?_)
      refine wm_iload 8 hX dX9_reach_330 rfl ?_
      refine wm_iload 4 hX dX9_reach_332 rfl ?_
      refine wm_stI hX dX9_reach_334 ?_
      refine wm_aload_n 0 hX dX9_reach_335 rfl rfl ?_
      refine wm_gR hX fl_RX9_78 dX9_reach_336 (fun v7 => ?_)
      refine wm_iload 8 hX dX9_reach_339 rfl ?_
      refine wm_lload 5 hX dX9_reach_341 rfl ?_
      refine wm_stL hX dX9_reach_343 ?_
      refine wm_aload_n 0 hX dX9_reach_344 rfl rfl ?_
      refine wm_dup hX dX9_reach_345 rfl ?_
      refine wm_gI hX fl_RX9_270 dX9_reach_346 (fun v8 => ?_)
      refine wm_iconst (1 : Int32) hX dX9_reach_349 (by decide) ?_
      refine wm_iadd hX dX9_reach_350 ?_
      refine wm_pI hX fp_RX9_270 dX9_reach_351 ?_
      refine wm_lload 5 hX dX9_reach_354 rfl ?_
      refine wm_lconst (1 : Int64) hX dX9_reach_356 (by decide) ?_
      refine wm_ladd hX dX9_reach_357 ?_
      refine wm_letl (fun v9 => ?_)
      refine wm_lstore [(8, .long v9), (0, .ref a0), (1, .long l1), (3, .long l3), (5, .long l5), (7, .int i7), (10, .long l10), (12, .long l12), (14, .int i14)] hX dX9_reach_358 (by decide) rfl ?_
      refine wm_goto (tgt := 121) hX dX9_reach_360 (by decide) ?_
      refine wm_sub [1, 2, 3, 4, 5, 0] [(0, .ref a0), (1, .long l1), (3, .long l3), (5, .long l5), (7, .int i7), (8, .long v9)] rfl ?_
      exact h121 a0 l1 l3 l5 i7 v9
    · refine wm_bipush (-5 : Int32) hX dX9_reach_305 (by decide) ?_
      exact wm_iret hX hr dX9_reach_307
set_option maxRecDepth 20000 in
theorem wb_Md_reach_245 {X : CX Int32} (hX : Cx X RX9 cX9_reach 15 rm_Md_reach) (hr : Rt X injI (some .int) rm_Md_reach.cells rm_Md_reach.slots) (hz : Zx X false) {k109 : Nat → Int64 → Int64 → Int64 → Int32 → M Int32} (h109 : ∀ (a0 : Nat) (l1 : Int64) (l3 : Int64) (l5 : Int64) (i7 : Int32), WM X 109 [(0, .ref a0), (1, .long l1), (3, .long l3), (5, .long l5), (7, .int i7)] [] 0 0 (k109 a0 l1 l3 l5 i7)) {k121 : Nat → Int64 → Int64 → Int64 → Int32 → Int64 → M Int32} (h121 : ∀ (a0 : Nat) (l1 : Int64) (l3 : Int64) (l5 : Int64) (i7 : Int32) (l8 : Int64), WM X 121 [(0, .ref a0), (1, .long l1), (3, .long l3), (5, .long l5), (7, .int i7), (8, .long l8)] [] 0 0 (k121 a0 l1 l3 l5 i7 l8)) {k245 : Nat → Int64 → Int64 → Int64 → Int32 → Int64 → Int64 → Int64 → Int32 → M Int32} (h245 : ∀ (a0 : Nat) (l1 : Int64) (l3 : Int64) (l5 : Int64) (i7 : Int32) (l8 : Int64) (l10 : Int64) (l12 : Int64) (i14 : Int32), WM X 245 [(0, .ref a0), (1, .long l1), (3, .long l3), (5, .long l5), (7, .int i7), (8, .long l8), (10, .long l10), (12, .long l12), (14, .int i14)] [] 0 0 (k245 a0 l1 l3 l5 i7 l8 l10 l12 i14)) (a0 : Nat) (l1 : Int64) (l3 : Int64) (l5 : Int64) (i7 : Int32) (l8 : Int64) (l10 : Int64) (l12 : Int64) (i14 : Int32) : WM X 245 [(0, .ref a0), (1, .long l1), (3, .long l3), (5, .long l5), (7, .int i7), (8, .long l8), (10, .long l10), (12, .long l12), (14, .int i14)] [] 0 0 (b_Md_reach_245 k109 k121 k245 a0 l1 l3 l5 i7 l8 l10 l12 i14) := by
  unfold b_Md_reach_245
  refine wm_iload 8 hX dX9_reach_245 rfl ?_
  refine wm_aload_n 0 hX dX9_reach_247 rfl rfl ?_
  refine wm_gI hX fl_RX9_270 dX9_reach_248 (fun v1 => ?_)
  refine wm_icmp_ge 286 hX dX9_reach_251 (by decide) ?_ ?_
  · exact w_Md_reach_286 hX hr hz h109 h121 a0 l1 l3 l5 i7 l8 l10 l12 i14
  · refine wm_aload_n 0 hX dX9_reach_254 rfl rfl ?_
    refine wm_gR hX fl_RX9_69 dX9_reach_255 (fun v2 => ?_)
    refine wm_iload 8 hX dX9_reach_258 rfl ?_
    refine wm_ldL hX dX9_reach_260 (fun v3 => ?_)
    refine wm_lload 6 hX dX9_reach_261 rfl ?_
    refine wm_lif_ne 280 hX dX9_reach_263 dX9_reach_264 (by decide) ?_ ?_
    · refine wm_iinc (i14 + 1) 8 [(14, .int (i14 + 1)), (0, .ref a0), (1, .long l1), (3, .long l3), (5, .long l5), (7, .int i7), (8, .long l8), (10, .long l10), (12, .long l12)] hX dX9_reach_280 rfl rfl (by decide) rfl ?_
      refine wm_goto (tgt := 245) hX dX9_reach_283 (by decide) ?_
      refine wm_sub [1, 2, 3, 4, 5, 6, 7, 8, 0] [(0, .ref a0), (1, .long l1), (3, .long l3), (5, .long l5), (7, .int i7), (8, .long l8), (10, .long l10), (12, .long l12), (14, .int (i14 + 1))] rfl ?_
      exact h245 a0 l1 l3 l5 i7 l8 l10 l12 (i14 + 1)
    · refine wm_aload_n 0 hX dX9_reach_267 rfl rfl ?_
      refine wm_gR hX fl_RX9_72 dX9_reach_268 (fun v4 => ?_)
      refine wm_iload 8 hX dX9_reach_271 rfl ?_
      refine wm_ldL hX dX9_reach_273 (fun v5 => ?_)
      refine wm_lload 7 hX dX9_reach_274 rfl ?_
      refine wm_lif_eq 286 hX dX9_reach_276 dX9_reach_277 (by decide) ?_ ?_
      · exact w_Md_reach_286 hX hr hz h109 h121 a0 l1 l3 l5 i7 l8 l10 l12 i14
      · refine wm_iinc (i14 + 1) 8 [(14, .int (i14 + 1)), (0, .ref a0), (1, .long l1), (3, .long l3), (5, .long l5), (7, .int i7), (8, .long l8), (10, .long l10), (12, .long l12)] hX dX9_reach_280 rfl rfl (by decide) rfl ?_
        refine wm_goto (tgt := 245) hX dX9_reach_283 (by decide) ?_
        refine wm_sub [1, 2, 3, 4, 5, 6, 7, 8, 0] [(0, .ref a0), (1, .long l1), (3, .long l3), (5, .long l5), (7, .int i7), (8, .long l8), (10, .long l10), (12, .long l12), (14, .int (i14 + 1))] rfl ?_
        exact h245 a0 l1 l3 l5 i7 l8 l10 l12 (i14 + 1)
theorem wl_Md_reach_245 {X : CX Int32} (hX : Cx X RX9 cX9_reach 15 rm_Md_reach) (hr : Rt X injI (some .int) rm_Md_reach.cells rm_Md_reach.slots) (hz : Zx X false) {k109 : Nat → Int64 → Int64 → Int64 → Int32 → M Int32} (h109 : ∀ (a0 : Nat) (l1 : Int64) (l3 : Int64) (l5 : Int64) (i7 : Int32), WM X 109 [(0, .ref a0), (1, .long l1), (3, .long l3), (5, .long l5), (7, .int i7)] [] 0 0 (k109 a0 l1 l3 l5 i7)) {k121 : Nat → Int64 → Int64 → Int64 → Int32 → Int64 → M Int32} (h121 : ∀ (a0 : Nat) (l1 : Int64) (l3 : Int64) (l5 : Int64) (i7 : Int32) (l8 : Int64), WM X 121 [(0, .ref a0), (1, .long l1), (3, .long l3), (5, .long l5), (7, .int i7), (8, .long l8)] [] 0 0 (k121 a0 l1 l3 l5 i7 l8)) : ∀ (n : Nat) (a0 : Nat) (l1 : Int64) (l3 : Int64) (l5 : Int64) (i7 : Int32) (l8 : Int64) (l10 : Int64) (l12 : Int64) (i14 : Int32), WM X 245 [(0, .ref a0), (1, .long l1), (3, .long l3), (5, .long l5), (7, .int i7), (8, .long l8), (10, .long l10), (12, .long l12), (14, .int i14)] [] 0 0 (l_Md_reach_245 k109 k121 n a0 l1 l3 l5 i7 l8 l10 l12 i14)
  | 0, _, _, _, _, _, _, _, _, _ => wm_fl
  | n + 1, a0, l1, l3, l5, i7, l8, l10, l12, i14 => wb_Md_reach_245 hX hr hz h109 h121 (wl_Md_reach_245 hX hr hz h109 h121 n) a0 l1 l3 l5 i7 l8 l10 l12 i14
set_option maxRecDepth 20000 in
theorem w_Md_reach_198 {X : CX Int32} (hX : Cx X RX9 cX9_reach 15 rm_Md_reach) (hr : Rt X injI (some .int) rm_Md_reach.cells rm_Md_reach.slots) (hz : Zx X false) {k109 : Nat → Int64 → Int64 → Int64 → Int32 → M Int32} (h109 : ∀ (a0 : Nat) (l1 : Int64) (l3 : Int64) (l5 : Int64) (i7 : Int32), WM X 109 [(0, .ref a0), (1, .long l1), (3, .long l3), (5, .long l5), (7, .int i7)] [] 0 0 (k109 a0 l1 l3 l5 i7)) {k121 : Nat → Int64 → Int64 → Int64 → Int32 → Int64 → M Int32} (h121 : ∀ (a0 : Nat) (l1 : Int64) (l3 : Int64) (l5 : Int64) (i7 : Int32) (l8 : Int64), WM X 121 [(0, .ref a0), (1, .long l1), (3, .long l3), (5, .long l5), (7, .int i7), (8, .long l8)] [] 0 0 (k121 a0 l1 l3 l5 i7 l8)) (a0 : Nat) (l1 : Int64) (l3 : Int64) (l5 : Int64) (i7 : Int32) (l8 : Int64) (l10 : Int64) (s0 : Int64) : WM X 198 [(0, .ref a0), (1, .long l1), (3, .long l3), (5, .long l5), (7, .int i7), (8, .long l8), (10, .long l10)] [.long s0] 0 0 (m_Md_reach_198 k109 k121 a0 l1 l3 l5 i7 l8 l10 s0) := by
  unfold m_Md_reach_198
  refine wm_lstore [(12, .long s0), (0, .ref a0), (1, .long l1), (3, .long l3), (5, .long l5), (7, .int i7), (8, .long l8), (10, .long l10)] hX dX9_reach_198 (by decide) rfl ?_
  refine wm_lload 7 hX dX9_reach_200 rfl ?_
  refine wm_lload 4 hX dX9_reach_202 rfl ?_
  refine wm_lneg hX dX9_reach_204 ?_
  refine wm_lload 4 hX dX9_reach_205 rfl ?_
  refine wm_cSi (st := []) hX hz (i_Md_in l10 (-l5) l5) cal_Md_in wd_896 rfl (fits_Md_reach_Md_in) (Nat.le_of_ble_eq_true rfl) dX9_reach_207 (fun v1 => ?_)
  refine wm_if_eq 226 hX dX9_reach_210 (by decide) ?_ ?_
  · refine wm_aload_n 1 hX dX9_reach_226 rfl rfl ?_
    refine wm_iload 5 hX dX9_reach_227 rfl ?_
    refine wm_lload 6 hX dX9_reach_229 rfl ?_
    refine wm_cVv (st := []) hX hz (i_Md_tellRow a0 i7 l8) Ckd.of rfl cal_Md_tellRow wd_1110 rfl (fits_Md_reach_Md_tellRow) (Nat.le_of_ble_eq_true rfl) dX9_reach_231 ?_
    refine wm_bipush (-100 : Int32) hX dX9_reach_234 (by decide) ?_
    refine wm_aload_n 1 hX dX9_reach_236 rfl rfl ?_
    refine wm_gI hX fl_RX9_263 dX9_reach_237 (fun v2 => ?_)
    refine wm_isub hX dX9_reach_240 ?_
    exact wm_iret hX hr dX9_reach_241
  · refine wm_lload 0 hX dX9_reach_213 rfl ?_
    refine wm_lload 4 hX dX9_reach_215 rfl ?_
    refine wm_lneg hX dX9_reach_217 ?_
    refine wm_lload 4 hX dX9_reach_218 rfl ?_
    refine wm_cSi (st := []) hX hz (i_Md_in s0 (-l5) l5) cal_Md_in wd_896 rfl (fits_Md_reach_Md_in) (Nat.le_of_ble_eq_true rfl) dX9_reach_220 (fun v3 => ?_)
    refine wm_if_ne 242 hX dX9_reach_223 (by decide) ?_ ?_
    · refine wm_iconst (0 : Int32) hX dX9_reach_242 (by decide) ?_
      refine wm_istore [(14, .int (0 : Int32)), (12, .long s0), (0, .ref a0), (1, .long l1), (3, .long l3), (5, .long l5), (7, .int i7), (8, .long l8), (10, .long l10)] hX dX9_reach_243 (by decide) rfl ?_
      refine wm_sub [2, 3, 4, 5, 6, 7, 8, 1, 0] [(0, .ref a0), (1, .long l1), (3, .long l3), (5, .long l5), (7, .int i7), (8, .long l8), (10, .long l10), (12, .long s0), (14, .int (0 : Int32))] rfl ?_
      exact wl_Md_reach_245 hX hr hz h109 h121 FU a0 l1 l3 l5 i7 l8 l10 s0 (0 : Int32)
    · refine wm_aload_n 1 hX dX9_reach_226 rfl rfl ?_
      refine wm_iload 5 hX dX9_reach_227 rfl ?_
      refine wm_lload 6 hX dX9_reach_229 rfl ?_
      refine wm_cVv (st := []) hX hz (i_Md_tellRow a0 i7 l8) Ckd.of rfl cal_Md_tellRow wd_1110 rfl (fits_Md_reach_Md_tellRow) (Nat.le_of_ble_eq_true rfl) dX9_reach_231 ?_
      refine wm_bipush (-100 : Int32) hX dX9_reach_234 (by decide) ?_
      refine wm_aload_n 1 hX dX9_reach_236 rfl rfl ?_
      refine wm_gI hX fl_RX9_263 dX9_reach_237 (fun v4 => ?_)
      refine wm_isub hX dX9_reach_240 ?_
      exact wm_iret hX hr dX9_reach_241
set_option maxRecDepth 20000 in
theorem wb_Md_reach_121 {X : CX Int32} (hX : Cx X RX9 cX9_reach 15 rm_Md_reach) (hr : Rt X injI (some .int) rm_Md_reach.cells rm_Md_reach.slots) (hz : Zx X false) {k109 : Nat → Int64 → Int64 → Int64 → Int32 → M Int32} (h109 : ∀ (a0 : Nat) (l1 : Int64) (l3 : Int64) (l5 : Int64) (i7 : Int32), WM X 109 [(0, .ref a0), (1, .long l1), (3, .long l3), (5, .long l5), (7, .int i7)] [] 0 0 (k109 a0 l1 l3 l5 i7)) {k121 : Nat → Int64 → Int64 → Int64 → Int32 → Int64 → M Int32} (h121 : ∀ (a0 : Nat) (l1 : Int64) (l3 : Int64) (l5 : Int64) (i7 : Int32) (l8 : Int64), WM X 121 [(0, .ref a0), (1, .long l1), (3, .long l3), (5, .long l5), (7, .int i7), (8, .long l8)] [] 0 0 (k121 a0 l1 l3 l5 i7 l8)) (a0 : Nat) (l1 : Int64) (l3 : Int64) (l5 : Int64) (i7 : Int32) (l8 : Int64) : WM X 121 [(0, .ref a0), (1, .long l1), (3, .long l3), (5, .long l5), (7, .int i7), (8, .long l8)] [] 0 0 (b_Md_reach_121 k109 k121 a0 l1 l3 l5 i7 l8) := by
  unfold b_Md_reach_121
  refine wm_lload 5 hX dX9_reach_121 rfl ?_
  refine wm_lload_n 2 hX dX9_reach_123 rfl rfl ?_
  refine wm_lif_gt 363 hX dX9_reach_124 dX9_reach_125 (by decide) ?_ ?_
  · refine wm_iinc (i7 + 1) 4 [(7, .int (i7 + 1)), (0, .ref a0), (1, .long l1), (3, .long l3), (5, .long l5), (8, .long l8)] hX dX9_reach_363 rfl rfl (by decide) rfl ?_
    refine wm_goto (tgt := 109) hX dX9_reach_366 (by decide) ?_
    refine wm_sub [1, 2, 3, 4, 0] [(0, .ref a0), (1, .long l1), (3, .long l3), (5, .long l5), (7, .int (i7 + 1))] rfl ?_
    exact h109 a0 l1 l3 l5 (i7 + 1)
  · refine wm_aload_n 0 hX dX9_reach_128 rfl rfl ?_
    refine wm_cVv (st := []) hX hz (i_Md_take a0) Ckd.of rfl cal_Md_take wd_983 rfl (fits_Md_reach_Md_take) (Nat.le_of_ble_eq_true rfl) dX9_reach_129 ?_
    refine wm_aload_n 0 hX dX9_reach_132 rfl rfl ?_
    refine wm_gR hX fl_RX9_51 dX9_reach_133 (fun v1 => ?_)
    refine wm_iconst (0 : Int32) hX dX9_reach_136 (by decide) ?_
    refine wm_aload_n 0 hX dX9_reach_137 rfl rfl ?_
    refine wm_gR hX fl_RX9_69 dX9_reach_138 (fun v2 => ?_)
    refine wm_iload 4 hX dX9_reach_141 rfl ?_
    refine wm_ldL hX dX9_reach_143 (fun v3 => ?_)
    refine wm_stL hX dX9_reach_144 ?_
    refine wm_aload_n 0 hX dX9_reach_145 rfl rfl ?_
    refine wm_gR hX fl_RX9_51 dX9_reach_146 (fun v4 => ?_)
    refine wm_bipush (6 : Int32) hX dX9_reach_149 (by decide) ?_
    refine wm_aload_n 0 hX dX9_reach_151 rfl rfl ?_
    refine wm_gR hX fl_RX9_72 dX9_reach_152 (fun v5 => ?_)
    refine wm_iload 4 hX dX9_reach_155 rfl ?_
    refine wm_ldL hX dX9_reach_157 (fun v6 => ?_)
    refine wm_stL hX dX9_reach_158 ?_
    refine wm_aload_n 0 hX dX9_reach_159 rfl rfl ?_
    refine wm_lload 5 hX dX9_reach_160 rfl ?_
    refine wm_cVi (st := []) hX hz (i_Md_tries a0 l8) Ckd.of rfl cal_Md_tries wd_987 rfl (fits_Md_reach_Md_tries) (Nat.le_of_ble_eq_true rfl) dX9_reach_162 (fun v7 => ?_)
    refine wm_if_ne 171 hX dX9_reach_165 (by decide) ?_ ?_
    · refine wm_aload_n 0 hX dX9_reach_171 rfl rfl ?_
      refine wm_gR hX fl_RX9_51 dX9_reach_172 (fun v8 => ?_)
      refine wm_iconst (0 : Int32) hX dX9_reach_175 (by decide) ?_
      refine wm_ldL hX dX9_reach_176 (fun v9 => ?_)
      refine wm_lstore [(10, .long v9), (0, .ref a0), (1, .long l1), (3, .long l3), (5, .long l5), (7, .int i7), (8, .long l8)] hX dX9_reach_177 (by decide) rfl ?_
      refine wm_aload_n 1 hX dX9_reach_179 rfl rfl ?_
      refine wm_gI hX fl_RX9_160 dX9_reach_180 (fun v10 => ?_)
      refine wm_iconst (1 : Int32) hX dX9_reach_183 (by decide) ?_
      refine wm_icmp_le 197 hX dX9_reach_184 (by decide) ?_ ?_
      · refine wm_lconst (0 : Int64) hX dX9_reach_197 (by decide) ?_
        refine wm_sub [1, 2, 3, 4, 5, 6, 0] [(0, .ref a0), (1, .long l1), (3, .long l3), (5, .long l5), (7, .int i7), (8, .long l8), (10, .long v9)] rfl ?_
        exact w_Md_reach_198 hX hr hz h109 h121 a0 l1 l3 l5 i7 l8 v9 (0 : Int64)
      · refine wm_aload_n 1 hX dX9_reach_187 rfl rfl ?_
        refine wm_gR hX fl_RX9_51 dX9_reach_188 (fun v11 => ?_)
        refine wm_bipush (6 : Int32) hX dX9_reach_191 (by decide) ?_
        refine wm_ldL hX dX9_reach_193 (fun v12 => ?_)
        refine wm_goto (tgt := 198) hX dX9_reach_194 (by decide) ?_
        refine wm_sub [1, 2, 3, 4, 5, 6, 0] [(0, .ref a0), (1, .long l1), (3, .long l3), (5, .long l5), (7, .int i7), (8, .long l8), (10, .long v9)] rfl ?_
        exact w_Md_reach_198 hX hr hz h109 h121 a0 l1 l3 l5 i7 l8 v9 v12
    · refine wm_bipush (-6 : Int32) hX dX9_reach_168 (by decide) ?_
      exact wm_iret hX hr dX9_reach_170
theorem wl_Md_reach_121 {X : CX Int32} (hX : Cx X RX9 cX9_reach 15 rm_Md_reach) (hr : Rt X injI (some .int) rm_Md_reach.cells rm_Md_reach.slots) (hz : Zx X false) {k109 : Nat → Int64 → Int64 → Int64 → Int32 → M Int32} (h109 : ∀ (a0 : Nat) (l1 : Int64) (l3 : Int64) (l5 : Int64) (i7 : Int32), WM X 109 [(0, .ref a0), (1, .long l1), (3, .long l3), (5, .long l5), (7, .int i7)] [] 0 0 (k109 a0 l1 l3 l5 i7)) : ∀ (n : Nat) (a0 : Nat) (l1 : Int64) (l3 : Int64) (l5 : Int64) (i7 : Int32) (l8 : Int64), WM X 121 [(0, .ref a0), (1, .long l1), (3, .long l3), (5, .long l5), (7, .int i7), (8, .long l8)] [] 0 0 (l_Md_reach_121 k109 n a0 l1 l3 l5 i7 l8)
  | 0, _, _, _, _, _, _ => wm_fl
  | n + 1, a0, l1, l3, l5, i7, l8 => wb_Md_reach_121 hX hr hz h109 (wl_Md_reach_121 hX hr hz h109 n) a0 l1 l3 l5 i7 l8
set_option maxRecDepth 20000 in
theorem wb_Md_reach_109 {X : CX Int32} (hX : Cx X RX9 cX9_reach 15 rm_Md_reach) (hr : Rt X injI (some .int) rm_Md_reach.cells rm_Md_reach.slots) (hz : Zx X false) {k109 : Nat → Int64 → Int64 → Int64 → Int32 → M Int32} (h109 : ∀ (a0 : Nat) (l1 : Int64) (l3 : Int64) (l5 : Int64) (i7 : Int32), WM X 109 [(0, .ref a0), (1, .long l1), (3, .long l3), (5, .long l5), (7, .int i7)] [] 0 0 (k109 a0 l1 l3 l5 i7)) (a0 : Nat) (l1 : Int64) (l3 : Int64) (l5 : Int64) (i7 : Int32) : WM X 109 [(0, .ref a0), (1, .long l1), (3, .long l3), (5, .long l5), (7, .int i7)] [] 0 0 (b_Md_reach_109 k109 a0 l1 l3 l5 i7) := by
  unfold b_Md_reach_109
  refine wm_iload 4 hX dX9_reach_109 rfl ?_
  refine wm_aload_n 0 hX dX9_reach_111 rfl rfl ?_
  refine wm_gI hX fl_RX9_270 dX9_reach_112 (fun v1 => ?_)
  refine wm_icmp_ge 369 hX dX9_reach_115 (by decide) ?_ ?_
  · refine wm_aload_n 0 hX dX9_reach_369 rfl rfl ?_
    refine wm_gI hX fl_RX9_270 dX9_reach_370 (fun v2 => ?_)
    exact wm_iret hX hr dX9_reach_373
  · refine wm_lload_n 1 hX dX9_reach_118 rfl rfl ?_
    refine wm_lstore [(8, .long l1), (0, .ref a0), (1, .long l1), (3, .long l3), (5, .long l5), (7, .int i7)] hX dX9_reach_119 (by decide) rfl ?_
    refine wm_sub [1, 2, 3, 4, 5, 0] [(0, .ref a0), (1, .long l1), (3, .long l3), (5, .long l5), (7, .int i7), (8, .long l1)] rfl ?_
    exact wl_Md_reach_121 hX hr hz h109 FU a0 l1 l3 l5 i7 l1
theorem wl_Md_reach_109 {X : CX Int32} (hX : Cx X RX9 cX9_reach 15 rm_Md_reach) (hr : Rt X injI (some .int) rm_Md_reach.cells rm_Md_reach.slots) (hz : Zx X false) : ∀ (n : Nat) (a0 : Nat) (l1 : Int64) (l3 : Int64) (l5 : Int64) (i7 : Int32), WM X 109 [(0, .ref a0), (1, .long l1), (3, .long l3), (5, .long l5), (7, .int i7)] [] 0 0 (l_Md_reach_109 n a0 l1 l3 l5 i7)
  | 0, _, _, _, _, _ => wm_fl
  | n + 1, a0, l1, l3, l5, i7 => wb_Md_reach_109 hX hr hz (wl_Md_reach_109 hX hr hz n) a0 l1 l3 l5 i7
set_option maxRecDepth 20000 in
theorem w_Md_reach {X : CX Int32} (hX : Cx X RX9 cX9_reach 15 rm_Md_reach) (hr : Rt X injI (some .int) rm_Md_reach.cells rm_Md_reach.slots) (hz : Zx X false) (a0 : Nat) (l1 : Int64) (l3 : Int64) (l5 : Int64) : WM X 0 [(0, .ref a0), (1, .long l1), (3, .long l3), (5, .long l5)] [] 0 0 (m_Md_reach a0 l1 l3 l5) := by
  unfold m_Md_reach
  refine wm_ckd ?_
  refine wm_lload_n 1 hX dX9_reach_0 rfl rfl ?_
  refine wm_cSi (st := []) hX hz (i_Md_isSample l1) cal_Md_isSample wd_963 rfl (fits_Md_reach_Md_isSample) (Nat.le_of_ble_eq_true rfl) dX9_reach_1 (fun v1 => ?_)
  refine wm_if_eq 39 hX dX9_reach_4 (by decide) ?_ ?_
  · refine wm_bipush (-2 : Int32) hX dX9_reach_39 (by decide) ?_
    exact wm_iret hX hr dX9_reach_41
  · refine wm_lload_n 2 hX dX9_reach_7 rfl rfl ?_
    refine wm_cSi (st := []) hX hz (i_Md_isSample l3) cal_Md_isSample wd_963 rfl (fits_Md_reach_Md_isSample) (Nat.le_of_ble_eq_true rfl) dX9_reach_8 (fun v2 => ?_)
    refine wm_if_eq 39 hX dX9_reach_11 (by decide) ?_ ?_
    · refine wm_bipush (-2 : Int32) hX dX9_reach_39 (by decide) ?_
      exact wm_iret hX hr dX9_reach_41
    · refine wm_lload_n 2 hX dX9_reach_14 rfl rfl ?_
      refine wm_lload_n 1 hX dX9_reach_15 rfl rfl ?_
      refine wm_lsub hX dX9_reach_16 ?_
      refine wm_lconst (0 : Int64) hX dX9_reach_17 (by decide) ?_
      refine wm_ldc2 hX dX9_reach_18 wd_1044 ?_
      refine wm_cSi (st := []) hX hz (i_Md_in (l3 - l1) (0 : Int64) (6 : Int64)) cal_Md_in wd_896 rfl (fits_Md_reach_Md_in) (Nat.le_of_ble_eq_true rfl) dX9_reach_21 (fun v3 => ?_)
      refine wm_if_eq 39 hX dX9_reach_24 (by decide) ?_ ?_
      · refine wm_bipush (-2 : Int32) hX dX9_reach_39 (by decide) ?_
        exact wm_iret hX hr dX9_reach_41
      · refine wm_lload 3 hX dX9_reach_27 rfl ?_
        refine wm_lconst (1 : Int64) hX dX9_reach_29 (by decide) ?_
        refine wm_ldc2 hX dX9_reach_30 wd_954 ?_
        refine wm_cSi (st := []) hX hz (i_Md_in l5 (1 : Int64) (1000000000000000 : Int64)) cal_Md_in wd_896 rfl (fits_Md_reach_Md_in) (Nat.le_of_ble_eq_true rfl) dX9_reach_33 (fun v4 => ?_)
        refine wm_if_ne 42 hX dX9_reach_36 (by decide) ?_ ?_
        · refine wm_aload_n 0 hX dX9_reach_42 rfl rfl ?_
          refine wm_cVi (st := []) hX hz (i_Md_mayReach a0) Ckd.of rfl cal_Md_mayReach wd_1106 rfl (fits_Md_reach_Md_mayReach) (Nat.le_of_ble_eq_true rfl) dX9_reach_43 (fun v5 => ?_)
          refine wm_if_ne 52 hX dX9_reach_46 (by decide) ?_ ?_
          · refine wm_aload_n 0 hX dX9_reach_52 rfl rfl ?_
            refine wm_iconst (0 : Int32) hX dX9_reach_53 (by decide) ?_
            refine wm_pI hX fp_RX9_263 dX9_reach_54 ?_
            refine wm_aload_n 0 hX dX9_reach_57 rfl rfl ?_
            refine wm_iconst (1 : Int32) hX dX9_reach_58 (by decide) ?_
            refine wm_pI hX fp_RX9_270 dX9_reach_59 ?_
            refine wm_aload_n 0 hX dX9_reach_62 rfl rfl ?_
            refine wm_gR hX fl_RX9_69 dX9_reach_63 (fun v6 => ?_)
            refine wm_iconst (0 : Int32) hX dX9_reach_66 (by decide) ?_
            refine wm_aload_n 0 hX dX9_reach_67 rfl rfl ?_
            refine wm_gR hX fl_RX9_39 dX9_reach_68 (fun v7 => ?_)
            refine wm_iconst (0 : Int32) hX dX9_reach_71 (by decide) ?_
            refine wm_ldL hX dX9_reach_72 (fun v8 => ?_)
            refine wm_stL hX dX9_reach_73 ?_
            refine wm_aload_n 0 hX dX9_reach_74 rfl rfl ?_
            refine wm_gR hX fl_RX9_72 dX9_reach_75 (fun v9 => ?_)
            refine wm_iconst (0 : Int32) hX dX9_reach_78 (by decide) ?_
            refine wm_aload_n 0 hX dX9_reach_79 rfl rfl ?_
            refine wm_gI hX fl_RX9_160 dX9_reach_80 (fun v10 => ?_)
            refine wm_iconst (1 : Int32) hX dX9_reach_83 (by decide) ?_
            refine wm_icmp_le 97 hX dX9_reach_84 (by decide) ?_ ?_
            · refine wm_lconst (0 : Int64) hX dX9_reach_97 (by decide) ?_
              refine wm_stL hX dX9_reach_98 ?_
              refine wm_aload_n 0 hX dX9_reach_99 rfl rfl ?_
              refine wm_gR hX fl_RX9_75 dX9_reach_100 (fun v11 => ?_)
              refine wm_iconst (0 : Int32) hX dX9_reach_103 (by decide) ?_
              refine wm_iconst (-1 : Int32) hX dX9_reach_104 (by decide) ?_
              refine wm_stI hX dX9_reach_105 ?_
              refine wm_iconst (0 : Int32) hX dX9_reach_106 (by decide) ?_
              refine wm_istore [(7, .int (0 : Int32)), (0, .ref a0), (1, .long l1), (3, .long l3), (5, .long l5)] hX dX9_reach_107 (by decide) rfl ?_
              refine wm_sub [1, 2, 3, 4, 0] [(0, .ref a0), (1, .long l1), (3, .long l3), (5, .long l5), (7, .int (0 : Int32))] rfl ?_
              exact wl_Md_reach_109 hX hr hz FU a0 l1 l3 l5 (0 : Int32)
            · refine wm_aload_n 0 hX dX9_reach_87 rfl rfl ?_
              refine wm_gR hX fl_RX9_39 dX9_reach_88 (fun v12 => ?_)
              refine wm_bipush (6 : Int32) hX dX9_reach_91 (by decide) ?_
              refine wm_ldL hX dX9_reach_93 (fun v13 => ?_)
              refine wm_goto (tgt := 98) hX dX9_reach_94 (by decide) ?_
              refine wm_stL hX dX9_reach_98 ?_
              refine wm_aload_n 0 hX dX9_reach_99 rfl rfl ?_
              refine wm_gR hX fl_RX9_75 dX9_reach_100 (fun v14 => ?_)
              refine wm_iconst (0 : Int32) hX dX9_reach_103 (by decide) ?_
              refine wm_iconst (-1 : Int32) hX dX9_reach_104 (by decide) ?_
              refine wm_stI hX dX9_reach_105 ?_
              refine wm_iconst (0 : Int32) hX dX9_reach_106 (by decide) ?_
              refine wm_istore [(7, .int (0 : Int32)), (0, .ref a0), (1, .long l1), (3, .long l3), (5, .long l5)] hX dX9_reach_107 (by decide) rfl ?_
              refine wm_sub [1, 2, 3, 4, 0] [(0, .ref a0), (1, .long l1), (3, .long l3), (5, .long l5), (7, .int (0 : Int32))] rfl ?_
              exact wl_Md_reach_109 hX hr hz FU a0 l1 l3 l5 (0 : Int32)
          · refine wm_bipush (-7 : Int32) hX dX9_reach_49 (by decide) ?_
            exact wm_iret hX hr dX9_reach_51
        · refine wm_bipush (-2 : Int32) hX dX9_reach_39 (by decide) ?_
          exact wm_iret hX hr dX9_reach_41
theorem i_Md_reach (a0 : Nat) (l1 : Int64) (l3 : Int64) (l5 : Int64) : Im false yX9_reach cX9_reach 15 (some .int) rm_Md_reach injI [.ref a0, .long l1, .long l3, .long l5] (m_Md_reach a0 l1 l3 l5) := Im.of RX9 (by decide) rfl (Nat.le_of_ble_eq_true rfl) (fun X hX hr hn hz => w_Md_reach hX hr hz a0 l1 l3 l5)
