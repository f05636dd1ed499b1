set_option maxHeartbeats 4000000 in
set_option maxRecDepth 100000 in
theorem T9_shakeAndHop {l : Launch} {G : mw_G} {b : Nat} {p1 : Int32} {p2 : Int32} {p3 : Int32} {μ : mw_M} {Q : mw_M → Prop} (hb : kdX[b]? = some (.inl (9, dsX9 b))) (hO : P9_shakeAndHop b p1 p2 p3 μ Q) : mw_Mv l G kdX yX9_shakeAndHop cX9_shakeAndHop 7 none 3 89 [.ref (mw_a G b), .int p1, .int p2, .int p3] μ (Q) := by
  refine mw_enter [(0, .ref (mw_a G b)), (1, .int p1), (2, .int p2), (3, .int p3)] RX9 (by decide) rfl (Nat.le_of_ble_eq_true rfl) rfl ?_
  intro p e s m args below meth c hC
  unfold P9_shakeAndHop at hO
  refine r_aload_n hC 0 dX9_shakeAndHop_0 rfl rfl ?_
  refine r_getR hC 11 fl9_9 hb rfl dX9_shakeAndHop_1 ?_
  refine r_iload_n hC 3 dX9_shakeAndHop_4 rfl rfl ?_
  refine r_aload_n hC 0 dX9_shakeAndHop_5 rfl rfl ?_
  refine r_getI hC fl9_46 hb rfl dX9_shakeAndHop_6 ?_
  refine r_callVi hC [.int p3, .int (μ.1 b 13)] (T5_shakeOf  hO) yv5_shakeOf ml9_119 (sh9_0 hb) rfl ⟨Nat.le_of_ble_eq_true rfl, Nat.le_of_ble_eq_true rfl⟩ rfl rfl (Nat.le_of_ble_eq_true rfl) dX9_shakeAndHop_9 (fun r1 μ2 hO => ?_)
  obtain ⟨hO, hm⟩ := hO
  refine r_memEq hm ?_
  refine r_istore hC [(4, .int r1), (0, .ref (mw_a G b)), (1, .int p1), (2, .int p2), (3, .int p3)] dX9_shakeAndHop_12 (by decide) rfl ?_
  refine r_iload hC 0 dX9_shakeAndHop_14 rfl ?_
  refine r_aload_n hC 1 dX9_shakeAndHop_16 rfl rfl ?_
  refine r_getR hC 11 fl9_9 hb rfl dX9_shakeAndHop_17 ?_
  refine r_iload_n hC 3 dX9_shakeAndHop_20 rfl rfl ?_
  refine r_callVi hC [.int p2] (T5_gripOf  hO) yv5_gripOf ml9_123 (sh9_0 hb) rfl ⟨Nat.le_of_ble_eq_true rfl, Nat.le_of_ble_eq_true rfl⟩ rfl rfl (Nat.le_of_ble_eq_true rfl) dX9_shakeAndHop_21 (fun r3 μ4 hO => ?_)
  obtain ⟨hO, hm⟩ := hO
  refine r_memEq hm ?_
  refine r_isub hC dX9_shakeAndHop_24 ?_
  refine r_nmI (fun x5 hx5 => ?_)
  have hO := hO x5 hx5
  refine r_istore hC [(5, .int x5), (4, .int r1), (0, .ref (mw_a G b)), (1, .int p1), (2, .int p2), (3, .int p3)] dX9_shakeAndHop_25 (by decide) rfl ?_
  refine r_iload hC 1 dX9_shakeAndHop_27 rfl ?_
  refine r_sipush hC 500 dX9_shakeAndHop_29 (by decide) ?_
  refine r_icmp_le hC 45 dX9_shakeAndHop_32 (by decide) (fun h6 => ?_) (fun h6 => ?_)
  · have hO := hO.1 h6
    refine r_iload hC 0 dX9_shakeAndHop_45 rfl ?_
    refine r_if_le hC 135 dX9_shakeAndHop_47 (by decide) (fun h7 => ?_) (fun h7 => ?_)
    · have hO := hO.1 h7
      refine r_aload_n hC 2 dX9_shakeAndHop_135 rfl rfl ?_
      refine r_aload_n hC 2 dX9_shakeAndHop_136 rfl rfl ?_
      refine r_getI hC fl9_84 hb rfl dX9_shakeAndHop_137 ?_
      refine r_aload_n hC 2 dX9_shakeAndHop_140 rfl rfl ?_
      refine r_callVi hC [] (T9_walked hb hO) yv9_walked ml9_144 hb rfl ⟨Nat.le_of_ble_eq_true rfl, Nat.le_of_ble_eq_true rfl⟩ rfl rfl (Nat.le_of_ble_eq_true rfl) dX9_shakeAndHop_141 (fun r8 μ9 hO => ?_)
      obtain ⟨hO, hm⟩ := hO
      refine r_memEq hm ?_
      refine r_max hC mm9_147 (Nat.le_of_ble_eq_true rfl) (Nat.le_of_ble_eq_true rfl) dX9_shakeAndHop_144 ?_
      refine r_putI hC fl9_84 hb rfl rfl rfl dX9_shakeAndHop_147 ?_
      refine r_nmM (fun μ10 hμ10 => ?_)
      have hO := hO μ10 hμ10
      refine r_aload_n hC 2 dX9_shakeAndHop_150 rfl rfl ?_
      refine r_getR hC (b + 6) fl9_28 hb rfl dX9_shakeAndHop_151 ?_
      refine r_iconst hC 0 dX9_shakeAndHop_154 (by decide) ?_
      refine r_aald hC (sh9_3 hb) (by decide) (vpc (by decide) : vp_in 0 5) 0 (by decide) (b + 7) rfl dX9_shakeAndHop_155 ?_
      refine r_iload_n hC 3 dX9_shakeAndHop_156 rfl rfl ?_
      refine r_aload_n hC 2 dX9_shakeAndHop_157 rfl rfl ?_
      refine r_getI hC fl9_46 hb rfl dX9_shakeAndHop_158 ?_
      obtain ⟨g11, hO⟩ := hO
      refine r_iast hC (el9_3 hb (j := 0) (by decide)) g11 p1.toNatClampNeg rfl dX9_shakeAndHop_161 ?_
      refine r_nmM (fun μ12 hμ12 => ?_)
      have hO := hO μ12 hμ12
      refine r_aload_n hC 2 dX9_shakeAndHop_162 rfl rfl ?_
      refine r_getR hC (b + 6) fl9_28 hb rfl dX9_shakeAndHop_163 ?_
      refine r_iconst hC 1 dX9_shakeAndHop_166 (by decide) ?_
      refine r_aald hC (sh9_3 hb) (by decide) (vpc (by decide) : vp_in 1 5) 1 (by decide) ((b + 7) + 1) rfl dX9_shakeAndHop_167 ?_
      refine r_iload_n hC 3 dX9_shakeAndHop_168 rfl rfl ?_
      refine r_iload_n hC 5 dX9_shakeAndHop_169 rfl rfl ?_
      obtain ⟨g13, hO⟩ := hO
      refine r_iast hC (el9_3 hb (j := 1) (by decide)) g13 p1.toNatClampNeg rfl dX9_shakeAndHop_170 ?_
      refine r_nmM (fun μ14 hμ14 => ?_)
      have hO := hO μ14 hμ14
      refine r_aload_n hC 2 dX9_shakeAndHop_171 rfl rfl ?_
      refine r_getR hC (b + 6) fl9_28 hb rfl dX9_shakeAndHop_172 ?_
      refine r_iconst hC 2 dX9_shakeAndHop_175 (by decide) ?_
      refine r_aald hC (sh9_3 hb) (by decide) (vpc (by decide) : vp_in 2 5) 2 (by decide) ((b + 7) + 2) rfl dX9_shakeAndHop_176 ?_
      refine r_iload_n hC 3 dX9_shakeAndHop_177 rfl rfl ?_
      refine r_iload hC 1 dX9_shakeAndHop_178 rfl ?_
      obtain ⟨g15, hO⟩ := hO
      refine r_iast hC (el9_3 hb (j := 2) (by decide)) g15 p1.toNatClampNeg rfl dX9_shakeAndHop_180 ?_
      refine r_nmM (fun μ16 hμ16 => ?_)
      have hO := hO μ16 hμ16
      refine r_aload_n hC 2 dX9_shakeAndHop_181 rfl rfl ?_
      refine r_getR hC (b + 6) fl9_28 hb rfl dX9_shakeAndHop_182 ?_
      refine r_iconst hC 3 dX9_shakeAndHop_185 (by decide) ?_
      refine r_aald hC (sh9_3 hb) (by decide) (vpc (by decide) : vp_in 3 5) 3 (by decide) ((b + 7) + 3) rfl dX9_shakeAndHop_186 ?_
      refine r_iload_n hC 3 dX9_shakeAndHop_187 rfl rfl ?_
      refine r_aload_n hC 2 dX9_shakeAndHop_188 rfl rfl ?_
      refine r_getI hC fl9_98 hb rfl dX9_shakeAndHop_189 ?_
      obtain ⟨g17, hO⟩ := hO
      refine r_iast hC (el9_3 hb (j := 3) (by decide)) g17 p1.toNatClampNeg rfl dX9_shakeAndHop_192 ?_
      refine r_nmM (fun μ18 hμ18 => ?_)
      have hO := hO μ18 hμ18
      refine r_aload_n hC 2 dX9_shakeAndHop_193 rfl rfl ?_
      refine r_getR hC (b + 6) fl9_28 hb rfl dX9_shakeAndHop_194 ?_
      refine r_iconst hC 4 dX9_shakeAndHop_197 (by decide) ?_
      refine r_aald hC (sh9_3 hb) (by decide) (vpc (by decide) : vp_in 4 5) 4 (by decide) ((b + 7) + 4) rfl dX9_shakeAndHop_198 ?_
      refine r_iload_n hC 3 dX9_shakeAndHop_199 rfl rfl ?_
      refine r_aload_n hC 2 dX9_shakeAndHop_200 rfl rfl ?_
      refine r_getI hC fl9_101 hb rfl dX9_shakeAndHop_201 ?_
      obtain ⟨g19, hO⟩ := hO
      refine r_iast hC (el9_3 hb (j := 4) (by decide)) g19 p1.toNatClampNeg rfl dX9_shakeAndHop_204 ?_
      refine r_nmM (fun μ20 hμ20 => ?_)
      have hO := hO μ20 hμ20
      refine r_aload_n hC 2 dX9_shakeAndHop_205 rfl rfl ?_
      refine r_iload_n hC 3 dX9_shakeAndHop_206 rfl rfl ?_
      refine r_iconst hC 1 dX9_shakeAndHop_207 (by decide) ?_
      refine r_iadd hC dX9_shakeAndHop_208 ?_
      refine r_putI hC fl9_110 hb rfl rfl rfl dX9_shakeAndHop_209 ?_
      refine r_nmM (fun μ21 hμ21 => ?_)
      have hO := hO μ21 hμ21
      exact r_vret hC rfl dX9_shakeAndHop_212 hO
    · have hO := hO.2 h7
      refine r_aload_n hC 2 dX9_shakeAndHop_50 rfl rfl ?_
      refine r_getR hC (b + 1) fl9_22 hb rfl dX9_shakeAndHop_51 ?_
      refine r_callVi hC [] (T2_side (sh9_2 hb) hO) yv2_side ml9_126 (sh9_2 hb) rfl ⟨Nat.le_of_ble_eq_true rfl, Nat.le_of_ble_eq_true rfl⟩ rfl rfl (Nat.le_of_ble_eq_true rfl) dX9_shakeAndHop_54 (fun r22 μ23 hO => ?_)
      obtain ⟨hO, hm⟩ := hO
      refine r_memEq hm ?_
      refine r_istore hC [(6, .int r22), (5, .int x5), (4, .int r1), (0, .ref (mw_a G b)), (1, .int p1), (2, .int p2), (3, .int p3)] dX9_shakeAndHop_57 (by decide) rfl ?_
      refine r_aload_n hC 3 dX9_shakeAndHop_59 rfl rfl ?_
      refine r_dup hC dX9_shakeAndHop_60 rfl ?_
      refine r_getI hC fl9_107 hb rfl dX9_shakeAndHop_61 ?_
      refine r_iconst hC 1 dX9_shakeAndHop_64 (by decide) ?_
      refine r_iadd hC dX9_shakeAndHop_65 ?_
      refine r_putI hC fl9_107 hb rfl rfl rfl dX9_shakeAndHop_66 ?_
      refine r_nmM (fun μ24 hμ24 => ?_)
      have hO := hO μ24 hμ24
      refine r_aload_n hC 3 dX9_shakeAndHop_69 rfl rfl ?_
      refine r_aload_n hC 3 dX9_shakeAndHop_70 rfl rfl ?_
      refine r_getI hC fl9_98 hb rfl dX9_shakeAndHop_71 ?_
      refine r_iload hC 0 dX9_shakeAndHop_74 rfl ?_
      refine r_callSi hC [.int r22] (T2_cosine  hO) yv2_cosine ml9_129 ⟨Nat.le_of_ble_eq_true rfl, Nat.le_of_ble_eq_true rfl⟩ rfl rfl (Nat.le_of_ble_eq_true rfl) dX9_shakeAndHop_76 (fun r25 μ26 hO => ?_)
      obtain ⟨hO, hm⟩ := hO
      refine r_memEq hm ?_
      refine r_iload hC 1 dX9_shakeAndHop_79 rfl ?_
      refine r_imul hC dX9_shakeAndHop_81 ?_
      refine r_sipush hC 1000 dX9_shakeAndHop_82 (by decide) ?_
      refine r_idiv hC dX9_shakeAndHop_85 (by decide) ?_
      refine r_iadd hC dX9_shakeAndHop_86 ?_
      refine r_aload_n hC 3 dX9_shakeAndHop_87 rfl rfl ?_
      refine r_getR hC 11 fl9_9 hb rfl dX9_shakeAndHop_88 ?_
      refine r_iload_n hC 5 dX9_shakeAndHop_91 rfl rfl ?_
      refine r_callVi hC [.int p2] (T5_slopeX  hO) yv5_slopeX ml9_132 (sh9_0 hb) rfl ⟨Nat.le_of_ble_eq_true rfl, Nat.le_of_ble_eq_true rfl⟩ rfl rfl (Nat.le_of_ble_eq_true rfl) dX9_shakeAndHop_92 (fun r27 μ28 hO => ?_)
      obtain ⟨hO, hm⟩ := hO
      refine r_memEq hm ?_
      refine r_iadd hC dX9_shakeAndHop_95 ?_
      refine r_callSi hC [.int (((μ24.1 b 5) + ((r25 * x5) / 1000)) + r27)] (T9_within  hO) yv9_within ml9_135 ⟨Nat.le_of_ble_eq_true rfl, Nat.le_of_ble_eq_true rfl⟩ rfl rfl (Nat.le_of_ble_eq_true rfl) dX9_shakeAndHop_96 (fun r29 μ30 hO => ?_)
      obtain ⟨hO, hm⟩ := hO
      refine r_memEq hm ?_
      refine r_putI hC fl9_98 hb rfl rfl rfl dX9_shakeAndHop_99 ?_
      refine r_nmM (fun μ31 hμ31 => ?_)
      have hO := hO μ31 hμ31
      refine r_aload_n hC 3 dX9_shakeAndHop_102 rfl rfl ?_
      refine r_aload_n hC 3 dX9_shakeAndHop_103 rfl rfl ?_
      refine r_getI hC fl9_101 hb rfl dX9_shakeAndHop_104 ?_
      refine r_iload hC 0 dX9_shakeAndHop_107 rfl ?_
      refine r_callSi hC [.int r22] (T2_sine  hO) yv2_sine ml9_138 ⟨Nat.le_of_ble_eq_true rfl, Nat.le_of_ble_eq_true rfl⟩ rfl rfl (Nat.le_of_ble_eq_true rfl) dX9_shakeAndHop_109 (fun r32 μ33 hO => ?_)
      obtain ⟨hO, hm⟩ := hO
      refine r_memEq hm ?_
      refine r_iload hC 1 dX9_shakeAndHop_112 rfl ?_
      refine r_imul hC dX9_shakeAndHop_114 ?_
      refine r_sipush hC 1000 dX9_shakeAndHop_115 (by decide) ?_
      refine r_idiv hC dX9_shakeAndHop_118 (by decide) ?_
      refine r_iadd hC dX9_shakeAndHop_119 ?_
      refine r_aload_n hC 3 dX9_shakeAndHop_120 rfl rfl ?_
      refine r_getR hC 11 fl9_9 hb rfl dX9_shakeAndHop_121 ?_
      refine r_iload_n hC 5 dX9_shakeAndHop_124 rfl rfl ?_
      refine r_callVi hC [.int p2] (T5_slopeY  hO) yv5_slopeY ml9_141 (sh9_0 hb) rfl ⟨Nat.le_of_ble_eq_true rfl, Nat.le_of_ble_eq_true rfl⟩ rfl rfl (Nat.le_of_ble_eq_true rfl) dX9_shakeAndHop_125 (fun r34 μ35 hO => ?_)
      obtain ⟨hO, hm⟩ := hO
      refine r_memEq hm ?_
      refine r_iadd hC dX9_shakeAndHop_128 ?_
      refine r_callSi hC [.int (((μ31.1 b 6) + ((r32 * x5) / 1000)) + r34)] (T9_within  hO) yv9_within ml9_135 ⟨Nat.le_of_ble_eq_true rfl, Nat.le_of_ble_eq_true rfl⟩ rfl rfl (Nat.le_of_ble_eq_true rfl) dX9_shakeAndHop_129 (fun r36 μ37 hO => ?_)
      obtain ⟨hO, hm⟩ := hO
      refine r_memEq hm ?_
      refine r_putI hC fl9_101 hb rfl rfl rfl dX9_shakeAndHop_132 ?_
      refine r_nmM (fun μ38 hμ38 => ?_)
      have hO := hO μ38 hμ38
      refine r_aload_n hC 3 dX9_shakeAndHop_135 rfl rfl ?_
      refine r_aload_n hC 3 dX9_shakeAndHop_136 rfl rfl ?_
      refine r_getI hC fl9_84 hb rfl dX9_shakeAndHop_137 ?_
      refine r_aload_n hC 3 dX9_shakeAndHop_140 rfl rfl ?_
      refine r_callVi hC [] (T9_walked hb hO) yv9_walked ml9_144 hb rfl ⟨Nat.le_of_ble_eq_true rfl, Nat.le_of_ble_eq_true rfl⟩ rfl rfl (Nat.le_of_ble_eq_true rfl) dX9_shakeAndHop_141 (fun r39 μ40 hO => ?_)
      obtain ⟨hO, hm⟩ := hO
      refine r_memEq hm ?_
      refine r_max hC mm9_147 (Nat.le_of_ble_eq_true rfl) (Nat.le_of_ble_eq_true rfl) dX9_shakeAndHop_144 ?_
      refine r_putI hC fl9_84 hb rfl rfl rfl dX9_shakeAndHop_147 ?_
      refine r_nmM (fun μ41 hμ41 => ?_)
      have hO := hO μ41 hμ41
      refine r_aload_n hC 3 dX9_shakeAndHop_150 rfl rfl ?_
      refine r_getR hC (b + 6) fl9_28 hb rfl dX9_shakeAndHop_151 ?_
      refine r_iconst hC 0 dX9_shakeAndHop_154 (by decide) ?_
      refine r_aald hC (sh9_3 hb) (by decide) (vpc (by decide) : vp_in 0 5) 0 (by decide) (b + 7) rfl dX9_shakeAndHop_155 ?_
      refine r_iload_n hC 4 dX9_shakeAndHop_156 rfl rfl ?_
      refine r_aload_n hC 3 dX9_shakeAndHop_157 rfl rfl ?_
      refine r_getI hC fl9_46 hb rfl dX9_shakeAndHop_158 ?_
      obtain ⟨g42, hO⟩ := hO
      refine r_iast hC (el9_3 hb (j := 0) (by decide)) g42 p1.toNatClampNeg rfl dX9_shakeAndHop_161 ?_
      refine r_nmM (fun μ43 hμ43 => ?_)
      have hO := hO μ43 hμ43
      refine r_aload_n hC 3 dX9_shakeAndHop_162 rfl rfl ?_
      refine r_getR hC (b + 6) fl9_28 hb rfl dX9_shakeAndHop_163 ?_
      refine r_iconst hC 1 dX9_shakeAndHop_166 (by decide) ?_
      refine r_aald hC (sh9_3 hb) (by decide) (vpc (by decide) : vp_in 1 5) 1 (by decide) ((b + 7) + 1) rfl dX9_shakeAndHop_167 ?_
      refine r_iload_n hC 4 dX9_shakeAndHop_168 rfl rfl ?_
      refine r_iload_n hC 6 dX9_shakeAndHop_169 rfl rfl ?_
      obtain ⟨g44, hO⟩ := hO
      refine r_iast hC (el9_3 hb (j := 1) (by decide)) g44 p1.toNatClampNeg rfl dX9_shakeAndHop_170 ?_
      refine r_nmM (fun μ45 hμ45 => ?_)
      have hO := hO μ45 hμ45
      refine r_aload_n hC 3 dX9_shakeAndHop_171 rfl rfl ?_
      refine r_getR hC (b + 6) fl9_28 hb rfl dX9_shakeAndHop_172 ?_
      refine r_iconst hC 2 dX9_shakeAndHop_175 (by decide) ?_
      refine r_aald hC (sh9_3 hb) (by decide) (vpc (by decide) : vp_in 2 5) 2 (by decide) ((b + 7) + 2) rfl dX9_shakeAndHop_176 ?_
      refine r_iload_n hC 4 dX9_shakeAndHop_177 rfl rfl ?_
      refine r_iload hC 2 dX9_shakeAndHop_178 rfl ?_
      obtain ⟨g46, hO⟩ := hO
      refine r_iast hC (el9_3 hb (j := 2) (by decide)) g46 p1.toNatClampNeg rfl dX9_shakeAndHop_180 ?_
      refine r_nmM (fun μ47 hμ47 => ?_)
      have hO := hO μ47 hμ47
      refine r_aload_n hC 3 dX9_shakeAndHop_181 rfl rfl ?_
      refine r_getR hC (b + 6) fl9_28 hb rfl dX9_shakeAndHop_182 ?_
      refine r_iconst hC 3 dX9_shakeAndHop_185 (by decide) ?_
      refine r_aald hC (sh9_3 hb) (by decide) (vpc (by decide) : vp_in 3 5) 3 (by decide) ((b + 7) + 3) rfl dX9_shakeAndHop_186 ?_
      refine r_iload_n hC 4 dX9_shakeAndHop_187 rfl rfl ?_
      refine r_aload_n hC 3 dX9_shakeAndHop_188 rfl rfl ?_
      refine r_getI hC fl9_98 hb rfl dX9_shakeAndHop_189 ?_
      obtain ⟨g48, hO⟩ := hO
      refine r_iast hC (el9_3 hb (j := 3) (by decide)) g48 p1.toNatClampNeg rfl dX9_shakeAndHop_192 ?_
      refine r_nmM (fun μ49 hμ49 => ?_)
      have hO := hO μ49 hμ49
      refine r_aload_n hC 3 dX9_shakeAndHop_193 rfl rfl ?_
      refine r_getR hC (b + 6) fl9_28 hb rfl dX9_shakeAndHop_194 ?_
      refine r_iconst hC 4 dX9_shakeAndHop_197 (by decide) ?_
      refine r_aald hC (sh9_3 hb) (by decide) (vpc (by decide) : vp_in 4 5) 4 (by decide) ((b + 7) + 4) rfl dX9_shakeAndHop_198 ?_
      refine r_iload_n hC 4 dX9_shakeAndHop_199 rfl rfl ?_
      refine r_aload_n hC 3 dX9_shakeAndHop_200 rfl rfl ?_
      refine r_getI hC fl9_101 hb rfl dX9_shakeAndHop_201 ?_
      obtain ⟨g50, hO⟩ := hO
      refine r_iast hC (el9_3 hb (j := 4) (by decide)) g50 p1.toNatClampNeg rfl dX9_shakeAndHop_204 ?_
      refine r_nmM (fun μ51 hμ51 => ?_)
      have hO := hO μ51 hμ51
      refine r_aload_n hC 3 dX9_shakeAndHop_205 rfl rfl ?_
      refine r_iload_n hC 4 dX9_shakeAndHop_206 rfl rfl ?_
      refine r_iconst hC 1 dX9_shakeAndHop_207 (by decide) ?_
      refine r_iadd hC dX9_shakeAndHop_208 ?_
      refine r_putI hC fl9_110 hb rfl rfl rfl dX9_shakeAndHop_209 ?_
      refine r_nmM (fun μ52 hμ52 => ?_)
      have hO := hO μ52 hμ52
      exact r_vret hC rfl dX9_shakeAndHop_212 hO
  · have hO := hO.2 h6
    refine r_aload_n hC 2 dX9_shakeAndHop_35 rfl rfl ?_
    refine r_dup hC dX9_shakeAndHop_36 rfl ?_
    refine r_getI hC fl9_104 hb rfl dX9_shakeAndHop_37 ?_
    refine r_iconst hC 1 dX9_shakeAndHop_40 (by decide) ?_
    refine r_iadd hC dX9_shakeAndHop_41 ?_
    refine r_putI hC fl9_104 hb rfl rfl rfl dX9_shakeAndHop_42 ?_
    refine r_nmM (fun μ53 hμ53 => ?_)
    have hO := hO μ53 hμ53
    refine r_iload hC 0 dX9_shakeAndHop_45 rfl ?_
    refine r_if_le hC 135 dX9_shakeAndHop_47 (by decide) (fun h54 => ?_) (fun h54 => ?_)
    · have hO := hO.1 h54
      refine r_aload_n hC 2 dX9_shakeAndHop_135 rfl rfl ?_
      refine r_aload_n hC 2 dX9_shakeAndHop_136 rfl rfl ?_
      refine r_getI hC fl9_84 hb rfl dX9_shakeAndHop_137 ?_
      refine r_aload_n hC 2 dX9_shakeAndHop_140 rfl rfl ?_
      refine r_callVi hC [] (T9_walked hb hO) yv9_walked ml9_144 hb rfl ⟨Nat.le_of_ble_eq_true rfl, Nat.le_of_ble_eq_true rfl⟩ rfl rfl (Nat.le_of_ble_eq_true rfl) dX9_shakeAndHop_141 (fun r55 μ56 hO => ?_)
      obtain ⟨hO, hm⟩ := hO
      refine r_memEq hm ?_
      refine r_max hC mm9_147 (Nat.le_of_ble_eq_true rfl) (Nat.le_of_ble_eq_true rfl) dX9_shakeAndHop_144 ?_
      refine r_putI hC fl9_84 hb rfl rfl rfl dX9_shakeAndHop_147 ?_
      refine r_nmM (fun μ57 hμ57 => ?_)
      have hO := hO μ57 hμ57
      refine r_aload_n hC 2 dX9_shakeAndHop_150 rfl rfl ?_
      refine r_getR hC (b + 6) fl9_28 hb rfl dX9_shakeAndHop_151 ?_
      refine r_iconst hC 0 dX9_shakeAndHop_154 (by decide) ?_
      refine r_aald hC (sh9_3 hb) (by decide) (vpc (by decide) : vp_in 0 5) 0 (by decide) (b + 7) rfl dX9_shakeAndHop_155 ?_
      refine r_iload_n hC 3 dX9_shakeAndHop_156 rfl rfl ?_
      refine r_aload_n hC 2 dX9_shakeAndHop_157 rfl rfl ?_
      refine r_getI hC fl9_46 hb rfl dX9_shakeAndHop_158 ?_
      obtain ⟨g58, hO⟩ := hO
      refine r_iast hC (el9_3 hb (j := 0) (by decide)) g58 p1.toNatClampNeg rfl dX9_shakeAndHop_161 ?_
      refine r_nmM (fun μ59 hμ59 => ?_)
      have hO := hO μ59 hμ59
      refine r_aload_n hC 2 dX9_shakeAndHop_162 rfl rfl ?_
      refine r_getR hC (b + 6) fl9_28 hb rfl dX9_shakeAndHop_163 ?_
      refine r_iconst hC 1 dX9_shakeAndHop_166 (by decide) ?_
      refine r_aald hC (sh9_3 hb) (by decide) (vpc (by decide) : vp_in 1 5) 1 (by decide) ((b + 7) + 1) rfl dX9_shakeAndHop_167 ?_
      refine r_iload_n hC 3 dX9_shakeAndHop_168 rfl rfl ?_
      refine r_iload_n hC 5 dX9_shakeAndHop_169 rfl rfl ?_
      obtain ⟨g60, hO⟩ := hO
      refine r_iast hC (el9_3 hb (j := 1) (by decide)) g60 p1.toNatClampNeg rfl dX9_shakeAndHop_170 ?_
      refine r_nmM (fun μ61 hμ61 => ?_)
      have hO := hO μ61 hμ61
      refine r_aload_n hC 2 dX9_shakeAndHop_171 rfl rfl ?_
      refine r_getR hC (b + 6) fl9_28 hb rfl dX9_shakeAndHop_172 ?_
      refine r_iconst hC 2 dX9_shakeAndHop_175 (by decide) ?_
      refine r_aald hC (sh9_3 hb) (by decide) (vpc (by decide) : vp_in 2 5) 2 (by decide) ((b + 7) + 2) rfl dX9_shakeAndHop_176 ?_
      refine r_iload_n hC 3 dX9_shakeAndHop_177 rfl rfl ?_
      refine r_iload hC 1 dX9_shakeAndHop_178 rfl ?_
      obtain ⟨g62, hO⟩ := hO
      refine r_iast hC (el9_3 hb (j := 2) (by decide)) g62 p1.toNatClampNeg rfl dX9_shakeAndHop_180 ?_
      refine r_nmM (fun μ63 hμ63 => ?_)
      have hO := hO μ63 hμ63
      refine r_aload_n hC 2 dX9_shakeAndHop_181 rfl rfl ?_
      refine r_getR hC (b + 6) fl9_28 hb rfl dX9_shakeAndHop_182 ?_
      refine r_iconst hC 3 dX9_shakeAndHop_185 (by decide) ?_
      refine r_aald hC (sh9_3 hb) (by decide) (vpc (by decide) : vp_in 3 5) 3 (by decide) ((b + 7) + 3) rfl dX9_shakeAndHop_186 ?_
      refine r_iload_n hC 3 dX9_shakeAndHop_187 rfl rfl ?_
      refine r_aload_n hC 2 dX9_shakeAndHop_188 rfl rfl ?_
      refine r_getI hC fl9_98 hb rfl dX9_shakeAndHop_189 ?_
      obtain ⟨g64, hO⟩ := hO
      refine r_iast hC (el9_3 hb (j := 3) (by decide)) g64 p1.toNatClampNeg rfl dX9_shakeAndHop_192 ?_
      refine r_nmM (fun μ65 hμ65 => ?_)
      have hO := hO μ65 hμ65
      refine r_aload_n hC 2 dX9_shakeAndHop_193 rfl rfl ?_
      refine r_getR hC (b + 6) fl9_28 hb rfl dX9_shakeAndHop_194 ?_
      refine r_iconst hC 4 dX9_shakeAndHop_197 (by decide) ?_
      refine r_aald hC (sh9_3 hb) (by decide) (vpc (by decide) : vp_in 4 5) 4 (by decide) ((b + 7) + 4) rfl dX9_shakeAndHop_198 ?_
      refine r_iload_n hC 3 dX9_shakeAndHop_199 rfl rfl ?_
      refine r_aload_n hC 2 dX9_shakeAndHop_200 rfl rfl ?_
      refine r_getI hC fl9_101 hb rfl dX9_shakeAndHop_201 ?_
      obtain ⟨g66, hO⟩ := hO
      refine r_iast hC (el9_3 hb (j := 4) (by decide)) g66 p1.toNatClampNeg rfl dX9_shakeAndHop_204 ?_
      refine r_nmM (fun μ67 hμ67 => ?_)
      have hO := hO μ67 hμ67
      refine r_aload_n hC 2 dX9_shakeAndHop_205 rfl rfl ?_
      refine r_iload_n hC 3 dX9_shakeAndHop_206 rfl rfl ?_
      refine r_iconst hC 1 dX9_shakeAndHop_207 (by decide) ?_
      refine r_iadd hC dX9_shakeAndHop_208 ?_
      refine r_putI hC fl9_110 hb rfl rfl rfl dX9_shakeAndHop_209 ?_
      refine r_nmM (fun μ68 hμ68 => ?_)
      have hO := hO μ68 hμ68
      exact r_vret hC rfl dX9_shakeAndHop_212 hO
    · have hO := hO.2 h54
      refine r_aload_n hC 2 dX9_shakeAndHop_50 rfl rfl ?_
      refine r_getR hC (b + 1) fl9_22 hb rfl dX9_shakeAndHop_51 ?_
      refine r_callVi hC [] (T2_side (sh9_2 hb) hO) yv2_side ml9_126 (sh9_2 hb) rfl ⟨Nat.le_of_ble_eq_true rfl, Nat.le_of_ble_eq_true rfl⟩ rfl rfl (Nat.le_of_ble_eq_true rfl) dX9_shakeAndHop_54 (fun r69 μ70 hO => ?_)
      obtain ⟨hO, hm⟩ := hO
      refine r_memEq hm ?_
      refine r_istore hC [(6, .int r69), (5, .int x5), (4, .int r1), (0, .ref (mw_a G b)), (1, .int p1), (2, .int p2), (3, .int p3)] dX9_shakeAndHop_57 (by decide) rfl ?_
      refine r_aload_n hC 3 dX9_shakeAndHop_59 rfl rfl ?_
      refine r_dup hC dX9_shakeAndHop_60 rfl ?_
      refine r_getI hC fl9_107 hb rfl dX9_shakeAndHop_61 ?_
      refine r_iconst hC 1 dX9_shakeAndHop_64 (by decide) ?_
      refine r_iadd hC dX9_shakeAndHop_65 ?_
      refine r_putI hC fl9_107 hb rfl rfl rfl dX9_shakeAndHop_66 ?_
      refine r_nmM (fun μ71 hμ71 => ?_)
      have hO := hO μ71 hμ71
      refine r_aload_n hC 3 dX9_shakeAndHop_69 rfl rfl ?_
      refine r_aload_n hC 3 dX9_shakeAndHop_70 rfl rfl ?_
      refine r_getI hC fl9_98 hb rfl dX9_shakeAndHop_71 ?_
      refine r_iload hC 0 dX9_shakeAndHop_74 rfl ?_
      refine r_callSi hC [.int r69] (T2_cosine  hO) yv2_cosine ml9_129 ⟨Nat.le_of_ble_eq_true rfl, Nat.le_of_ble_eq_true rfl⟩ rfl rfl (Nat.le_of_ble_eq_true rfl) dX9_shakeAndHop_76 (fun r72 μ73 hO => ?_)
      obtain ⟨hO, hm⟩ := hO
      refine r_memEq hm ?_
      refine r_iload hC 1 dX9_shakeAndHop_79 rfl ?_
      refine r_imul hC dX9_shakeAndHop_81 ?_
      refine r_sipush hC 1000 dX9_shakeAndHop_82 (by decide) ?_
      refine r_idiv hC dX9_shakeAndHop_85 (by decide) ?_
      refine r_iadd hC dX9_shakeAndHop_86 ?_
      refine r_aload_n hC 3 dX9_shakeAndHop_87 rfl rfl ?_
      refine r_getR hC 11 fl9_9 hb rfl dX9_shakeAndHop_88 ?_
      refine r_iload_n hC 5 dX9_shakeAndHop_91 rfl rfl ?_
      refine r_callVi hC [.int p2] (T5_slopeX  hO) yv5_slopeX ml9_132 (sh9_0 hb) rfl ⟨Nat.le_of_ble_eq_true rfl, Nat.le_of_ble_eq_true rfl⟩ rfl rfl (Nat.le_of_ble_eq_true rfl) dX9_shakeAndHop_92 (fun r74 μ75 hO => ?_)
      obtain ⟨hO, hm⟩ := hO
      refine r_memEq hm ?_
      refine r_iadd hC dX9_shakeAndHop_95 ?_
      refine r_callSi hC [.int (((μ71.1 b 5) + ((r72 * x5) / 1000)) + r74)] (T9_within  hO) yv9_within ml9_135 ⟨Nat.le_of_ble_eq_true rfl, Nat.le_of_ble_eq_true rfl⟩ rfl rfl (Nat.le_of_ble_eq_true rfl) dX9_shakeAndHop_96 (fun r76 μ77 hO => ?_)
      obtain ⟨hO, hm⟩ := hO
      refine r_memEq hm ?_
      refine r_putI hC fl9_98 hb rfl rfl rfl dX9_shakeAndHop_99 ?_
      refine r_nmM (fun μ78 hμ78 => ?_)
      have hO := hO μ78 hμ78
      refine r_aload_n hC 3 dX9_shakeAndHop_102 rfl rfl ?_
      refine r_aload_n hC 3 dX9_shakeAndHop_103 rfl rfl ?_
      refine r_getI hC fl9_101 hb rfl dX9_shakeAndHop_104 ?_
      refine r_iload hC 0 dX9_shakeAndHop_107 rfl ?_
      refine r_callSi hC [.int r69] (T2_sine  hO) yv2_sine ml9_138 ⟨Nat.le_of_ble_eq_true rfl, Nat.le_of_ble_eq_true rfl⟩ rfl rfl (Nat.le_of_ble_eq_true rfl) dX9_shakeAndHop_109 (fun r79 μ80 hO => ?_)
      obtain ⟨hO, hm⟩ := hO
      refine r_memEq hm ?_
      refine r_iload hC 1 dX9_shakeAndHop_112 rfl ?_
      refine r_imul hC dX9_shakeAndHop_114 ?_
      refine r_sipush hC 1000 dX9_shakeAndHop_115 (by decide) ?_
      refine r_idiv hC dX9_shakeAndHop_118 (by decide) ?_
      refine r_iadd hC dX9_shakeAndHop_119 ?_
      refine r_aload_n hC 3 dX9_shakeAndHop_120 rfl rfl ?_
      refine r_getR hC 11 fl9_9 hb rfl dX9_shakeAndHop_121 ?_
      refine r_iload_n hC 5 dX9_shakeAndHop_124 rfl rfl ?_
      refine r_callVi hC [.int p2] (T5_slopeY  hO) yv5_slopeY ml9_141 (sh9_0 hb) rfl ⟨Nat.le_of_ble_eq_true rfl, Nat.le_of_ble_eq_true rfl⟩ rfl rfl (Nat.le_of_ble_eq_true rfl) dX9_shakeAndHop_125 (fun r81 μ82 hO => ?_)
      obtain ⟨hO, hm⟩ := hO
      refine r_memEq hm ?_
      refine r_iadd hC dX9_shakeAndHop_128 ?_
      refine r_callSi hC [.int (((μ78.1 b 6) + ((r79 * x5) / 1000)) + r81)] (T9_within  hO) yv9_within ml9_135 ⟨Nat.le_of_ble_eq_true rfl, Nat.le_of_ble_eq_true rfl⟩ rfl rfl (Nat.le_of_ble_eq_true rfl) dX9_shakeAndHop_129 (fun r83 μ84 hO => ?_)
      obtain ⟨hO, hm⟩ := hO
      refine r_memEq hm ?_
      refine r_putI hC fl9_101 hb rfl rfl rfl dX9_shakeAndHop_132 ?_
      refine r_nmM (fun μ85 hμ85 => ?_)
      have hO := hO μ85 hμ85
      refine r_aload_n hC 3 dX9_shakeAndHop_135 rfl rfl ?_
      refine r_aload_n hC 3 dX9_shakeAndHop_136 rfl rfl ?_
      refine r_getI hC fl9_84 hb rfl dX9_shakeAndHop_137 ?_
      refine r_aload_n hC 3 dX9_shakeAndHop_140 rfl rfl ?_
      refine r_callVi hC [] (T9_walked hb hO) yv9_walked ml9_144 hb rfl ⟨Nat.le_of_ble_eq_true rfl, Nat.le_of_ble_eq_true rfl⟩ rfl rfl (Nat.le_of_ble_eq_true rfl) dX9_shakeAndHop_141 (fun r86 μ87 hO => ?_)
      obtain ⟨hO, hm⟩ := hO
      refine r_memEq hm ?_
      refine r_max hC mm9_147 (Nat.le_of_ble_eq_true rfl) (Nat.le_of_ble_eq_true rfl) dX9_shakeAndHop_144 ?_
      refine r_putI hC fl9_84 hb rfl rfl rfl dX9_shakeAndHop_147 ?_
      refine r_nmM (fun μ88 hμ88 => ?_)
      have hO := hO μ88 hμ88
      refine r_aload_n hC 3 dX9_shakeAndHop_150 rfl rfl ?_
      refine r_getR hC (b + 6) fl9_28 hb rfl dX9_shakeAndHop_151 ?_
      refine r_iconst hC 0 dX9_shakeAndHop_154 (by decide) ?_
      refine r_aald hC (sh9_3 hb) (by decide) (vpc (by decide) : vp_in 0 5) 0 (by decide) (b + 7) rfl dX9_shakeAndHop_155 ?_
      refine r_iload_n hC 4 dX9_shakeAndHop_156 rfl rfl ?_
      refine r_aload_n hC 3 dX9_shakeAndHop_157 rfl rfl ?_
      refine r_getI hC fl9_46 hb rfl dX9_shakeAndHop_158 ?_
      obtain ⟨g89, hO⟩ := hO
      refine r_iast hC (el9_3 hb (j := 0) (by decide)) g89 p1.toNatClampNeg rfl dX9_shakeAndHop_161 ?_
      refine r_nmM (fun μ90 hμ90 => ?_)
      have hO := hO μ90 hμ90
      refine r_aload_n hC 3 dX9_shakeAndHop_162 rfl rfl ?_
      refine r_getR hC (b + 6) fl9_28 hb rfl dX9_shakeAndHop_163 ?_
      refine r_iconst hC 1 dX9_shakeAndHop_166 (by decide) ?_
      refine r_aald hC (sh9_3 hb) (by decide) (vpc (by decide) : vp_in 1 5) 1 (by decide) ((b + 7) + 1) rfl dX9_shakeAndHop_167 ?_
      refine r_iload_n hC 4 dX9_shakeAndHop_168 rfl rfl ?_
      refine r_iload_n hC 6 dX9_shakeAndHop_169 rfl rfl ?_
      obtain ⟨g91, hO⟩ := hO
      refine r_iast hC (el9_3 hb (j := 1) (by decide)) g91 p1.toNatClampNeg rfl dX9_shakeAndHop_170 ?_
      refine r_nmM (fun μ92 hμ92 => ?_)
      have hO := hO μ92 hμ92
      refine r_aload_n hC 3 dX9_shakeAndHop_171 rfl rfl ?_
      refine r_getR hC (b + 6) fl9_28 hb rfl dX9_shakeAndHop_172 ?_
      refine r_iconst hC 2 dX9_shakeAndHop_175 (by decide) ?_
      refine r_aald hC (sh9_3 hb) (by decide) (vpc (by decide) : vp_in 2 5) 2 (by decide) ((b + 7) + 2) rfl dX9_shakeAndHop_176 ?_
      refine r_iload_n hC 4 dX9_shakeAndHop_177 rfl rfl ?_
      refine r_iload hC 2 dX9_shakeAndHop_178 rfl ?_
      obtain ⟨g93, hO⟩ := hO
      refine r_iast hC (el9_3 hb (j := 2) (by decide)) g93 p1.toNatClampNeg rfl dX9_shakeAndHop_180 ?_
      refine r_nmM (fun μ94 hμ94 => ?_)
      have hO := hO μ94 hμ94
      refine r_aload_n hC 3 dX9_shakeAndHop_181 rfl rfl ?_
      refine r_getR hC (b + 6) fl9_28 hb rfl dX9_shakeAndHop_182 ?_
      refine r_iconst hC 3 dX9_shakeAndHop_185 (by decide) ?_
      refine r_aald hC (sh9_3 hb) (by decide) (vpc (by decide) : vp_in 3 5) 3 (by decide) ((b + 7) + 3) rfl dX9_shakeAndHop_186 ?_
      refine r_iload_n hC 4 dX9_shakeAndHop_187 rfl rfl ?_
      refine r_aload_n hC 3 dX9_shakeAndHop_188 rfl rfl ?_
      refine r_getI hC fl9_98 hb rfl dX9_shakeAndHop_189 ?_
      obtain ⟨g95, hO⟩ := hO
      refine r_iast hC (el9_3 hb (j := 3) (by decide)) g95 p1.toNatClampNeg rfl dX9_shakeAndHop_192 ?_
      refine r_nmM (fun μ96 hμ96 => ?_)
      have hO := hO μ96 hμ96
      refine r_aload_n hC 3 dX9_shakeAndHop_193 rfl rfl ?_
      refine r_getR hC (b + 6) fl9_28 hb rfl dX9_shakeAndHop_194 ?_
      refine r_iconst hC 4 dX9_shakeAndHop_197 (by decide) ?_
      refine r_aald hC (sh9_3 hb) (by decide) (vpc (by decide) : vp_in 4 5) 4 (by decide) ((b + 7) + 4) rfl dX9_shakeAndHop_198 ?_
      refine r_iload_n hC 4 dX9_shakeAndHop_199 rfl rfl ?_
      refine r_aload_n hC 3 dX9_shakeAndHop_200 rfl rfl ?_
      refine r_getI hC fl9_101 hb rfl dX9_shakeAndHop_201 ?_
      obtain ⟨g97, hO⟩ := hO
      refine r_iast hC (el9_3 hb (j := 4) (by decide)) g97 p1.toNatClampNeg rfl dX9_shakeAndHop_204 ?_
      refine r_nmM (fun μ98 hμ98 => ?_)
      have hO := hO μ98 hμ98
      refine r_aload_n hC 3 dX9_shakeAndHop_205 rfl rfl ?_
      refine r_iload_n hC 4 dX9_shakeAndHop_206 rfl rfl ?_
      refine r_iconst hC 1 dX9_shakeAndHop_207 (by decide) ?_
      refine r_iadd hC dX9_shakeAndHop_208 ?_
      refine r_putI hC fl9_110 hb rfl rfl rfl dX9_shakeAndHop_209 ?_
      refine r_nmM (fun μ99 hμ99 => ?_)
      have hO := hO μ99 hμ99
      exact r_vret hC rfl dX9_shakeAndHop_212 hO
set_option maxHeartbeats 4000000 in
set_option maxRecDepth 100000 in
theorem T9_through {l : Launch} {G : mw_G} {b : Nat} {d1 : Nat} {p2 : Int32} {p3 : Int32} {p4 : Int32} {p5 : Int32} {p6 : Int32} {μ : mw_M} {Q : mw_M → Prop} (hb : kdX[b]? = some (.inl (9, dsX9 b))) (hd1 : kdX[d1]? = some (.inl (2, dsX2 d1))) (hO : P9_through b d1 p2 p3 p4 p5 p6 μ Q) : mw_Mv l G kdX yX9_through cX9_through 11 none 4 115 [.ref (mw_a G b), .ref (mw_a G d1), .int p2, .int p3, .int p4, .int p5, .int p6] μ (Q) := by
  refine mw_enter [(0, .ref (mw_a G b)), (1, .ref (mw_a G d1)), (2, .int p2), (3, .int p3), (4, .int p4), (5, .int p5), (6, .int p6)] RX9 (by decide) rfl (Nat.le_of_ble_eq_true rfl) rfl ?_
  intro p e s m args below meth c hC
  unfold P9_through at hO
  refine r_aload_n hC 0 dX9_through_0 rfl rfl ?_
  refine r_aload_n hC 1 dX9_through_1 rfl rfl ?_
  refine r_iload hC 6 dX9_through_2 rfl ?_
  refine r_callVv hC [.ref (mw_a G d1), .int p6] (T9_begin hb hd1 hO) yv9_begin ml9_31 hb rfl ⟨Nat.le_of_ble_eq_true rfl, Nat.le_of_ble_eq_true rfl⟩ rfl rfl (Nat.le_of_ble_eq_true rfl) dX9_through_4 (fun μ1 hO => ?_)
  refine r_aload_n hC 0 dX9_through_7 rfl rfl ?_
  refine r_getI hC fl9_35 hb rfl dX9_through_8 ?_
  refine r_nmI (fun x2 hx2 => ?_)
  have hO := hO x2 hx2
  refine r_istore hC [(7, .int x2), (0, .ref (mw_a G b)), (1, .ref (mw_a G d1)), (2, .int p2), (3, .int p3), (4, .int p4), (5, .int p5), (6, .int p6)] dX9_through_11 (by decide) rfl ?_
  refine r_iconst hC 0 dX9_through_13 (by decide) ?_
  refine r_istore hC [(8, .int 0), (7, .int x2), (0, .ref (mw_a G b)), (1, .ref (mw_a G d1)), (2, .int p2), (3, .int p3), (4, .int p4), (5, .int p5), (6, .int p6)] dX9_through_14 (by decide) rfl ?_
  refine r_iconst hC 0 dX9_through_16 (by decide) ?_
  refine r_istore hC [(9, .int 0), (8, .int 0), (7, .int x2), (0, .ref (mw_a G b)), (1, .ref (mw_a G d1)), (2, .int p2), (3, .int p3), (4, .int p4), (5, .int p5), (6, .int p6)] dX9_through_17 (by decide) rfl ?_
  have hLn7 : ∀  (K1 : Int32 → Int32 → Int32 → mw_M → Prop) (hK1 : ∀ (v3 : Int32) (v4 : Int32) (v5 : Int32) (μ6 : mw_M), K1 v3 v4 v5 μ6 → mw_W p l e (mw_rm 4 115) s m args below meth c G kdX 11 (MQ below (va_Qv (Q) (mw_B G kdX) (mw_A G kdX)) args s 0 0 (mw_A G kdX)) 231 [(9, .int v3), (8, .int v4), (7, .int v5), (0, .ref (mw_a G b)), (1, .ref (mw_a G d1)), (2, .int p2), (3, .int p3), (4, .int p4), (5, .int p5), (6, .int p6)] [] μ6) (n7 : Nat) (v3 : Int32) (v4 : Int32) (v5 : Int32) (μ6 : mw_M), L9_through_19 b d1 p2 p3 p4 p5 p6 Q K1 n7 v3 v4 v5 μ6 → mw_W p l e (mw_rm 4 115) s m args below meth c G kdX 11 (MQ below (va_Qv (Q) (mw_B G kdX) (mw_A G kdX)) args s 0 0 (mw_A G kdX)) 19 [(9, .int v3), (8, .int v4), (7, .int v5), (0, .ref (mw_a G b)), (1, .ref (mw_a G d1)), (2, .int p2), (3, .int p3), (4, .int p4), (5, .int p5), (6, .int p6)] [] μ6 := by
    intro  K1 hK1 n7
    induction n7 with
    | zero => intro v3 v4 v5 μ6 hO; exact False.elim hO
    | succ n7 ihn7 =>
      intro v3 v4 v5 μ6 hO
      refine r_iload hC 0 dX9_through_19 rfl ?_
      refine r_iload hC 8 dX9_through_21 rfl ?_
      refine r_icmp_ge hC 231 dX9_through_23 (by decide) (fun h8 => ?_) (fun h8 => ?_)
      · have hO := hO.1 h8
        refine r_lv hC [(9, .int v3), (8, .int v4), (7, .int v5), (0, .ref (mw_a G b)), (1, .ref (mw_a G d1)), (2, .int p2), (3, .int p3), (4, .int p4), (5, .int p5), (6, .int p6)] [0, 1, 2, 3, 4, 5, 6, 7, 8, 9] rfl ?_
        exact hK1 v3 v4 v5 μ6 hO
      · have hO := hO.2 h8
        refine r_iload hC 0 dX9_through_26 rfl ?_
        refine r_sipush hC 200 dX9_through_28 (by decide) ?_
        refine r_icmp_ge hC 231 dX9_through_31 (by decide) (fun h9 => ?_) (fun h9 => ?_)
        · have hO := hO.1 h9
          refine r_lv hC [(9, .int v3), (8, .int v4), (7, .int v5), (0, .ref (mw_a G b)), (1, .ref (mw_a G d1)), (2, .int p2), (3, .int p3), (4, .int p4), (5, .int p5), (6, .int p6)] [0, 1, 2, 3, 4, 5, 6, 7, 8, 9] rfl ?_
          exact hK1 v3 v4 v5 μ6 hO
        · have hO := hO.2 h9
          refine r_aload_n hC 3 dX9_through_34 rfl rfl ?_
          refine r_aload_n hC 3 dX9_through_35 rfl rfl ?_
          refine r_getI hC fl9_39 hb rfl dX9_through_36 ?_
          refine r_callSi hC [.int (μ6.1 b 4)] (T2_drawn  hO) yv2_drawn ml9_42 ⟨Nat.le_of_ble_eq_true rfl, Nat.le_of_ble_eq_true rfl⟩ rfl rfl (Nat.le_of_ble_eq_true rfl) dX9_through_39 (fun r10 μ11 hO => ?_)
          obtain ⟨hO, hm⟩ := hO
          refine r_memEq hm ?_
          refine r_putI hC fl9_39 hb rfl rfl rfl dX9_through_42 ?_
          refine r_nmM (fun μ12 hμ12 => ?_)
          have hO := hO μ12 hμ12
          refine r_aload_n hC 3 dX9_through_45 rfl rfl ?_
          refine r_aload_n hC 3 dX9_through_46 rfl rfl ?_
          refine r_getR hC 15 fl9_15 hb rfl dX9_through_47 ?_
          refine r_iload_n hC 5 dX9_through_50 rfl rfl ?_
          refine r_aload_n hC 3 dX9_through_51 rfl rfl ?_
          refine r_getI hC fl9_46 hb rfl dX9_through_52 ?_
          refine r_iload hC 0 dX9_through_55 rfl ?_
          refine r_aload_n hC 3 dX9_through_57 rfl rfl ?_
          refine r_iload hC 0 dX9_through_58 rfl ?_
          refine r_callVi hC [.int v3] (T9_seenAt hb hO) yv9_seenAt ml9_49 hb rfl ⟨Nat.le_of_ble_eq_true rfl, Nat.le_of_ble_eq_true rfl⟩ rfl rfl (Nat.le_of_ble_eq_true rfl) dX9_through_60 (fun r13 μ14 hO => ?_)
          obtain ⟨hO, hm⟩ := hO
          refine r_memEq hm ?_
          refine r_iload hC 7 dX9_through_63 rfl ?_
          refine r_aload_n hC 3 dX9_through_65 rfl rfl ?_
          refine r_getI hC fl9_52 hb rfl dX9_through_66 ?_
          refine r_aload_n hC 3 dX9_through_69 rfl rfl ?_
          refine r_getI hC fl9_55 hb rfl dX9_through_70 ?_
          refine r_callVi hC [.int p2, .int (μ12.1 b 13), .int v3, .int r13, .int p4, .int (μ12.1 b 8), .int (μ12.1 b 9)] (T4_paceBy  hO) yv4_paceBy ml9_58 (sh9_1 hb) rfl ⟨Nat.le_of_ble_eq_true rfl, Nat.le_of_ble_eq_true rfl⟩ rfl rfl (Nat.le_of_ble_eq_true rfl) dX9_through_73 (fun r15 μ16 hO => ?_)
          refine r_putI hC fl9_46 hb rfl rfl rfl dX9_through_76 ?_
          refine r_nmM (fun μ17 hμ17 => ?_)
          have hO := hO μ17 hμ17
          refine r_aload_n hC 3 dX9_through_79 rfl rfl ?_
          refine r_getI hC fl9_46 hb rfl dX9_through_80 ?_
          refine r_bipush hC 60 dX9_through_83 (by decide) ?_
          refine r_icmp_ge hC 92 dX9_through_85 (by decide) (fun h18 => ?_) (fun h18 => ?_)
          · have hO := hO.1 h18
            refine r_iconst hC 0 dX9_through_92 (by decide) ?_
            refine r_istore hC [(10, .int 0), (9, .int v3), (8, .int v4), (7, .int v5), (0, .ref (mw_a G b)), (1, .ref (mw_a G d1)), (2, .int p2), (3, .int p3), (4, .int p4), (5, .int p5), (6, .int p6)] dX9_through_93 (by decide) rfl ?_
            refine r_iload hC 0 dX9_through_95 rfl ?_
            refine r_if_eq hC 133 dX9_through_97 (by decide) (fun _ => ?_) (fun h => absurd (by decide) h)
            refine r_aload_n hC 4 dX9_through_133 rfl rfl ?_
            refine r_getR hC 15 fl9_15 hb rfl dX9_through_134 ?_
            refine r_aload_n hC 4 dX9_through_137 rfl rfl ?_
            refine r_getR hC (b + 1) fl9_22 hb rfl dX9_through_138 ?_
            refine r_iload hC 3 dX9_through_141 rfl ?_
            refine r_aload_n hC 4 dX9_through_143 rfl rfl ?_
            refine r_getI hC fl9_46 hb rfl dX9_through_144 ?_
            refine r_iload hC 1 dX9_through_147 rfl ?_
            refine r_aload_n hC 4 dX9_through_149 rfl rfl ?_
            refine r_getI hC fl9_52 hb rfl dX9_through_150 ?_
            refine r_aload_n hC 4 dX9_through_153 rfl rfl ?_
            refine r_getI hC fl9_55 hb rfl dX9_through_154 ?_
            refine r_callVv hC [.ref (mw_a G (b + 1)), .int v5, .int (μ17.1 b 13), .int v3, .int (μ17.1 b 8), .int (μ17.1 b 9)] (T4_drain (sh9_2 hb) hO) yv4_drain ml9_69 (sh9_1 hb) rfl ⟨Nat.le_of_ble_eq_true rfl, Nat.le_of_ble_eq_true rfl⟩ rfl rfl (Nat.le_of_ble_eq_true rfl) dX9_through_157 (fun μ19 hO => ?_)
            refine r_aload_n hC 4 dX9_through_160 rfl rfl ?_
            refine r_iload hC 0 dX9_through_161 rfl ?_
            refine r_if_eq hC 170 dX9_through_163 (by decide) (fun _ => ?_) (fun h => absurd (by decide) h)
            refine r_aload_n hC 4 dX9_through_170 rfl rfl ?_
            refine r_getI hC fl9_52 hb rfl dX9_through_171 ?_
            refine r_iconst hC 1 dX9_through_174 (by decide) ?_
            refine r_iadd hC dX9_through_175 ?_
            refine r_putI hC fl9_52 hb rfl rfl rfl dX9_through_176 ?_
            refine r_nmM (fun μ20 hμ20 => ?_)
            have hO := hO μ20 hμ20
            refine r_iload hC 0 dX9_through_179 rfl ?_
            refine r_istore hC [(8, .int 0), (10, .int 0), (9, .int v3), (7, .int v5), (0, .ref (mw_a G b)), (1, .ref (mw_a G d1)), (2, .int p2), (3, .int p3), (4, .int p4), (5, .int p5), (6, .int p6)] dX9_through_181 (by decide) rfl ?_
            refine r_aload_n hC 4 dX9_through_183 rfl rfl ?_
            refine r_getR hC (b + 1) fl9_22 hb rfl dX9_through_184 ?_
            refine r_callVi hC [] (T2_lopsided (sh9_2 hb) hO) yv2_lopsided ml9_73 (sh9_2 hb) rfl ⟨Nat.le_of_ble_eq_true rfl, Nat.le_of_ble_eq_true rfl⟩ rfl rfl (Nat.le_of_ble_eq_true rfl) dX9_through_187 (fun r21 μ22 hO => ?_)
            obtain ⟨hO, hm⟩ := hO
            refine r_memEq hm ?_
            refine r_istore hC [(7, .int r21), (8, .int 0), (10, .int 0), (9, .int v3), (0, .ref (mw_a G b)), (1, .ref (mw_a G d1)), (2, .int p2), (3, .int p3), (4, .int p4), (5, .int p5), (6, .int p6)] dX9_through_190 (by decide) rfl ?_
            refine r_aload_n hC 4 dX9_through_192 rfl rfl ?_
            refine r_iload hC 3 dX9_through_193 rfl ?_
            refine r_iload_n hC 7 dX9_through_195 rfl rfl ?_
            refine r_iload hC 0 dX9_through_196 rfl ?_
            refine r_callVv hC [.int v3, .int p3, .int r21] (T9_shakeAndHop hb hO) yv9_shakeAndHop ml9_77 hb rfl ⟨Nat.le_of_ble_eq_true rfl, Nat.le_of_ble_eq_true rfl⟩ rfl rfl (Nat.le_of_ble_eq_true rfl) dX9_through_198 (fun μ23 hO => ?_)
            refine r_aload_n hC 4 dX9_through_201 rfl rfl ?_
            refine r_getI hC fl9_81 hb rfl dX9_through_202 ?_
            refine r_bipush hC (-2) dX9_through_205 (by decide) ?_
            refine r_icmp_ne hC 225 dX9_through_207 (by decide) (fun h24 => ?_) (fun h24 => ?_)
            · have hO := hO.2 h24
              obtain ⟨x25, hx25⟩ : ∃ y : Int32, y = v3 + 1 := ⟨_, rfl⟩
              have hO := hO x25 hx25
              refine r_iinc hC x25 3 [(9, .int x25), (7, .int r21), (8, .int 0), (10, .int 0), (0, .ref (mw_a G b)), (1, .ref (mw_a G d1)), (2, .int p2), (3, .int p3), (4, .int p4), (5, .int p5), (6, .int p6)] dX9_through_225 rfl (by rw [hx25]; rfl) (by decide) rfl ?_
              refine r_goto hC 19 dX9_through_228 (by decide) ?_
              refine r_lv hC [(9, .int x25), (8, .int 0), (7, .int r21), (0, .ref (mw_a G b)), (1, .ref (mw_a G d1)), (2, .int p2), (3, .int p3), (4, .int p4), (5, .int p5), (6, .int p6)] [0, 2, 1, 4, 5, 6, 7, 8, 9, 10] rfl ?_
              exact ihn7 x25 0 r21 μ23 hO
            · have hO := hO.1 h24
              refine r_aload_n hC 4 dX9_through_210 rfl rfl ?_
              refine r_getI hC fl9_46 hb rfl dX9_through_211 ?_
              refine r_iload hC 8 dX9_through_214 rfl ?_
              refine r_icmp_lt hC 225 dX9_through_216 (by decide) (fun h26 => ?_) (fun h26 => ?_)
              · have hO := hO.1 h26
                obtain ⟨x27, hx27⟩ : ∃ y : Int32, y = v3 + 1 := ⟨_, rfl⟩
                have hO := hO x27 hx27
                refine r_iinc hC x27 3 [(9, .int x27), (7, .int r21), (8, .int 0), (10, .int 0), (0, .ref (mw_a G b)), (1, .ref (mw_a G d1)), (2, .int p2), (3, .int p3), (4, .int p4), (5, .int p5), (6, .int p6)] dX9_through_225 rfl (by rw [hx27]; rfl) (by decide) rfl ?_
                refine r_goto hC 19 dX9_through_228 (by decide) ?_
                refine r_lv hC [(9, .int x27), (8, .int 0), (7, .int r21), (0, .ref (mw_a G b)), (1, .ref (mw_a G d1)), (2, .int p2), (3, .int p3), (4, .int p4), (5, .int p5), (6, .int p6)] [0, 2, 1, 4, 5, 6, 7, 8, 9, 10] rfl ?_
                exact ihn7 x27 0 r21 μ23 hO
              · have hO := hO.2 h26
                refine r_aload_n hC 4 dX9_through_219 rfl rfl ?_
                refine r_iload hC 3 dX9_through_220 rfl ?_
                refine r_putI hC fl9_81 hb rfl rfl rfl dX9_through_222 ?_
                refine r_nmM (fun μ28 hμ28 => ?_)
                have hO := hO μ28 hμ28
                obtain ⟨x29, hx29⟩ : ∃ y : Int32, y = v3 + 1 := ⟨_, rfl⟩
                have hO := hO x29 hx29
                refine r_iinc hC x29 3 [(9, .int x29), (7, .int r21), (8, .int 0), (10, .int 0), (0, .ref (mw_a G b)), (1, .ref (mw_a G d1)), (2, .int p2), (3, .int p3), (4, .int p4), (5, .int p5), (6, .int p6)] dX9_through_225 rfl (by rw [hx29]; rfl) (by decide) rfl ?_
                refine r_goto hC 19 dX9_through_228 (by decide) ?_
                refine r_lv hC [(9, .int x29), (8, .int 0), (7, .int r21), (0, .ref (mw_a G b)), (1, .ref (mw_a G d1)), (2, .int p2), (3, .int p3), (4, .int p4), (5, .int p5), (6, .int p6)] [0, 2, 1, 4, 5, 6, 7, 8, 9, 10] rfl ?_
                exact ihn7 x29 0 r21 μ28 hO
          · have hO := hO.2 h18
            refine r_iconst hC 1 dX9_through_88 (by decide) ?_
            refine r_goto hC 93 dX9_through_89 (by decide) ?_
            refine r_istore hC [(10, .int 1), (9, .int v3), (8, .int v4), (7, .int v5), (0, .ref (mw_a G b)), (1, .ref (mw_a G d1)), (2, .int p2), (3, .int p3), (4, .int p4), (5, .int p5), (6, .int p6)] dX9_through_93 (by decide) rfl ?_
            refine r_iload hC 0 dX9_through_95 rfl ?_
            refine r_if_eq hC 133 dX9_through_97 (by decide) (fun h => absurd h (by decide)) (fun _ => ?_)
            refine r_aload_n hC 4 dX9_through_100 rfl rfl ?_
            refine r_aload_n hC 4 dX9_through_101 rfl rfl ?_
            refine r_getR hC (b + 1) fl9_22 hb rfl dX9_through_102 ?_
            refine r_aload_n hC 4 dX9_through_105 rfl rfl ?_
            refine r_getI hC fl9_39 hb rfl dX9_through_106 ?_
            refine r_callVi hC [.int (μ17.1 b 4)] (T2_tumble (sh9_2 hb) hO) yv2_tumble ml9_66 (sh9_2 hb) rfl ⟨Nat.le_of_ble_eq_true rfl, Nat.le_of_ble_eq_true rfl⟩ rfl rfl (Nat.le_of_ble_eq_true rfl) dX9_through_109 (fun r30 μ31 hO => ?_)
            refine r_putI hC fl9_39 hb rfl rfl rfl dX9_through_112 ?_
            refine r_nmM (fun μ32 hμ32 => ?_)
            have hO := hO μ32 hμ32
            refine r_iload hC 2 dX9_through_115 rfl ?_
            refine r_if_ne hC 160 dX9_through_117 (by decide) (fun h33 => ?_) (fun h33 => ?_)
            · have hO := hO.2 h33
              refine r_aload_n hC 4 dX9_through_160 rfl rfl ?_
              refine r_iload hC 0 dX9_through_161 rfl ?_
              refine r_if_eq hC 170 dX9_through_163 (by decide) (fun h => absurd h (by decide)) (fun _ => ?_)
              refine r_iconst hC 0 dX9_through_166 (by decide) ?_
              refine r_goto hC 176 dX9_through_167 (by decide) ?_
              refine r_putI hC fl9_52 hb rfl rfl rfl dX9_through_176 ?_
              refine r_nmM (fun μ34 hμ34 => ?_)
              have hO := hO μ34 hμ34
              refine r_iload hC 0 dX9_through_179 rfl ?_
              refine r_istore hC [(8, .int 1), (10, .int 1), (9, .int v3), (7, .int v5), (0, .ref (mw_a G b)), (1, .ref (mw_a G d1)), (2, .int p2), (3, .int p3), (4, .int p4), (5, .int p5), (6, .int p6)] dX9_through_181 (by decide) rfl ?_
              refine r_aload_n hC 4 dX9_through_183 rfl rfl ?_
              refine r_getR hC (b + 1) fl9_22 hb rfl dX9_through_184 ?_
              refine r_callVi hC [] (T2_lopsided (sh9_2 hb) hO) yv2_lopsided ml9_73 (sh9_2 hb) rfl ⟨Nat.le_of_ble_eq_true rfl, Nat.le_of_ble_eq_true rfl⟩ rfl rfl (Nat.le_of_ble_eq_true rfl) dX9_through_187 (fun r35 μ36 hO => ?_)
              obtain ⟨hO, hm⟩ := hO
              refine r_memEq hm ?_
              refine r_istore hC [(7, .int r35), (8, .int 1), (10, .int 1), (9, .int v3), (0, .ref (mw_a G b)), (1, .ref (mw_a G d1)), (2, .int p2), (3, .int p3), (4, .int p4), (5, .int p5), (6, .int p6)] dX9_through_190 (by decide) rfl ?_
              refine r_aload_n hC 4 dX9_through_192 rfl rfl ?_
              refine r_iload hC 3 dX9_through_193 rfl ?_
              refine r_iload_n hC 7 dX9_through_195 rfl rfl ?_
              refine r_iload hC 0 dX9_through_196 rfl ?_
              refine r_callVv hC [.int v3, .int p3, .int r35] (T9_shakeAndHop hb hO) yv9_shakeAndHop ml9_77 hb rfl ⟨Nat.le_of_ble_eq_true rfl, Nat.le_of_ble_eq_true rfl⟩ rfl rfl (Nat.le_of_ble_eq_true rfl) dX9_through_198 (fun μ37 hO => ?_)
              refine r_aload_n hC 4 dX9_through_201 rfl rfl ?_
              refine r_getI hC fl9_81 hb rfl dX9_through_202 ?_
              refine r_bipush hC (-2) dX9_through_205 (by decide) ?_
              refine r_icmp_ne hC 225 dX9_through_207 (by decide) (fun h38 => ?_) (fun h38 => ?_)
              · have hO := hO.2 h38
                obtain ⟨x39, hx39⟩ : ∃ y : Int32, y = v3 + 1 := ⟨_, rfl⟩
                have hO := hO x39 hx39
                refine r_iinc hC x39 3 [(9, .int x39), (7, .int r35), (8, .int 1), (10, .int 1), (0, .ref (mw_a G b)), (1, .ref (mw_a G d1)), (2, .int p2), (3, .int p3), (4, .int p4), (5, .int p5), (6, .int p6)] dX9_through_225 rfl (by rw [hx39]; rfl) (by decide) rfl ?_
                refine r_goto hC 19 dX9_through_228 (by decide) ?_
                refine r_lv hC [(9, .int x39), (8, .int 1), (7, .int r35), (0, .ref (mw_a G b)), (1, .ref (mw_a G d1)), (2, .int p2), (3, .int p3), (4, .int p4), (5, .int p5), (6, .int p6)] [0, 2, 1, 4, 5, 6, 7, 8, 9, 10] rfl ?_
                exact ihn7 x39 1 r35 μ37 hO
              · have hO := hO.1 h38
                refine r_aload_n hC 4 dX9_through_210 rfl rfl ?_
                refine r_getI hC fl9_46 hb rfl dX9_through_211 ?_
                refine r_iload hC 8 dX9_through_214 rfl ?_
                refine r_icmp_lt hC 225 dX9_through_216 (by decide) (fun h40 => ?_) (fun h40 => ?_)
                · have hO := hO.1 h40
                  obtain ⟨x41, hx41⟩ : ∃ y : Int32, y = v3 + 1 := ⟨_, rfl⟩
                  have hO := hO x41 hx41
                  refine r_iinc hC x41 3 [(9, .int x41), (7, .int r35), (8, .int 1), (10, .int 1), (0, .ref (mw_a G b)), (1, .ref (mw_a G d1)), (2, .int p2), (3, .int p3), (4, .int p4), (5, .int p5), (6, .int p6)] dX9_through_225 rfl (by rw [hx41]; rfl) (by decide) rfl ?_
                  refine r_goto hC 19 dX9_through_228 (by decide) ?_
                  refine r_lv hC [(9, .int x41), (8, .int 1), (7, .int r35), (0, .ref (mw_a G b)), (1, .ref (mw_a G d1)), (2, .int p2), (3, .int p3), (4, .int p4), (5, .int p5), (6, .int p6)] [0, 2, 1, 4, 5, 6, 7, 8, 9, 10] rfl ?_
                  exact ihn7 x41 1 r35 μ37 hO
                · have hO := hO.2 h40
                  refine r_aload_n hC 4 dX9_through_219 rfl rfl ?_
                  refine r_iload hC 3 dX9_through_220 rfl ?_
                  refine r_putI hC fl9_81 hb rfl rfl rfl dX9_through_222 ?_
                  refine r_nmM (fun μ42 hμ42 => ?_)
                  have hO := hO μ42 hμ42
                  obtain ⟨x43, hx43⟩ : ∃ y : Int32, y = v3 + 1 := ⟨_, rfl⟩
                  have hO := hO x43 hx43
                  refine r_iinc hC x43 3 [(9, .int x43), (7, .int r35), (8, .int 1), (10, .int 1), (0, .ref (mw_a G b)), (1, .ref (mw_a G d1)), (2, .int p2), (3, .int p3), (4, .int p4), (5, .int p5), (6, .int p6)] dX9_through_225 rfl (by rw [hx43]; rfl) (by decide) rfl ?_
                  refine r_goto hC 19 dX9_through_228 (by decide) ?_
                  refine r_lv hC [(9, .int x43), (8, .int 1), (7, .int r35), (0, .ref (mw_a G b)), (1, .ref (mw_a G d1)), (2, .int p2), (3, .int p3), (4, .int p4), (5, .int p5), (6, .int p6)] [0, 2, 1, 4, 5, 6, 7, 8, 9, 10] rfl ?_
                  exact ihn7 x43 1 r35 μ42 hO
            · have hO := hO.1 h33
              refine r_aload_n hC 4 dX9_through_120 rfl rfl ?_
              refine r_dup hC dX9_through_121 rfl ?_
              refine r_getI hC fl9_55 hb rfl dX9_through_122 ?_
              refine r_iconst hC 1 dX9_through_125 (by decide) ?_
              refine r_iadd hC dX9_through_126 ?_
              refine r_putI hC fl9_55 hb rfl rfl rfl dX9_through_127 ?_
              refine r_nmM (fun μ44 hμ44 => ?_)
              have hO := hO μ44 hμ44
              refine r_goto hC 160 dX9_through_130 (by decide) ?_
              refine r_aload_n hC 4 dX9_through_160 rfl rfl ?_
              refine r_iload hC 0 dX9_through_161 rfl ?_
              refine r_if_eq hC 170 dX9_through_163 (by decide) (fun h => absurd h (by decide)) (fun _ => ?_)
              refine r_iconst hC 0 dX9_through_166 (by decide) ?_
              refine r_goto hC 176 dX9_through_167 (by decide) ?_
              refine r_putI hC fl9_52 hb rfl rfl rfl dX9_through_176 ?_
              refine r_nmM (fun μ45 hμ45 => ?_)
              have hO := hO μ45 hμ45
              refine r_iload hC 0 dX9_through_179 rfl ?_
              refine r_istore hC [(8, .int 1), (10, .int 1), (9, .int v3), (7, .int v5), (0, .ref (mw_a G b)), (1, .ref (mw_a G d1)), (2, .int p2), (3, .int p3), (4, .int p4), (5, .int p5), (6, .int p6)] dX9_through_181 (by decide) rfl ?_
              refine r_aload_n hC 4 dX9_through_183 rfl rfl ?_
              refine r_getR hC (b + 1) fl9_22 hb rfl dX9_through_184 ?_
              refine r_callVi hC [] (T2_lopsided (sh9_2 hb) hO) yv2_lopsided ml9_73 (sh9_2 hb) rfl ⟨Nat.le_of_ble_eq_true rfl, Nat.le_of_ble_eq_true rfl⟩ rfl rfl (Nat.le_of_ble_eq_true rfl) dX9_through_187 (fun r46 μ47 hO => ?_)
              obtain ⟨hO, hm⟩ := hO
              refine r_memEq hm ?_
              refine r_istore hC [(7, .int r46), (8, .int 1), (10, .int 1), (9, .int v3), (0, .ref (mw_a G b)), (1, .ref (mw_a G d1)), (2, .int p2), (3, .int p3), (4, .int p4), (5, .int p5), (6, .int p6)] dX9_through_190 (by decide) rfl ?_
              refine r_aload_n hC 4 dX9_through_192 rfl rfl ?_
              refine r_iload hC 3 dX9_through_193 rfl ?_
              refine r_iload_n hC 7 dX9_through_195 rfl rfl ?_
              refine r_iload hC 0 dX9_through_196 rfl ?_
              refine r_callVv hC [.int v3, .int p3, .int r46] (T9_shakeAndHop hb hO) yv9_shakeAndHop ml9_77 hb rfl ⟨Nat.le_of_ble_eq_true rfl, Nat.le_of_ble_eq_true rfl⟩ rfl rfl (Nat.le_of_ble_eq_true rfl) dX9_through_198 (fun μ48 hO => ?_)
              refine r_aload_n hC 4 dX9_through_201 rfl rfl ?_
              refine r_getI hC fl9_81 hb rfl dX9_through_202 ?_
              refine r_bipush hC (-2) dX9_through_205 (by decide) ?_
              refine r_icmp_ne hC 225 dX9_through_207 (by decide) (fun h49 => ?_) (fun h49 => ?_)
              · have hO := hO.2 h49
                obtain ⟨x50, hx50⟩ : ∃ y : Int32, y = v3 + 1 := ⟨_, rfl⟩
                have hO := hO x50 hx50
                refine r_iinc hC x50 3 [(9, .int x50), (7, .int r46), (8, .int 1), (10, .int 1), (0, .ref (mw_a G b)), (1, .ref (mw_a G d1)), (2, .int p2), (3, .int p3), (4, .int p4), (5, .int p5), (6, .int p6)] dX9_through_225 rfl (by rw [hx50]; rfl) (by decide) rfl ?_
                refine r_goto hC 19 dX9_through_228 (by decide) ?_
                refine r_lv hC [(9, .int x50), (8, .int 1), (7, .int r46), (0, .ref (mw_a G b)), (1, .ref (mw_a G d1)), (2, .int p2), (3, .int p3), (4, .int p4), (5, .int p5), (6, .int p6)] [0, 2, 1, 4, 5, 6, 7, 8, 9, 10] rfl ?_
                exact ihn7 x50 1 r46 μ48 hO
              · have hO := hO.1 h49
                refine r_aload_n hC 4 dX9_through_210 rfl rfl ?_
                refine r_getI hC fl9_46 hb rfl dX9_through_211 ?_
                refine r_iload hC 8 dX9_through_214 rfl ?_
                refine r_icmp_lt hC 225 dX9_through_216 (by decide) (fun h51 => ?_) (fun h51 => ?_)
                · have hO := hO.1 h51
                  obtain ⟨x52, hx52⟩ : ∃ y : Int32, y = v3 + 1 := ⟨_, rfl⟩
                  have hO := hO x52 hx52
                  refine r_iinc hC x52 3 [(9, .int x52), (7, .int r46), (8, .int 1), (10, .int 1), (0, .ref (mw_a G b)), (1, .ref (mw_a G d1)), (2, .int p2), (3, .int p3), (4, .int p4), (5, .int p5), (6, .int p6)] dX9_through_225 rfl (by rw [hx52]; rfl) (by decide) rfl ?_
                  refine r_goto hC 19 dX9_through_228 (by decide) ?_
                  refine r_lv hC [(9, .int x52), (8, .int 1), (7, .int r46), (0, .ref (mw_a G b)), (1, .ref (mw_a G d1)), (2, .int p2), (3, .int p3), (4, .int p4), (5, .int p5), (6, .int p6)] [0, 2, 1, 4, 5, 6, 7, 8, 9, 10] rfl ?_
                  exact ihn7 x52 1 r46 μ48 hO
                · have hO := hO.2 h51
                  refine r_aload_n hC 4 dX9_through_219 rfl rfl ?_
                  refine r_iload hC 3 dX9_through_220 rfl ?_
                  refine r_putI hC fl9_81 hb rfl rfl rfl dX9_through_222 ?_
                  refine r_nmM (fun μ53 hμ53 => ?_)
                  have hO := hO μ53 hμ53
                  obtain ⟨x54, hx54⟩ : ∃ y : Int32, y = v3 + 1 := ⟨_, rfl⟩
                  have hO := hO x54 hx54
                  refine r_iinc hC x54 3 [(9, .int x54), (7, .int r46), (8, .int 1), (10, .int 1), (0, .ref (mw_a G b)), (1, .ref (mw_a G d1)), (2, .int p2), (3, .int p3), (4, .int p4), (5, .int p5), (6, .int p6)] dX9_through_225 rfl (by rw [hx54]; rfl) (by decide) rfl ?_
                  refine r_goto hC 19 dX9_through_228 (by decide) ?_
                  refine r_lv hC [(9, .int x54), (8, .int 1), (7, .int r46), (0, .ref (mw_a G b)), (1, .ref (mw_a G d1)), (2, .int p2), (3, .int p3), (4, .int p4), (5, .int p5), (6, .int p6)] [0, 2, 1, 4, 5, 6, 7, 8, 9, 10] rfl ?_
                  exact ihn7 x54 1 r46 μ53 hO
  obtain ⟨n7, hO⟩ := hO
  refine hLn7  _ (fun v3 v4 v5 μ6 hO => ?_) n7 _ _ _ _ hO
  refine r_aload_n hC 3 dX9_through_231 rfl rfl ?_
  refine r_aload_n hC 3 dX9_through_232 rfl rfl ?_
  refine r_getI hC fl9_84 hb rfl dX9_through_233 ?_
  refine r_aload_n hC 3 dX9_through_236 rfl rfl ?_
  refine r_getR hC 11 fl9_9 hb rfl dX9_through_237 ?_
  refine r_getN (j := 4) (C := RX5) (T := TX5) (N := 9) (host := "MachineWalks") hC hC.2.1.2.2.2.2.2 rfl inX5 (by decide) rfl (sh9_0 hb) rfl dX9_through_240 ?_
  refine r_icmp_le hC 250 dX9_through_243 (by decide) (fun h55 => ?_) (fun h55 => ?_)
  · have hO := hO.1 h55
    refine r_iconst hC 0 dX9_through_250 (by decide) ?_
    refine r_putI hC fl9_90 hb rfl (by decide) rfl dX9_through_251 ?_
    refine r_nmM (fun μ56 hμ56 => ?_)
    have hO := hO μ56 hμ56
    exact r_vret hC rfl dX9_through_254 hO
  · have hO := hO.2 h55
    refine r_iconst hC 1 dX9_through_246 (by decide) ?_
    refine r_goto hC 251 dX9_through_247 (by decide) ?_
    refine r_putI hC fl9_90 hb rfl (by decide) rfl dX9_through_251 ?_
    refine r_nmM (fun μ57 hμ57 => ?_)
    have hO := hO μ57 hμ57
    exact r_vret hC rfl dX9_through_254 hO
set_option maxHeartbeats 4000000 in
set_option maxRecDepth 100000 in
theorem T9_left {l : Launch} {G : mw_G} {b : Nat} {μ : mw_M} {Q : Int32 → Prop} (hb : kdX[b]? = some (.inl (9, dsX9 b))) (hO : P9_left b μ Q) : mw_Mi l G kdX yX9_left cX9_left 1 (some .int) 1 22 [.ref (mw_a G b)] μ (mw_pq μ Q) := by
  refine mw_enter [(0, .ref (mw_a G b))] RX9 (by decide) rfl (Nat.le_of_ble_eq_true rfl) rfl ?_
  intro p e s m args below meth c hC
  unfold P9_left at hO
  refine r_aload_n hC 0 dX9_left_0 rfl rfl ?_
  refine r_getR hC (b + 1) fl9_22 hb rfl dX9_left_1 ?_
  refine r_callVi hC [] (T2_wetOfAll (sh9_2 hb) hO) yv2_wetOfAll ml9_156 (sh9_2 hb) rfl ⟨Nat.le_of_ble_eq_true rfl, Nat.le_of_ble_eq_true rfl⟩ rfl rfl (Nat.le_of_ble_eq_true rfl) dX9_left_4 (fun r1 μ2 hO => ?_)
  obtain ⟨hO, hm⟩ := hO
  refine r_memEq hm ?_
  exact r_iret hC rfl dX9_left_7 ⟨hO, rfl⟩
set_option maxHeartbeats 4000000 in
set_option maxRecDepth 100000 in
theorem T8_walkOften {l : Launch} {G : mw_G} {p1 : Int32} {p2 : Int32} {p3 : Int32} {p4 : Int32} {p5 : Int32} {μ : mw_M} {Q : mw_M → Prop}  (hO : P8_walkOften p1 p2 p3 p4 p5 μ Q) : mw_Mv l G kdX yX8_walkOften cX8_walkOften 7 none 5 145 [.ref (mw_a G 44), .int p1, .int p2, .int p3, .int p4, .int p5] μ (Q) := by
  refine mw_enter [(0, .ref (mw_a G 44)), (1, .int p1), (2, .int p2), (3, .int p3), (4, .int p4), (5, .int p5)] RX8 (by decide) rfl (Nat.le_of_ble_eq_true rfl) rfl ?_
  intro p e s m args below meth c hC
  unfold P8_walkOften at hO
  refine r_aload_n hC 0 dX8_walkOften_0 rfl rfl ?_
  refine r_iload hC 4 dX8_walkOften_1 rfl ?_
  refine r_putI hC fl8_78 ob8 rfl rfl rfl dX8_walkOften_3 ?_
  refine r_nmM (fun μ1 hμ1 => ?_)
  have hO := hO μ1 hμ1
  refine r_aload_n hC 0 dX8_walkOften_6 rfl rfl ?_
  refine r_iconst hC 0 dX8_walkOften_7 (by decide) ?_
  refine r_putI hC fl8_82 ob8 rfl rfl rfl dX8_walkOften_8 ?_
  refine r_nmM (fun μ2 hμ2 => ?_)
  have hO := hO μ2 hμ2
  refine r_aload_n hC 0 dX8_walkOften_11 rfl rfl ?_
  refine r_iconst hC 0 dX8_walkOften_12 (by decide) ?_
  refine r_putI hC fl8_85 ob8 rfl rfl rfl dX8_walkOften_13 ?_
  refine r_nmM (fun μ3 hμ3 => ?_)
  have hO := hO μ3 hμ3
  refine r_aload_n hC 0 dX8_walkOften_16 rfl rfl ?_
  refine r_iconst hC 0 dX8_walkOften_17 (by decide) ?_
  refine r_putI hC fl8_88 ob8 rfl rfl rfl dX8_walkOften_18 ?_
  refine r_nmM (fun μ4 hμ4 => ?_)
  have hO := hO μ4 hμ4
  refine r_aload_n hC 0 dX8_walkOften_21 rfl rfl ?_
  refine r_iconst hC 0 dX8_walkOften_22 (by decide) ?_
  refine r_putI hC fl8_91 ob8 rfl rfl rfl dX8_walkOften_23 ?_
  refine r_nmM (fun μ5 hμ5 => ?_)
  have hO := hO μ5 hμ5
  refine r_iconst hC 0 dX8_walkOften_26 (by decide) ?_
  refine r_istore hC [(6, .int 0), (0, .ref (mw_a G 44)), (1, .int p1), (2, .int p2), (3, .int p3), (4, .int p4), (5, .int p5)] dX8_walkOften_27 (by decide) rfl ?_
  have hLn8 : ∀   (n8 : Nat) (v6 : Int32) (μ7 : mw_M), L8_walkOften_29 p1 p2 p3 p4 p5 Q n8 v6 μ7 → mw_W p l e (mw_rm 5 145) s m args below meth c G kdX 7 (MQ below (va_Qv (Q) (mw_B G kdX) (mw_A G kdX)) args s 0 0 (mw_A G kdX)) 29 [(6, .int v6), (0, .ref (mw_a G 44)), (1, .int p1), (2, .int p2), (3, .int p3), (4, .int p4), (5, .int p5)] [] μ7 := by
    intro   n8
    induction n8 with
    | zero => intro v6 μ7 hO; exact False.elim hO
    | succ n8 ihn8 =>
      intro v6 μ7 hO
      refine r_iload hC 0 dX8_walkOften_29 rfl ?_
      refine r_iload hC 5 dX8_walkOften_31 rfl ?_
      refine r_icmp_ge hC 137 dX8_walkOften_33 (by decide) (fun h9 => ?_) (fun h9 => ?_)
      · have hO := hO.1 h9
        exact r_vret hC rfl dX8_walkOften_137 hO
      · have hO := hO.2 h9
        refine r_aload_n hC 1 dX8_walkOften_36 rfl rfl ?_
        refine r_getR hC 50 fl8_34 ob8 rfl dX8_walkOften_37 ?_
        refine r_aload_n hC 1 dX8_walkOften_40 rfl rfl ?_
        refine r_getR hC 1 fl8_9 ob8 rfl dX8_walkOften_41 ?_
        refine r_iload_n hC 2 dX8_walkOften_44 rfl rfl ?_
        refine r_iload_n hC 3 dX8_walkOften_45 rfl rfl ?_
        refine r_iload_n hC 4 dX8_walkOften_46 rfl rfl ?_
        refine r_bipush hC 60 dX8_walkOften_47 (by decide) ?_
        refine r_iload hC 6 dX8_walkOften_49 rfl ?_
        refine r_iload hC 0 dX8_walkOften_51 rfl ?_
        refine r_iadd hC dX8_walkOften_53 ?_
        refine r_callVv hC [.ref (mw_a G 1), .int p1, .int p2, .int p3, .int 60, .int (p5 + v6)] (T9_through sh8_4 sh8_0 hO) yv9_through ml8_94 sh8_4 rfl ⟨Nat.le_of_ble_eq_true rfl, Nat.le_of_ble_eq_true rfl⟩ rfl rfl (Nat.le_of_ble_eq_true rfl) dX8_walkOften_54 (fun μ10 hO => ?_)
        refine r_aload_n hC 1 dX8_walkOften_57 rfl rfl ?_
        refine r_getR hC 50 fl8_34 ob8 rfl dX8_walkOften_58 ?_
        refine r_getI hC fl8_98 sh8_4 rfl dX8_walkOften_61 ?_
        refine r_bipush hC (-2) dX8_walkOften_64 (by decide) ?_
        refine r_icmp_eq hC 79 dX8_walkOften_66 (by decide) (fun h11 => ?_) (fun h11 => ?_)
        · have hO := hO.1 h11
          refine r_aload_n hC 1 dX8_walkOften_79 rfl rfl ?_
          refine r_getR hC 50 fl8_34 ob8 rfl dX8_walkOften_80 ?_
          refine r_getI hC fl8_99 sh8_4 rfl dX8_walkOften_83 ?_
          refine r_if_eq hC 99 dX8_walkOften_86 (by decide) (fun h12 => ?_) (fun h12 => ?_)
          · have hO := hO.1 h12
            refine r_aload_n hC 1 dX8_walkOften_99 rfl rfl ?_
            refine r_dup hC dX8_walkOften_100 rfl ?_
            refine r_getI hC fl8_85 ob8 rfl dX8_walkOften_101 ?_
            refine r_aload_n hC 1 dX8_walkOften_104 rfl rfl ?_
            refine r_getR hC 50 fl8_34 ob8 rfl dX8_walkOften_105 ?_
            refine r_callVi hC [] (T9_left sh8_4 hO) yv9_left ml8_102 sh8_4 rfl ⟨Nat.le_of_ble_eq_true rfl, Nat.le_of_ble_eq_true rfl⟩ rfl rfl (Nat.le_of_ble_eq_true rfl) dX8_walkOften_108 (fun r13 μ14 hO => ?_)
            obtain ⟨hO, hm⟩ := hO
            refine r_memEq hm ?_
            refine r_iadd hC dX8_walkOften_111 ?_
            refine r_putI hC fl8_85 ob8 rfl rfl rfl dX8_walkOften_112 ?_
            refine r_nmM (fun μ15 hμ15 => ?_)
            have hO := hO μ15 hμ15
            refine r_aload_n hC 1 dX8_walkOften_115 rfl rfl ?_
            refine r_dup hC dX8_walkOften_116 rfl ?_
            refine r_getI hC fl8_88 ob8 rfl dX8_walkOften_117 ?_
            refine r_aload_n hC 1 dX8_walkOften_120 rfl rfl ?_
            refine r_getR hC 50 fl8_34 ob8 rfl dX8_walkOften_121 ?_
            refine r_callVi hC [] (T9_walked sh8_4 hO) yv9_walked ml8_104 sh8_4 rfl ⟨Nat.le_of_ble_eq_true rfl, Nat.le_of_ble_eq_true rfl⟩ rfl rfl (Nat.le_of_ble_eq_true rfl) dX8_walkOften_124 (fun r16 μ17 hO => ?_)
            obtain ⟨hO, hm⟩ := hO
            refine r_memEq hm ?_
            refine r_iadd hC dX8_walkOften_127 ?_
            refine r_putI hC fl8_88 ob8 rfl rfl rfl dX8_walkOften_128 ?_
            refine r_nmM (fun μ18 hμ18 => ?_)
            have hO := hO μ18 hμ18
            obtain ⟨x19, hx19⟩ : ∃ y : Int32, y = v6 + 1 := ⟨_, rfl⟩
            have hO := hO x19 hx19
            refine r_iinc hC x19 0 [(6, .int x19), (0, .ref (mw_a G 44)), (1, .int p1), (2, .int p2), (3, .int p3), (4, .int p4), (5, .int p5)] dX8_walkOften_131 rfl (by rw [hx19]; rfl) (by decide) rfl ?_
            refine r_goto hC 29 dX8_walkOften_134 (by decide) ?_
            refine r_lv hC [(6, .int x19), (0, .ref (mw_a G 44)), (1, .int p1), (2, .int p2), (3, .int p3), (4, .int p4), (5, .int p5)] [0, 1, 2, 3, 4, 5, 6] rfl ?_
            exact ihn8 x19 μ18 hO
          · have hO := hO.2 h12
            refine r_aload_n hC 1 dX8_walkOften_89 rfl rfl ?_
            refine r_dup hC dX8_walkOften_90 rfl ?_
            refine r_getI hC fl8_91 ob8 rfl dX8_walkOften_91 ?_
            refine r_iconst hC 1 dX8_walkOften_94 (by decide) ?_
            refine r_iadd hC dX8_walkOften_95 ?_
            refine r_putI hC fl8_91 ob8 rfl rfl rfl dX8_walkOften_96 ?_
            refine r_nmM (fun μ20 hμ20 => ?_)
            have hO := hO μ20 hμ20
            refine r_aload_n hC 1 dX8_walkOften_99 rfl rfl ?_
            refine r_dup hC dX8_walkOften_100 rfl ?_
            refine r_getI hC fl8_85 ob8 rfl dX8_walkOften_101 ?_
            refine r_aload_n hC 1 dX8_walkOften_104 rfl rfl ?_
            refine r_getR hC 50 fl8_34 ob8 rfl dX8_walkOften_105 ?_
            refine r_callVi hC [] (T9_left sh8_4 hO) yv9_left ml8_102 sh8_4 rfl ⟨Nat.le_of_ble_eq_true rfl, Nat.le_of_ble_eq_true rfl⟩ rfl rfl (Nat.le_of_ble_eq_true rfl) dX8_walkOften_108 (fun r21 μ22 hO => ?_)
            obtain ⟨hO, hm⟩ := hO
            refine r_memEq hm ?_
            refine r_iadd hC dX8_walkOften_111 ?_
            refine r_putI hC fl8_85 ob8 rfl rfl rfl dX8_walkOften_112 ?_
            refine r_nmM (fun μ23 hμ23 => ?_)
            have hO := hO μ23 hμ23
            refine r_aload_n hC 1 dX8_walkOften_115 rfl rfl ?_
            refine r_dup hC dX8_walkOften_116 rfl ?_
            refine r_getI hC fl8_88 ob8 rfl dX8_walkOften_117 ?_
            refine r_aload_n hC 1 dX8_walkOften_120 rfl rfl ?_
            refine r_getR hC 50 fl8_34 ob8 rfl dX8_walkOften_121 ?_
            refine r_callVi hC [] (T9_walked sh8_4 hO) yv9_walked ml8_104 sh8_4 rfl ⟨Nat.le_of_ble_eq_true rfl, Nat.le_of_ble_eq_true rfl⟩ rfl rfl (Nat.le_of_ble_eq_true rfl) dX8_walkOften_124 (fun r24 μ25 hO => ?_)
            obtain ⟨hO, hm⟩ := hO
            refine r_memEq hm ?_
            refine r_iadd hC dX8_walkOften_127 ?_
            refine r_putI hC fl8_88 ob8 rfl rfl rfl dX8_walkOften_128 ?_
            refine r_nmM (fun μ26 hμ26 => ?_)
            have hO := hO μ26 hμ26
            obtain ⟨x27, hx27⟩ : ∃ y : Int32, y = v6 + 1 := ⟨_, rfl⟩
            have hO := hO x27 hx27
            refine r_iinc hC x27 0 [(6, .int x27), (0, .ref (mw_a G 44)), (1, .int p1), (2, .int p2), (3, .int p3), (4, .int p4), (5, .int p5)] dX8_walkOften_131 rfl (by rw [hx27]; rfl) (by decide) rfl ?_
            refine r_goto hC 29 dX8_walkOften_134 (by decide) ?_
            refine r_lv hC [(6, .int x27), (0, .ref (mw_a G 44)), (1, .int p1), (2, .int p2), (3, .int p3), (4, .int p4), (5, .int p5)] [0, 1, 2, 3, 4, 5, 6] rfl ?_
            exact ihn8 x27 μ26 hO
        · have hO := hO.2 h11
          refine r_aload_n hC 1 dX8_walkOften_69 rfl rfl ?_
          refine r_dup hC dX8_walkOften_70 rfl ?_
          refine r_getI hC fl8_82 ob8 rfl dX8_walkOften_71 ?_
          refine r_iconst hC 1 dX8_walkOften_74 (by decide) ?_
          refine r_iadd hC dX8_walkOften_75 ?_
          refine r_putI hC fl8_82 ob8 rfl rfl rfl dX8_walkOften_76 ?_
          refine r_nmM (fun μ28 hμ28 => ?_)
          have hO := hO μ28 hμ28
          refine r_aload_n hC 1 dX8_walkOften_79 rfl rfl ?_
          refine r_getR hC 50 fl8_34 ob8 rfl dX8_walkOften_80 ?_
          refine r_getI hC fl8_99 sh8_4 rfl dX8_walkOften_83 ?_
          refine r_if_eq hC 99 dX8_walkOften_86 (by decide) (fun h29 => ?_) (fun h29 => ?_)
          · have hO := hO.1 h29
            refine r_aload_n hC 1 dX8_walkOften_99 rfl rfl ?_
            refine r_dup hC dX8_walkOften_100 rfl ?_
            refine r_getI hC fl8_85 ob8 rfl dX8_walkOften_101 ?_
            refine r_aload_n hC 1 dX8_walkOften_104 rfl rfl ?_
            refine r_getR hC 50 fl8_34 ob8 rfl dX8_walkOften_105 ?_
            refine r_callVi hC [] (T9_left sh8_4 hO) yv9_left ml8_102 sh8_4 rfl ⟨Nat.le_of_ble_eq_true rfl, Nat.le_of_ble_eq_true rfl⟩ rfl rfl (Nat.le_of_ble_eq_true rfl) dX8_walkOften_108 (fun r30 μ31 hO => ?_)
            obtain ⟨hO, hm⟩ := hO
            refine r_memEq hm ?_
            refine r_iadd hC dX8_walkOften_111 ?_
            refine r_putI hC fl8_85 ob8 rfl rfl rfl dX8_walkOften_112 ?_
            refine r_nmM (fun μ32 hμ32 => ?_)
            have hO := hO μ32 hμ32
            refine r_aload_n hC 1 dX8_walkOften_115 rfl rfl ?_
            refine r_dup hC dX8_walkOften_116 rfl ?_
            refine r_getI hC fl8_88 ob8 rfl dX8_walkOften_117 ?_
            refine r_aload_n hC 1 dX8_walkOften_120 rfl rfl ?_
            refine r_getR hC 50 fl8_34 ob8 rfl dX8_walkOften_121 ?_
            refine r_callVi hC [] (T9_walked sh8_4 hO) yv9_walked ml8_104 sh8_4 rfl ⟨Nat.le_of_ble_eq_true rfl, Nat.le_of_ble_eq_true rfl⟩ rfl rfl (Nat.le_of_ble_eq_true rfl) dX8_walkOften_124 (fun r33 μ34 hO => ?_)
            obtain ⟨hO, hm⟩ := hO
            refine r_memEq hm ?_
            refine r_iadd hC dX8_walkOften_127 ?_
            refine r_putI hC fl8_88 ob8 rfl rfl rfl dX8_walkOften_128 ?_
            refine r_nmM (fun μ35 hμ35 => ?_)
            have hO := hO μ35 hμ35
            obtain ⟨x36, hx36⟩ : ∃ y : Int32, y = v6 + 1 := ⟨_, rfl⟩
            have hO := hO x36 hx36
            refine r_iinc hC x36 0 [(6, .int x36), (0, .ref (mw_a G 44)), (1, .int p1), (2, .int p2), (3, .int p3), (4, .int p4), (5, .int p5)] dX8_walkOften_131 rfl (by rw [hx36]; rfl) (by decide) rfl ?_
            refine r_goto hC 29 dX8_walkOften_134 (by decide) ?_
            refine r_lv hC [(6, .int x36), (0, .ref (mw_a G 44)), (1, .int p1), (2, .int p2), (3, .int p3), (4, .int p4), (5, .int p5)] [0, 1, 2, 3, 4, 5, 6] rfl ?_
            exact ihn8 x36 μ35 hO
          · have hO := hO.2 h29
            refine r_aload_n hC 1 dX8_walkOften_89 rfl rfl ?_
            refine r_dup hC dX8_walkOften_90 rfl ?_
            refine r_getI hC fl8_91 ob8 rfl dX8_walkOften_91 ?_
            refine r_iconst hC 1 dX8_walkOften_94 (by decide) ?_
            refine r_iadd hC dX8_walkOften_95 ?_
            refine r_putI hC fl8_91 ob8 rfl rfl rfl dX8_walkOften_96 ?_
            refine r_nmM (fun μ37 hμ37 => ?_)
            have hO := hO μ37 hμ37
            refine r_aload_n hC 1 dX8_walkOften_99 rfl rfl ?_
            refine r_dup hC dX8_walkOften_100 rfl ?_
            refine r_getI hC fl8_85 ob8 rfl dX8_walkOften_101 ?_
            refine r_aload_n hC 1 dX8_walkOften_104 rfl rfl ?_
            refine r_getR hC 50 fl8_34 ob8 rfl dX8_walkOften_105 ?_
            refine r_callVi hC [] (T9_left sh8_4 hO) yv9_left ml8_102 sh8_4 rfl ⟨Nat.le_of_ble_eq_true rfl, Nat.le_of_ble_eq_true rfl⟩ rfl rfl (Nat.le_of_ble_eq_true rfl) dX8_walkOften_108 (fun r38 μ39 hO => ?_)
            obtain ⟨hO, hm⟩ := hO
            refine r_memEq hm ?_
            refine r_iadd hC dX8_walkOften_111 ?_
            refine r_putI hC fl8_85 ob8 rfl rfl rfl dX8_walkOften_112 ?_
            refine r_nmM (fun μ40 hμ40 => ?_)
            have hO := hO μ40 hμ40
            refine r_aload_n hC 1 dX8_walkOften_115 rfl rfl ?_
            refine r_dup hC dX8_walkOften_116 rfl ?_
            refine r_getI hC fl8_88 ob8 rfl dX8_walkOften_117 ?_
            refine r_aload_n hC 1 dX8_walkOften_120 rfl rfl ?_
            refine r_getR hC 50 fl8_34 ob8 rfl dX8_walkOften_121 ?_
            refine r_callVi hC [] (T9_walked sh8_4 hO) yv9_walked ml8_104 sh8_4 rfl ⟨Nat.le_of_ble_eq_true rfl, Nat.le_of_ble_eq_true rfl⟩ rfl rfl (Nat.le_of_ble_eq_true rfl) dX8_walkOften_124 (fun r41 μ42 hO => ?_)
            obtain ⟨hO, hm⟩ := hO
            refine r_memEq hm ?_
            refine r_iadd hC dX8_walkOften_127 ?_
            refine r_putI hC fl8_88 ob8 rfl rfl rfl dX8_walkOften_128 ?_
            refine r_nmM (fun μ43 hμ43 => ?_)
            have hO := hO μ43 hμ43
            obtain ⟨x44, hx44⟩ : ∃ y : Int32, y = v6 + 1 := ⟨_, rfl⟩
            have hO := hO x44 hx44
            refine r_iinc hC x44 0 [(6, .int x44), (0, .ref (mw_a G 44)), (1, .int p1), (2, .int p2), (3, .int p3), (4, .int p4), (5, .int p5)] dX8_walkOften_131 rfl (by rw [hx44]; rfl) (by decide) rfl ?_
            refine r_goto hC 29 dX8_walkOften_134 (by decide) ?_
            refine r_lv hC [(6, .int x44), (0, .ref (mw_a G 44)), (1, .int p1), (2, .int p2), (3, .int p3), (4, .int p4), (5, .int p5)] [0, 1, 2, 3, 4, 5, 6] rfl ?_
            exact ihn8 x44 μ43 hO
  obtain ⟨n8, hO⟩ := hO
  refine hLn8   n8 _ _ hO
set_option maxHeartbeats 4000000 in
set_option maxRecDepth 100000 in
theorem T8_tallied {l : Launch} {G : mw_G} {p1 : Int32} {μ : mw_M} {Q : Int32 → Prop}  (hO : P8_tallied p1 μ Q) : mw_Mi l G kdX yX8_tallied cX8_tallied 2 (some .int) 1 21 [.ref (mw_a G 44), .int p1] μ (mw_pq μ Q) := by
  refine mw_enter [(0, .ref (mw_a G 44)), (1, .int p1)] RX8 (by decide) rfl (Nat.le_of_ble_eq_true rfl) rfl ?_
  intro p e s m args below meth c hC
  unfold P8_tallied at hO
  refine r_iload_n hC 1 dX8_tallied_0 rfl rfl ?_
  by_cases h1 : p1 = 0
  · have hO := hO.1 h1
    refine r_tin hC 28 dX8_tallied_1 (by rw [h1]; decide) (by rw [h1]; decide) (by rw [h1] <;> rfl) (by decide) ?_
    refine r_aload_n hC 0 dX8_tallied_28 rfl rfl ?_
    refine r_getI hC fl8_82 ob8 rfl dX8_tallied_29 ?_
    exact r_iret hC rfl dX8_tallied_32 ⟨hO, rfl⟩
  by_cases h2 : p1 = 1
  · have hO := hO.2.1 h2
    refine r_tin hC 33 dX8_tallied_1 (by rw [h2]; decide) (by rw [h2]; decide) (by rw [h2] <;> rfl) (by decide) ?_
    refine r_aload_n hC 0 dX8_tallied_33 rfl rfl ?_
    refine r_getI hC fl8_85 ob8 rfl dX8_tallied_34 ?_
    refine r_aload_n hC 0 dX8_tallied_37 rfl rfl ?_
    refine r_getI hC fl8_78 ob8 rfl dX8_tallied_38 ?_
    refine r_callSi hC [.int (μ.1 44 7), .int (μ.1 44 5)] (T8_meanOf  hO) yv8_meanOf ml8_75 ⟨Nat.le_of_ble_eq_true rfl, Nat.le_of_ble_eq_true rfl⟩ rfl rfl (Nat.le_of_ble_eq_true rfl) dX8_tallied_41 (fun r3 μ4 hO => ?_)
    obtain ⟨hO, hm⟩ := hO
    refine r_memEq hm ?_
    exact r_iret hC rfl dX8_tallied_44 ⟨hO, rfl⟩
  by_cases h5 : p1 = 2
  · have hO := hO.2.2.1 h5
    refine r_tin hC 45 dX8_tallied_1 (by rw [h5]; decide) (by rw [h5]; decide) (by rw [h5] <;> rfl) (by decide) ?_
    refine r_aload_n hC 0 dX8_tallied_45 rfl rfl ?_
    refine r_getI hC fl8_88 ob8 rfl dX8_tallied_46 ?_
    refine r_aload_n hC 0 dX8_tallied_49 rfl rfl ?_
    refine r_getI hC fl8_78 ob8 rfl dX8_tallied_50 ?_
    refine r_callSi hC [.int (μ.1 44 8), .int (μ.1 44 5)] (T8_meanOf  hO) yv8_meanOf ml8_75 ⟨Nat.le_of_ble_eq_true rfl, Nat.le_of_ble_eq_true rfl⟩ rfl rfl (Nat.le_of_ble_eq_true rfl) dX8_tallied_53 (fun r6 μ7 hO => ?_)
    obtain ⟨hO, hm⟩ := hO
    refine r_memEq hm ?_
    exact r_iret hC rfl dX8_tallied_56 ⟨hO, rfl⟩
  have hO := hO.2.2.2 h1 h2 h5
  refine r_tdef hC 57 dX8_tallied_1 (by decide) rfl (fun k hk => match k, hk with | 0, _ => Or.inr (mw_ne h1 rfl) | 1, _ => Or.inr (mw_ne h2 rfl) | 2, _ => Or.inr (mw_ne h5 rfl) | k + 3, h => absurd h (by show ¬ k + 3 < 3; omega)) ?_
  refine r_aload_n hC 0 dX8_tallied_57 rfl rfl ?_
  refine r_getI hC fl8_91 ob8 rfl dX8_tallied_58 ?_
  exact r_iret hC rfl dX8_tallied_61 ⟨hO, rfl⟩
set_option maxHeartbeats 4000000 in
set_option maxRecDepth 100000 in
theorem T8_isBetter {l : Launch} {G : mw_G} {p1 : Int32} {p2 : Int32} {p3 : Int32} {μ : mw_M} {QT : Prop} {QF : Prop}  (hO : P8_isBetter p1 p2 p3 μ QT QF) : mw_Mi l G kdX yX8_isBetter cX8_isBetter 4 (some .boolean) 2 42 [.ref (mw_a G 44), .int p1, .int p2, .int p3] μ (mw_bq (mw_pv μ QT) (mw_pv μ QF)) := by
  refine mw_enter [(0, .ref (mw_a G 44)), (1, .int p1), (2, .int p2), (3, .int p3)] RX8 (by decide) rfl (Nat.le_of_ble_eq_true rfl) rfl ?_
  intro p e s m args below meth c hC
  unfold P8_isBetter at hO
  refine r_aload_n hC 0 dX8_isBetter_0 rfl rfl ?_
  refine r_getI hC fl8_82 ob8 rfl dX8_isBetter_1 ?_
  refine r_iload_n hC 1 dX8_isBetter_4 rfl rfl ?_
  refine r_icmp_eq hC 22 dX8_isBetter_5 (by decide) (fun h1 => ?_) (fun h1 => ?_)
  · have hO := hO.1 h1
    refine r_aload_n hC 0 dX8_isBetter_22 rfl rfl ?_
    refine r_iconst hC 2 dX8_isBetter_23 (by decide) ?_
    refine r_callVi hC [.int 2] (T8_tallied  hO) yv8_tallied ml8_119 ob8 rfl ⟨Nat.le_of_ble_eq_true rfl, Nat.le_of_ble_eq_true rfl⟩ rfl rfl (Nat.le_of_ble_eq_true rfl) dX8_isBetter_24 (fun r2 μ3 hO => ?_)
    obtain ⟨hO, hm⟩ := hO
    refine r_memEq hm ?_
    refine r_iload_n hC 2 dX8_isBetter_27 rfl rfl ?_
    refine r_icmp_eq hC 46 dX8_isBetter_28 (by decide) (fun h4 => ?_) (fun h4 => ?_)
    · have hO := hO.1 h4
      refine r_aload_n hC 0 dX8_isBetter_46 rfl rfl ?_
      refine r_iconst hC 1 dX8_isBetter_47 (by decide) ?_
      refine r_callVi hC [.int 1] (T8_tallied  hO) yv8_tallied ml8_119 ob8 rfl ⟨Nat.le_of_ble_eq_true rfl, Nat.le_of_ble_eq_true rfl⟩ rfl rfl (Nat.le_of_ble_eq_true rfl) dX8_isBetter_48 (fun r5 μ6 hO => ?_)
      obtain ⟨hO, hm⟩ := hO
      refine r_memEq hm ?_
      refine r_iload_n hC 3 dX8_isBetter_51 rfl rfl ?_
      refine r_icmp_ge hC 59 dX8_isBetter_52 (by decide) (fun h7 => ?_) (fun h7 => ?_)
      · have hO := hO.1 h7
        refine r_iconst hC 0 dX8_isBetter_59 (by decide) ?_
        exact r_zret hC rfl (by decide) dX8_isBetter_60 (Or.inr ⟨rfl, hO, rfl⟩)
      · have hO := hO.2 h7
        refine r_iconst hC 1 dX8_isBetter_55 (by decide) ?_
        refine r_goto hC 60 dX8_isBetter_56 (by decide) ?_
        exact r_zret hC rfl (by decide) dX8_isBetter_60 (Or.inl ⟨rfl, hO, rfl⟩)
    · have hO := hO.2 h4
      refine r_aload_n hC 0 dX8_isBetter_31 rfl rfl ?_
      refine r_iconst hC 2 dX8_isBetter_32 (by decide) ?_
      refine r_callVi hC [.int 2] (T8_tallied  hO) yv8_tallied ml8_119 ob8 rfl ⟨Nat.le_of_ble_eq_true rfl, Nat.le_of_ble_eq_true rfl⟩ rfl rfl (Nat.le_of_ble_eq_true rfl) dX8_isBetter_33 (fun r8 μ9 hO => ?_)
      obtain ⟨hO, hm⟩ := hO
      refine r_memEq hm ?_
      refine r_iload_n hC 2 dX8_isBetter_36 rfl rfl ?_
      refine r_icmp_ge hC 44 dX8_isBetter_37 (by decide) (fun h10 => ?_) (fun h10 => ?_)
      · have hO := hO.1 h10
        refine r_iconst hC 0 dX8_isBetter_44 (by decide) ?_
        exact r_zret hC rfl (by decide) dX8_isBetter_45 (Or.inr ⟨rfl, hO, rfl⟩)
      · have hO := hO.2 h10
        refine r_iconst hC 1 dX8_isBetter_40 (by decide) ?_
        refine r_goto hC 45 dX8_isBetter_41 (by decide) ?_
        exact r_zret hC rfl (by decide) dX8_isBetter_45 (Or.inl ⟨rfl, hO, rfl⟩)
  · have hO := hO.2 h1
    refine r_aload_n hC 0 dX8_isBetter_8 rfl rfl ?_
    refine r_getI hC fl8_82 ob8 rfl dX8_isBetter_9 ?_
    refine r_iload_n hC 1 dX8_isBetter_12 rfl rfl ?_
    refine r_icmp_le hC 20 dX8_isBetter_13 (by decide) (fun h11 => ?_) (fun h11 => ?_)
    · have hO := hO.1 h11
      refine r_iconst hC 0 dX8_isBetter_20 (by decide) ?_
      exact r_zret hC rfl (by decide) dX8_isBetter_21 (Or.inr ⟨rfl, hO, rfl⟩)
    · have hO := hO.2 h11
      refine r_iconst hC 1 dX8_isBetter_16 (by decide) ?_
      refine r_goto hC 21 dX8_isBetter_17 (by decide) ?_
      exact r_zret hC rfl (by decide) dX8_isBetter_21 (Or.inl ⟨rfl, hO, rfl⟩)
set_option maxHeartbeats 4000000 in
set_option maxRecDepth 100000 in
theorem T8_bestRule {l : Launch} {G : mw_G} {p1 : Int32} {p2 : Int32} {p3 : Int32} {μ : mw_M} {Q : Int32 → mw_M → Prop}  (hO : P8_bestRule p1 p2 p3 μ Q) : mw_Mi l G kdX yX8_bestRule cX8_bestRule 9 (some .int) 6 171 [.ref (mw_a G 44), .int p1, .int p2, .int p3] μ (Q) := by
  refine mw_enter [(0, .ref (mw_a G 44)), (1, .int p1), (2, .int p2), (3, .int p3)] RX8 (by decide) rfl (Nat.le_of_ble_eq_true rfl) rfl ?_
  intro p e s m args below meth c hC
  unfold P8_bestRule at hO
  refine r_iconst hC 0 dX8_bestRule_0 (by decide) ?_
  refine r_istore hC [(4, .int 0), (0, .ref (mw_a G 44)), (1, .int p1), (2, .int p2), (3, .int p3)] dX8_bestRule_1 (by decide) rfl ?_
  refine r_iconst hC 0 dX8_bestRule_3 (by decide) ?_
  refine r_istore hC [(5, .int 0), (4, .int 0), (0, .ref (mw_a G 44)), (1, .int p1), (2, .int p2), (3, .int p3)] dX8_bestRule_4 (by decide) rfl ?_
  refine r_iconst hC 0 dX8_bestRule_6 (by decide) ?_
  refine r_istore hC [(6, .int 0), (5, .int 0), (4, .int 0), (0, .ref (mw_a G 44)), (1, .int p1), (2, .int p2), (3, .int p3)] dX8_bestRule_7 (by decide) rfl ?_
  refine r_iconst hC 0 dX8_bestRule_9 (by decide) ?_
  refine r_istore hC [(7, .int 0), (6, .int 0), (5, .int 0), (4, .int 0), (0, .ref (mw_a G 44)), (1, .int p1), (2, .int p2), (3, .int p3)] dX8_bestRule_10 (by decide) rfl ?_
  refine r_iconst hC 0 dX8_bestRule_12 (by decide) ?_
  refine r_istore hC [(8, .int 0), (7, .int 0), (6, .int 0), (5, .int 0), (4, .int 0), (0, .ref (mw_a G 44)), (1, .int p1), (2, .int p2), (3, .int p3)] dX8_bestRule_13 (by decide) rfl ?_
  have hLn7 : ∀   (n7 : Nat) (v1 : Int32) (v2 : Int32) (v3 : Int32) (v4 : Int32) (v5 : Int32) (μ6 : mw_M), L8_bestRule_15 p1 p2 p3 Q n7 v1 v2 v3 v4 v5 μ6 → mw_W p l e (mw_rm 6 171) s m args below meth c G kdX 9 (MQ below (va_Qi (Q) (mw_B G kdX) (mw_A G kdX)) args s 0 0 (mw_A G kdX)) 15 [(8, .int v1), (7, .int v2), (6, .int v3), (5, .int v4), (4, .int v5), (0, .ref (mw_a G 44)), (1, .int p1), (2, .int p2), (3, .int p3)] [] μ6 := by
    intro   n7
    induction n7 with
    | zero => intro v1 v2 v3 v4 v5 μ6 hO; exact False.elim hO
    | succ n7 ihn7 =>
      intro v1 v2 v3 v4 v5 μ6 hO
      refine r_iload hC 0 dX8_bestRule_15 rfl ?_
      refine r_aload_n hC 5 dX8_bestRule_17 rfl rfl ?_
      refine r_getR hC 15 fl8_19 ob8 rfl dX8_bestRule_18 ?_
      refine r_getI hC fl8_106 sh8_2 rfl dX8_bestRule_21 ?_
      refine r_icmp_ge hC 86 dX8_bestRule_24 (by decide) (fun h8 => ?_) (fun h8 => ?_)
      · have hO := hO.1 h8
        refine r_iload hC 4 dX8_bestRule_86 rfl ?_
        exact r_iret hC rfl dX8_bestRule_88 hO
      · have hO := hO.2 h8
        refine r_aload_n hC 5 dX8_bestRule_27 rfl rfl ?_
        refine r_iload hC 0 dX8_bestRule_28 rfl ?_
        refine r_iload_n hC 6 dX8_bestRule_30 rfl rfl ?_
        refine r_iload_n hC 7 dX8_bestRule_31 rfl rfl ?_
        refine r_bipush hC 9 dX8_bestRule_32 (by decide) ?_
        refine r_iload_n hC 8 dX8_bestRule_34 rfl rfl ?_
        refine r_callVv hC [.int v1, .int p1, .int p2, .int 9, .int p3] (T8_walkOften  hO) yv8_walkOften ml8_111 ob8 rfl ⟨Nat.le_of_ble_eq_true rfl, Nat.le_of_ble_eq_true rfl⟩ rfl rfl (Nat.le_of_ble_eq_true rfl) dX8_bestRule_35 (fun μ9 hO => ?_)
        refine r_iload hC 0 dX8_bestRule_38 rfl ?_
        refine r_if_eq hC 56 dX8_bestRule_40 (by decide) (fun h10 => ?_) (fun h10 => ?_)
        · have hO := hO.1 h10
          refine r_iload hC 0 dX8_bestRule_56 rfl ?_
          refine r_istore hC [(4, .int v1), (8, .int v1), (7, .int v2), (6, .int v3), (5, .int v4), (0, .ref (mw_a G 44)), (1, .int p1), (2, .int p2), (3, .int p3)] dX8_bestRule_58 (by decide) rfl ?_
          refine r_aload_n hC 5 dX8_bestRule_60 rfl rfl ?_
          refine r_getI hC fl8_82 ob8 rfl dX8_bestRule_61 ?_
          refine r_nmI (fun x11 hx11 => ?_)
          have hO := hO x11 hx11
          refine r_istore hC [(5, .int x11), (4, .int v1), (8, .int v1), (7, .int v2), (6, .int v3), (0, .ref (mw_a G 44)), (1, .int p1), (2, .int p2), (3, .int p3)] dX8_bestRule_64 (by decide) rfl ?_
          refine r_aload_n hC 5 dX8_bestRule_66 rfl rfl ?_
          refine r_iconst hC 2 dX8_bestRule_67 (by decide) ?_
          refine r_callVi hC [.int 2] (T8_tallied  hO) yv8_tallied ml8_119 ob8 rfl ⟨Nat.le_of_ble_eq_true rfl, Nat.le_of_ble_eq_true rfl⟩ rfl rfl (Nat.le_of_ble_eq_true rfl) dX8_bestRule_68 (fun r12 μ13 hO => ?_)
          obtain ⟨hO, hm⟩ := hO
          refine r_memEq hm ?_
          refine r_istore hC [(6, .int r12), (5, .int x11), (4, .int v1), (8, .int v1), (7, .int v2), (0, .ref (mw_a G 44)), (1, .int p1), (2, .int p2), (3, .int p3)] dX8_bestRule_71 (by decide) rfl ?_
          refine r_aload_n hC 5 dX8_bestRule_73 rfl rfl ?_
          refine r_iconst hC 1 dX8_bestRule_74 (by decide) ?_
          refine r_callVi hC [.int 1] (T8_tallied  hO) yv8_tallied ml8_119 ob8 rfl ⟨Nat.le_of_ble_eq_true rfl, Nat.le_of_ble_eq_true rfl⟩ rfl rfl (Nat.le_of_ble_eq_true rfl) dX8_bestRule_75 (fun r14 μ15 hO => ?_)
          obtain ⟨hO, hm⟩ := hO
          refine r_memEq hm ?_
          refine r_istore hC [(7, .int r14), (6, .int r12), (5, .int x11), (4, .int v1), (8, .int v1), (0, .ref (mw_a G 44)), (1, .int p1), (2, .int p2), (3, .int p3)] dX8_bestRule_78 (by decide) rfl ?_
          obtain ⟨x16, hx16⟩ : ∃ y : Int32, y = v1 + 1 := ⟨_, rfl⟩
          have hO := hO x16 hx16
          refine r_iinc hC x16 4 [(8, .int x16), (7, .int r14), (6, .int r12), (5, .int x11), (4, .int v1), (0, .ref (mw_a G 44)), (1, .int p1), (2, .int p2), (3, .int p3)] dX8_bestRule_80 rfl (by rw [hx16]; rfl) (by decide) rfl ?_
          refine r_goto hC 15 dX8_bestRule_83 (by decide) ?_
          refine r_lv hC [(8, .int x16), (7, .int r14), (6, .int r12), (5, .int x11), (4, .int v1), (0, .ref (mw_a G 44)), (1, .int p1), (2, .int p2), (3, .int p3)] [0, 1, 2, 3, 4, 5, 6, 7, 8] rfl ?_
          exact ihn7 x16 r14 r12 x11 v1 μ9 hO
        · have hO := hO.2 h10
          refine r_aload_n hC 5 dX8_bestRule_43 rfl rfl ?_
          refine r_iload hC 3 dX8_bestRule_44 rfl ?_
          refine r_iload hC 2 dX8_bestRule_46 rfl ?_
          refine r_iload hC 1 dX8_bestRule_48 rfl ?_
          refine r_callVi hC [.int v4, .int v3, .int v2] (T8_isBetter  hO) yv8_isBetter ml8_115 ob8 rfl ⟨Nat.le_of_ble_eq_true rfl, Nat.le_of_ble_eq_true rfl⟩ rfl rfl (Nat.le_of_ble_eq_true rfl) dX8_bestRule_50 (fun r17 μ18 hO => ?_)
          rcases hO with ⟨hr, hO⟩ | ⟨hr, hO⟩
          · refine r_topEq hr ?_
            obtain ⟨hO, hm⟩ := hO
            refine r_memEq hm ?_
            refine r_if_eq hC 80 dX8_bestRule_53 (by decide) (fun h => absurd h (by decide)) (fun _ => ?_)
            refine r_iload hC 0 dX8_bestRule_56 rfl ?_
            refine r_istore hC [(4, .int v1), (8, .int v1), (7, .int v2), (6, .int v3), (5, .int v4), (0, .ref (mw_a G 44)), (1, .int p1), (2, .int p2), (3, .int p3)] dX8_bestRule_58 (by decide) rfl ?_
            refine r_aload_n hC 5 dX8_bestRule_60 rfl rfl ?_
            refine r_getI hC fl8_82 ob8 rfl dX8_bestRule_61 ?_
            refine r_nmI (fun x19 hx19 => ?_)
            have hO := hO x19 hx19
            refine r_istore hC [(5, .int x19), (4, .int v1), (8, .int v1), (7, .int v2), (6, .int v3), (0, .ref (mw_a G 44)), (1, .int p1), (2, .int p2), (3, .int p3)] dX8_bestRule_64 (by decide) rfl ?_
            refine r_aload_n hC 5 dX8_bestRule_66 rfl rfl ?_
            refine r_iconst hC 2 dX8_bestRule_67 (by decide) ?_
            refine r_callVi hC [.int 2] (T8_tallied  hO) yv8_tallied ml8_119 ob8 rfl ⟨Nat.le_of_ble_eq_true rfl, Nat.le_of_ble_eq_true rfl⟩ rfl rfl (Nat.le_of_ble_eq_true rfl) dX8_bestRule_68 (fun r20 μ21 hO => ?_)
            obtain ⟨hO, hm⟩ := hO
            refine r_memEq hm ?_
            refine r_istore hC [(6, .int r20), (5, .int x19), (4, .int v1), (8, .int v1), (7, .int v2), (0, .ref (mw_a G 44)), (1, .int p1), (2, .int p2), (3, .int p3)] dX8_bestRule_71 (by decide) rfl ?_
            refine r_aload_n hC 5 dX8_bestRule_73 rfl rfl ?_
            refine r_iconst hC 1 dX8_bestRule_74 (by decide) ?_
            refine r_callVi hC [.int 1] (T8_tallied  hO) yv8_tallied ml8_119 ob8 rfl ⟨Nat.le_of_ble_eq_true rfl, Nat.le_of_ble_eq_true rfl⟩ rfl rfl (Nat.le_of_ble_eq_true rfl) dX8_bestRule_75 (fun r22 μ23 hO => ?_)
            obtain ⟨hO, hm⟩ := hO
            refine r_memEq hm ?_
            refine r_istore hC [(7, .int r22), (6, .int r20), (5, .int x19), (4, .int v1), (8, .int v1), (0, .ref (mw_a G 44)), (1, .int p1), (2, .int p2), (3, .int p3)] dX8_bestRule_78 (by decide) rfl ?_
            obtain ⟨x24, hx24⟩ : ∃ y : Int32, y = v1 + 1 := ⟨_, rfl⟩
            have hO := hO x24 hx24
            refine r_iinc hC x24 4 [(8, .int x24), (7, .int r22), (6, .int r20), (5, .int x19), (4, .int v1), (0, .ref (mw_a G 44)), (1, .int p1), (2, .int p2), (3, .int p3)] dX8_bestRule_80 rfl (by rw [hx24]; rfl) (by decide) rfl ?_
            refine r_goto hC 15 dX8_bestRule_83 (by decide) ?_
            refine r_lv hC [(8, .int x24), (7, .int r22), (6, .int r20), (5, .int x19), (4, .int v1), (0, .ref (mw_a G 44)), (1, .int p1), (2, .int p2), (3, .int p3)] [0, 1, 2, 3, 4, 5, 6, 7, 8] rfl ?_
            exact ihn7 x24 r22 r20 x19 v1 μ9 hO
          · refine r_topEq hr ?_
            obtain ⟨hO, hm⟩ := hO
            refine r_memEq hm ?_
            refine r_if_eq hC 80 dX8_bestRule_53 (by decide) (fun _ => ?_) (fun h => absurd (by decide) h)
            obtain ⟨x25, hx25⟩ : ∃ y : Int32, y = v1 + 1 := ⟨_, rfl⟩
            have hO := hO x25 hx25
            refine r_iinc hC x25 0 [(8, .int x25), (7, .int v2), (6, .int v3), (5, .int v4), (4, .int v5), (0, .ref (mw_a G 44)), (1, .int p1), (2, .int p2), (3, .int p3)] dX8_bestRule_80 rfl (by rw [hx25]; rfl) (by decide) rfl ?_
            refine r_goto hC 15 dX8_bestRule_83 (by decide) ?_
            refine r_lv hC [(8, .int x25), (7, .int v2), (6, .int v3), (5, .int v4), (4, .int v5), (0, .ref (mw_a G 44)), (1, .int p1), (2, .int p2), (3, .int p3)] [0, 1, 2, 3, 4, 5, 6, 7, 8] rfl ?_
            exact ihn7 x25 v2 v3 v4 v5 μ9 hO
  obtain ⟨n7, hO⟩ := hO
  refine hLn7   n7 _ _ _ _ _ _ hO
set_option maxHeartbeats 4000000 in
set_option maxRecDepth 100000 in
theorem T8_isCalm {l : Launch} {G : mw_G} {p1 : Int32} {p2 : Int32} {p3 : Int32} {μ : mw_M} {QT : mw_M → Prop} {QF : mw_M → Prop}  (hO : P8_isCalm p1 p2 p3 μ QT QF) : mw_Mi l G kdX yX8_isCalm cX8_isCalm 6 (some .boolean) 4 96 [.ref (mw_a G 44), .int p1, .int p2, .int p3] μ (mw_bq QT QF) := by
  refine mw_enter [(0, .ref (mw_a G 44)), (1, .int p1), (2, .int p2), (3, .int p3)] RX8 (by decide) rfl (Nat.le_of_ble_eq_true rfl) rfl ?_
  intro p e s m args below meth c hC
  unfold P8_isCalm at hO
  refine r_iconst hC 0 dX8_isCalm_0 (by decide) ?_
  refine r_istore hC [(4, .int 0), (0, .ref (mw_a G 44)), (1, .int p1), (2, .int p2), (3, .int p3)] dX8_isCalm_1 (by decide) rfl ?_
  have hLn3 : ∀   (n3 : Nat) (v1 : Int32) (μ2 : mw_M), L8_isCalm_3 p1 p2 p3 QT QF n3 v1 μ2 → mw_W p l e (mw_rm 4 96) s m args below meth c G kdX 6 (MQ below (va_Qi (mw_bq QT QF) (mw_B G kdX) (mw_A G kdX)) args s 0 0 (mw_A G kdX)) 3 [(4, .int v1), (0, .ref (mw_a G 44)), (1, .int p1), (2, .int p2), (3, .int p3)] [] μ2 := by
    intro   n3
    induction n3 with
    | zero => intro v1 μ2 hO; exact False.elim hO
    | succ n3 ihn3 =>
      intro v1 μ2 hO
      refine r_iload hC 0 dX8_isCalm_3 rfl ?_
      refine r_sipush hC 1100 dX8_isCalm_5 (by decide) ?_
      refine r_icmp_gt hC 64 dX8_isCalm_8 (by decide) (fun h4 => ?_) (fun h4 => ?_)
      · have hO := hO.1 h4
        refine r_iconst hC 1 dX8_isCalm_64 (by decide) ?_
        exact r_zret hC rfl (by decide) dX8_isCalm_65 (Or.inl ⟨rfl, hO⟩)
      · have hO := hO.2 h4
        refine r_iconst hC 0 dX8_isCalm_11 (by decide) ?_
        refine r_istore hC [(5, .int 0), (4, .int v1), (0, .ref (mw_a G 44)), (1, .int p1), (2, .int p2), (3, .int p3)] dX8_isCalm_12 (by decide) rfl ?_
        have hLn7 : ∀  (K1 : Int32 → mw_M → Prop) (hK1 : ∀ (v5 : Int32) (μ6 : mw_M), K1 v5 μ6 → mw_W p l e (mw_rm 4 96) s m args below meth c G kdX 6 (MQ below (va_Qi (mw_bq QT QF) (mw_B G kdX) (mw_A G kdX)) args s 0 0 (mw_A G kdX)) 58 [(5, .int v5), (4, .int v1), (0, .ref (mw_a G 44)), (1, .int p1), (2, .int p2), (3, .int p3)] [] μ6) (n7 : Nat) (v5 : Int32) (μ6 : mw_M), L8_isCalm_14 v1 p1 p2 p3 QT QF K1 n7 v5 μ6 → mw_W p l e (mw_rm 4 96) s m args below meth c G kdX 6 (MQ below (va_Qi (mw_bq QT QF) (mw_B G kdX) (mw_A G kdX)) args s 0 0 (mw_A G kdX)) 14 [(5, .int v5), (4, .int v1), (0, .ref (mw_a G 44)), (1, .int p1), (2, .int p2), (3, .int p3)] [] μ6 := by
          intro  K1 hK1 n7
          induction n7 with
          | zero => intro v5 μ6 hO; exact False.elim hO
          | succ n7 ihn7 =>
            intro v5 μ6 hO
            refine r_iload hC 0 dX8_isCalm_14 rfl ?_
            refine r_sipush hC 950 dX8_isCalm_16 (by decide) ?_
            refine r_icmp_gt hC 58 dX8_isCalm_19 (by decide) (fun h8 => ?_) (fun h8 => ?_)
            · have hO := hO.1 h8
              refine r_lv hC [(5, .int v5), (4, .int v1), (0, .ref (mw_a G 44)), (1, .int p1), (2, .int p2), (3, .int p3)] [0, 1, 2, 3, 4, 5] rfl ?_
              exact hK1 v5 μ6 hO
            · have hO := hO.2 h8
              refine r_iload hC 0 dX8_isCalm_22 rfl ?_
              refine r_iload_n hC 5 dX8_isCalm_24 rfl rfl ?_
              refine r_icmp_lt hC 52 dX8_isCalm_25 (by decide) (fun h9 => ?_) (fun h9 => ?_)
              · have hO := hO.1 h9
                obtain ⟨x10, hx10⟩ : ∃ y : Int32, y = v5 + 50 := ⟨_, rfl⟩
                have hO := hO x10 hx10
                refine r_iinc hC x10 0 [(5, .int x10), (4, .int v1), (0, .ref (mw_a G 44)), (1, .int p1), (2, .int p2), (3, .int p3)] dX8_isCalm_52 rfl (by rw [hx10]; rfl) (by decide) rfl ?_
                refine r_goto hC 14 dX8_isCalm_55 (by decide) ?_
                refine r_lv hC [(5, .int x10), (4, .int v1), (0, .ref (mw_a G 44)), (1, .int p1), (2, .int p2), (3, .int p3)] [0, 1, 2, 3, 4, 5] rfl ?_
                exact ihn7 x10 μ6 hO
              · have hO := hO.2 h9
                refine r_aload_n hC 2 dX8_isCalm_28 rfl rfl ?_
                refine r_getR hC 15 fl8_19 ob8 rfl dX8_isCalm_29 ?_
                refine r_iload_n hC 3 dX8_isCalm_32 rfl rfl ?_
                refine r_iload hC 1 dX8_isCalm_33 rfl ?_
                refine r_iconst hC 0 dX8_isCalm_35 (by decide) ?_
                refine r_iload hC 0 dX8_isCalm_36 rfl ?_
                refine r_iload_n hC 4 dX8_isCalm_38 rfl rfl ?_
                refine r_iconst hC 0 dX8_isCalm_39 (by decide) ?_
                refine r_iconst hC 0 dX8_isCalm_40 (by decide) ?_
                refine r_callVi hC [.int p1, .int v1, .int 0, .int v5, .int p2, .int 0, .int 0] (T4_paceBy  hO) yv4_paceBy ml8_122 sh8_2 rfl ⟨Nat.le_of_ble_eq_true rfl, Nat.le_of_ble_eq_true rfl⟩ rfl rfl (Nat.le_of_ble_eq_true rfl) dX8_isCalm_41 (fun r11 μ12 hO => ?_)
                refine r_sipush hC 300 dX8_isCalm_44 (by decide) ?_
                refine r_icmp_le hC 52 dX8_isCalm_47 (by decide) (fun h13 => ?_) (fun h13 => ?_)
                · have hO := hO.1 h13
                  obtain ⟨x14, hx14⟩ : ∃ y : Int32, y = v5 + 50 := ⟨_, rfl⟩
                  have hO := hO x14 hx14
                  refine r_iinc hC x14 0 [(5, .int x14), (4, .int v1), (0, .ref (mw_a G 44)), (1, .int p1), (2, .int p2), (3, .int p3)] dX8_isCalm_52 rfl (by rw [hx14]; rfl) (by decide) rfl ?_
                  refine r_goto hC 14 dX8_isCalm_55 (by decide) ?_
                  refine r_lv hC [(5, .int x14), (4, .int v1), (0, .ref (mw_a G 44)), (1, .int p1), (2, .int p2), (3, .int p3)] [0, 1, 2, 3, 4, 5] rfl ?_
                  exact ihn7 x14 μ12 hO
                · have hO := hO.2 h13
                  refine r_iconst hC 0 dX8_isCalm_50 (by decide) ?_
                  exact r_zret hC rfl (by decide) dX8_isCalm_51 (Or.inr ⟨rfl, hO⟩)
        obtain ⟨n7, hO⟩ := hO
        refine hLn7  _ (fun v5 μ6 hO => ?_) n7 _ _ hO
        obtain ⟨x15, hx15⟩ : ∃ y : Int32, y = v1 + 100 := ⟨_, rfl⟩
        have hO := hO x15 hx15
        refine r_iinc hC x15 1 [(4, .int x15), (5, .int v5), (0, .ref (mw_a G 44)), (1, .int p1), (2, .int p2), (3, .int p3)] dX8_isCalm_58 rfl (by rw [hx15]; rfl) (by decide) rfl ?_
        refine r_goto hC 3 dX8_isCalm_61 (by decide) ?_
        refine r_lv hC [(4, .int x15), (0, .ref (mw_a G 44)), (1, .int p1), (2, .int p2), (3, .int p3)] [0, 2, 3, 4, 5] rfl ?_
        exact ihn3 x15 μ6 hO
  obtain ⟨n3, hO⟩ := hO
  refine hLn3   n3 _ _ hO
