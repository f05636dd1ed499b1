set_option maxHeartbeats 4000000 in
set_option maxRecDepth 100000 in
theorem T11_oneTick {l : Launch} {G : mw_G} {p1 : Int32} {p2 : Int32} {p3 : Int32} {p4 : Int32} {p5 : Int32} {p6 : Int32} {μ : mw_M} {Q : Int32 → mw_M → Prop}  (hO : P11_oneTick p1 p2 p3 p4 p5 p6 μ Q) : mw_Mi l G kdM yX11_oneTick cX11_oneTick 12 (some .int) 69 1654 [.ref (mw_a G 0), .int p1, .int p2, .int p3, .int p4, .int p5, .int p6] μ (Q) := by
  refine mw_enter [(0, .ref (mw_a G 0)), (1, .int p1), (2, .int p2), (3, .int p3), (4, .int p4), (5, .int p5), (6, .int p6)] RX11 (by decide) rfl (Nat.le_of_ble_eq_true rfl) rfl ?_
  intro p e s m args below meth c hC
  unfold P11_oneTick at hO
  refine r_aload_n hC 0 dX11_oneTick_0 rfl rfl ?_
  refine r_getR hC 15 fl11_52 ob11 rfl dX11_oneTick_1 ?_
  refine r_iload hC 4 dX11_oneTick_4 rfl ?_
  refine r_aload_n hC 0 dX11_oneTick_6 rfl rfl ?_
  refine r_callVi hC [] (T11_lopsided  hO) yv11_lopsided ml11_167 ob11 rfl ⟨Nat.le_of_ble_eq_true rfl, Nat.le_of_ble_eq_true rfl⟩ rfl rfl (Nat.le_of_ble_eq_true rfl) dX11_oneTick_7 (fun r1 μ2 hO => ?_)
  obtain ⟨hO, hm⟩ := hO
  refine r_memEq hm ?_
  obtain ⟨g3, hO⟩ := hO
  refine r_iast hC sh11_27 g3 p4.toNatClampNeg rfl dX11_oneTick_10 ?_
  refine r_nmM (fun μ4 hμ4 => ?_)
  have hO := hO μ4 hμ4
  refine r_aload_n hC 0 dX11_oneTick_11 rfl rfl ?_
  refine r_iload hC 4 dX11_oneTick_12 rfl ?_
  refine r_callVi hC [.int p4] (T11_seenAt  hO) yv11_seenAt ml11_266 ob11 rfl ⟨Nat.le_of_ble_eq_true rfl, Nat.le_of_ble_eq_true rfl⟩ rfl rfl (Nat.le_of_ble_eq_true rfl) dX11_oneTick_14 (fun r5 μ6 hO => ?_)
  refine r_istore hC [(7, .int r5), (0, .ref (mw_a G 0)), (1, .int p1), (2, .int p2), (3, .int p3), (4, .int p4), (5, .int p5), (6, .int p6)] dX11_oneTick_17 (by decide) rfl ?_
  refine r_aload_n hC 1 dX11_oneTick_19 rfl rfl ?_
  refine r_iload_n hC 2 dX11_oneTick_20 rfl rfl ?_
  refine r_iload hC 6 dX11_oneTick_21 rfl ?_
  refine r_iload hC 5 dX11_oneTick_23 rfl ?_
  refine r_iload hC 0 dX11_oneTick_25 rfl ?_
  refine r_iload_n hC 4 dX11_oneTick_27 rfl rfl ?_
  refine r_aload_n hC 1 dX11_oneTick_28 rfl rfl ?_
  refine r_getI hC fl11_269 ob11 rfl dX11_oneTick_29 ?_
  refine r_aload_n hC 1 dX11_oneTick_32 rfl rfl ?_
  refine r_getI hC fl11_272 ob11 rfl dX11_oneTick_33 ?_
  refine r_callVi hC [.int p1, .int p5, .int p4, .int r5, .int p3, .int (μ6.1 0 36), .int (μ6.1 0 35)] (T11_ruled  hO) yv11_ruled ml11_275 ob11 rfl ⟨Nat.le_of_ble_eq_true rfl, Nat.le_of_ble_eq_true rfl⟩ rfl rfl (Nat.le_of_ble_eq_true rfl) dX11_oneTick_36 (fun r7 μ8 hO => ?_)
  refine r_istore hC [(8, .int r7), (7, .int r5), (0, .ref (mw_a G 0)), (1, .int p1), (2, .int p2), (3, .int p3), (4, .int p4), (5, .int p5), (6, .int p6)] dX11_oneTick_39 (by decide) rfl ?_
  refine r_iload hC 0 dX11_oneTick_41 rfl ?_
  refine r_bipush hC 60 dX11_oneTick_43 (by decide) ?_
  refine r_icmp_ge hC 79 dX11_oneTick_45 (by decide) (fun h9 => ?_) (fun h9 => ?_)
  · have hO := hO.1 h9
    refine r_aload_n hC 2 dX11_oneTick_79 rfl rfl ?_
    refine r_iload hC 0 dX11_oneTick_80 rfl ?_
    refine r_iload hC 6 dX11_oneTick_82 rfl ?_
    refine r_aload_n hC 2 dX11_oneTick_84 rfl rfl ?_
    refine r_getI hC fl11_269 ob11 rfl dX11_oneTick_85 ?_
    refine r_aload_n hC 2 dX11_oneTick_88 rfl rfl ?_
    refine r_getI hC fl11_272 ob11 rfl dX11_oneTick_89 ?_
    refine r_callVv hC [.int r7, .int p4, .int (μ8.1 0 36), .int (μ8.1 0 35)] (T11_waterLeaves  hO) yv11_waterLeaves ml11_282 ob11 rfl ⟨Nat.le_of_ble_eq_true rfl, Nat.le_of_ble_eq_true rfl⟩ rfl rfl (Nat.le_of_ble_eq_true rfl) dX11_oneTick_92 (fun μ10 hO => ?_)
    refine r_aload_n hC 2 dX11_oneTick_95 rfl rfl ?_
    refine r_dup hC dX11_oneTick_96 rfl ?_
    refine r_getI hC fl11_269 ob11 rfl dX11_oneTick_97 ?_
    refine r_iconst hC 1 dX11_oneTick_100 (by decide) ?_
    refine r_iadd hC dX11_oneTick_101 ?_
    refine r_putI hC fl11_269 ob11 rfl rfl rfl dX11_oneTick_102 ?_
    refine r_nmM (fun μ11 hμ11 => ?_)
    have hO := hO μ11 hμ11
    refine r_aload_n hC 2 dX11_oneTick_105 rfl rfl ?_
    refine r_callVi hC [] (T11_lopsided  hO) yv11_lopsided ml11_167 ob11 rfl ⟨Nat.le_of_ble_eq_true rfl, Nat.le_of_ble_eq_true rfl⟩ rfl rfl (Nat.le_of_ble_eq_true rfl) dX11_oneTick_106 (fun r12 μ13 hO => ?_)
    obtain ⟨hO, hm⟩ := hO
    refine r_memEq hm ?_
    refine r_istore hC [(9, .int r12), (8, .int r7), (7, .int r5), (0, .ref (mw_a G 0)), (1, .int p1), (2, .int p2), (3, .int p3), (4, .int p4), (5, .int p5), (6, .int p6)] dX11_oneTick_109 (by decide) rfl ?_
    refine r_aload_n hC 3 dX11_oneTick_111 rfl rfl ?_
    refine r_iload hC 0 dX11_oneTick_112 rfl ?_
    refine r_iload hC 1 dX11_oneTick_114 rfl ?_
    refine r_callVi hC [.int r12, .int r7] (T11_shakeOf  hO) yv11_shakeOf ml11_182 ob11 rfl ⟨Nat.le_of_ble_eq_true rfl, Nat.le_of_ble_eq_true rfl⟩ rfl rfl (Nat.le_of_ble_eq_true rfl) dX11_oneTick_116 (fun r14 μ15 hO => ?_)
    obtain ⟨hO, hm⟩ := hO
    refine r_memEq hm ?_
    refine r_istore hC [(10, .int r14), (9, .int r12), (8, .int r7), (7, .int r5), (0, .ref (mw_a G 0)), (1, .int p1), (2, .int p2), (3, .int p3), (4, .int p4), (5, .int p5), (6, .int p6)] dX11_oneTick_119 (by decide) rfl ?_
    refine r_aload_n hC 4 dX11_oneTick_121 rfl rfl ?_
    refine r_dup hC dX11_oneTick_122 rfl ?_
    refine r_getI hC fl11_285 ob11 rfl dX11_oneTick_123 ?_
    refine r_iload hC 0 dX11_oneTick_126 rfl ?_
    refine r_sipush hC 500 dX11_oneTick_128 (by decide) ?_
    refine r_icmp_le hC 138 dX11_oneTick_131 (by decide) (fun h16 => ?_) (fun h16 => ?_)
    · have hO := hO.1 h16
      refine r_iconst hC 0 dX11_oneTick_138 (by decide) ?_
      refine r_iadd hC dX11_oneTick_139 ?_
      refine r_putI hC fl11_285 ob11 rfl rfl rfl dX11_oneTick_140 ?_
      refine r_nmM (fun μ17 hμ17 => ?_)
      have hO := hO μ17 hμ17
      refine r_iload hC 0 dX11_oneTick_143 rfl ?_
      refine r_aload_n hC 4 dX11_oneTick_145 rfl rfl ?_
      refine r_getR hC 7 fl11_28 ob11 rfl dX11_oneTick_146 ?_
      refine r_iload_n hC 6 dX11_oneTick_149 rfl rfl ?_
      obtain ⟨g18, hO⟩ := hO
      refine r_iald hC sh11_10 g18 p2.toNatClampNeg rfl dX11_oneTick_150 ?_
      refine r_icmp_le hC 161 dX11_oneTick_151 (by decide) (fun h19 => ?_) (fun h19 => ?_)
      · have hO := hO.1 h19
        refine r_aload_n hC 4 dX11_oneTick_161 rfl rfl ?_
        refine r_aload_n hC 4 dX11_oneTick_162 rfl rfl ?_
        refine r_getI hC fl11_292 ob11 rfl dX11_oneTick_163 ?_
        refine r_if_ge hC 180 dX11_oneTick_166 (by decide) (fun h20 => ?_) (fun h20 => ?_)
        · have hO := hO.1 h20
          refine r_aload_n hC 4 dX11_oneTick_180 rfl rfl ?_
          refine r_getI hC fl11_292 ob11 rfl dX11_oneTick_181 ?_
          refine r_putI hC fl11_292 ob11 rfl rfl rfl dX11_oneTick_184 ?_
          refine r_nmM (fun μ21 hμ21 => ?_)
          have hO := hO μ21 hμ21
          refine r_aload_n hC 4 dX11_oneTick_187 rfl rfl ?_
          refine r_getI hC fl11_257 ob11 rfl dX11_oneTick_188 ?_
          refine r_callSi hC [.int (μ21.1 0 39)] (T11_size  hO) yv11_size ml11_161 ⟨Nat.le_of_ble_eq_true rfl, Nat.le_of_ble_eq_true rfl⟩ rfl rfl (Nat.le_of_ble_eq_true rfl) dX11_oneTick_191 (fun r22 μ23 hO => ?_)
          obtain ⟨hO, hm⟩ := hO
          refine r_memEq hm ?_
          refine r_aload_n hC 4 dX11_oneTick_194 rfl rfl ?_
          refine r_getI hC fl11_263 ob11 rfl dX11_oneTick_195 ?_
          refine r_callSi hC [.int (μ21.1 0 40)] (T11_size  hO) yv11_size ml11_161 ⟨Nat.le_of_ble_eq_true rfl, Nat.le_of_ble_eq_true rfl⟩ rfl rfl (Nat.le_of_ble_eq_true rfl) dX11_oneTick_198 (fun r24 μ25 hO => ?_)
          obtain ⟨hO, hm⟩ := hO
          refine r_memEq hm ?_
          refine r_iadd hC dX11_oneTick_201 ?_
          refine r_nmI (fun x26 hx26 => ?_)
          have hO := hO x26 hx26
          refine r_istore hC [(11, .int x26), (10, .int r14), (9, .int r12), (8, .int r7), (7, .int r5), (0, .ref (mw_a G 0)), (1, .int p1), (2, .int p2), (3, .int p3), (4, .int p4), (5, .int p5), (6, .int p6)] dX11_oneTick_202 (by decide) rfl ?_
          refine r_aload_n hC 5 dX11_oneTick_204 rfl rfl ?_
          refine r_iload hC 0 dX11_oneTick_205 rfl ?_
          refine r_aload_n hC 5 dX11_oneTick_207 rfl rfl ?_
          refine r_getI hC fl11_295 ob11 rfl dX11_oneTick_208 ?_
          refine r_icmp_le hC 219 dX11_oneTick_211 (by decide) (fun h27 => ?_) (fun h27 => ?_)
          · have hO := hO.1 h27
            refine r_aload_n hC 5 dX11_oneTick_219 rfl rfl ?_
            refine r_getI hC fl11_295 ob11 rfl dX11_oneTick_220 ?_
            refine r_putI hC fl11_295 ob11 rfl rfl rfl dX11_oneTick_223 ?_
            refine r_nmM (fun μ28 hμ28 => ?_)
            have hO := hO μ28 hμ28
            refine r_iload hC 3 dX11_oneTick_226 rfl ?_
            exact r_iret hC rfl dX11_oneTick_228 hO
          · have hO := hO.2 h27
            refine r_iload hC 0 dX11_oneTick_214 rfl ?_
            refine r_goto hC 223 dX11_oneTick_216 (by decide) ?_
            refine r_putI hC fl11_295 ob11 rfl rfl rfl dX11_oneTick_223 ?_
            refine r_nmM (fun μ29 hμ29 => ?_)
            have hO := hO μ29 hμ29
            refine r_iload hC 3 dX11_oneTick_226 rfl ?_
            exact r_iret hC rfl dX11_oneTick_228 hO
        · have hO := hO.2 h20
          refine r_iload hC 2 dX11_oneTick_169 rfl ?_
          refine r_iload_n hC 7 dX11_oneTick_171 rfl rfl ?_
          refine r_icmp_lt hC 180 dX11_oneTick_172 (by decide) (fun h30 => ?_) (fun h30 => ?_)
          · have hO := hO.1 h30
            refine r_aload_n hC 4 dX11_oneTick_180 rfl rfl ?_
            refine r_getI hC fl11_292 ob11 rfl dX11_oneTick_181 ?_
            refine r_putI hC fl11_292 ob11 rfl rfl rfl dX11_oneTick_184 ?_
            refine r_nmM (fun μ31 hμ31 => ?_)
            have hO := hO μ31 hμ31
            refine r_aload_n hC 4 dX11_oneTick_187 rfl rfl ?_
            refine r_getI hC fl11_257 ob11 rfl dX11_oneTick_188 ?_
            refine r_callSi hC [.int (μ31.1 0 39)] (T11_size  hO) yv11_size ml11_161 ⟨Nat.le_of_ble_eq_true rfl, Nat.le_of_ble_eq_true rfl⟩ rfl rfl (Nat.le_of_ble_eq_true rfl) dX11_oneTick_191 (fun r32 μ33 hO => ?_)
            obtain ⟨hO, hm⟩ := hO
            refine r_memEq hm ?_
            refine r_aload_n hC 4 dX11_oneTick_194 rfl rfl ?_
            refine r_getI hC fl11_263 ob11 rfl dX11_oneTick_195 ?_
            refine r_callSi hC [.int (μ31.1 0 40)] (T11_size  hO) yv11_size ml11_161 ⟨Nat.le_of_ble_eq_true rfl, Nat.le_of_ble_eq_true rfl⟩ rfl rfl (Nat.le_of_ble_eq_true rfl) dX11_oneTick_198 (fun r34 μ35 hO => ?_)
            obtain ⟨hO, hm⟩ := hO
            refine r_memEq hm ?_
            refine r_iadd hC dX11_oneTick_201 ?_
            refine r_nmI (fun x36 hx36 => ?_)
            have hO := hO x36 hx36
            refine r_istore hC [(11, .int x36), (10, .int r14), (9, .int r12), (8, .int r7), (7, .int r5), (0, .ref (mw_a G 0)), (1, .int p1), (2, .int p2), (3, .int p3), (4, .int p4), (5, .int p5), (6, .int p6)] dX11_oneTick_202 (by decide) rfl ?_
            refine r_aload_n hC 5 dX11_oneTick_204 rfl rfl ?_
            refine r_iload hC 0 dX11_oneTick_205 rfl ?_
            refine r_aload_n hC 5 dX11_oneTick_207 rfl rfl ?_
            refine r_getI hC fl11_295 ob11 rfl dX11_oneTick_208 ?_
            refine r_icmp_le hC 219 dX11_oneTick_211 (by decide) (fun h37 => ?_) (fun h37 => ?_)
            · have hO := hO.1 h37
              refine r_aload_n hC 5 dX11_oneTick_219 rfl rfl ?_
              refine r_getI hC fl11_295 ob11 rfl dX11_oneTick_220 ?_
              refine r_putI hC fl11_295 ob11 rfl rfl rfl dX11_oneTick_223 ?_
              refine r_nmM (fun μ38 hμ38 => ?_)
              have hO := hO μ38 hμ38
              refine r_iload hC 3 dX11_oneTick_226 rfl ?_
              exact r_iret hC rfl dX11_oneTick_228 hO
            · have hO := hO.2 h37
              refine r_iload hC 0 dX11_oneTick_214 rfl ?_
              refine r_goto hC 223 dX11_oneTick_216 (by decide) ?_
              refine r_putI hC fl11_295 ob11 rfl rfl rfl dX11_oneTick_223 ?_
              refine r_nmM (fun μ39 hμ39 => ?_)
              have hO := hO μ39 hμ39
              refine r_iload hC 3 dX11_oneTick_226 rfl ?_
              exact r_iret hC rfl dX11_oneTick_228 hO
          · have hO := hO.2 h30
            refine r_iload hC 8 dX11_oneTick_175 rfl ?_
            refine r_goto hC 184 dX11_oneTick_177 (by decide) ?_
            refine r_putI hC fl11_292 ob11 rfl rfl rfl dX11_oneTick_184 ?_
            refine r_nmM (fun μ40 hμ40 => ?_)
            have hO := hO μ40 hμ40
            refine r_aload_n hC 4 dX11_oneTick_187 rfl rfl ?_
            refine r_getI hC fl11_257 ob11 rfl dX11_oneTick_188 ?_
            refine r_callSi hC [.int (μ40.1 0 39)] (T11_size  hO) yv11_size ml11_161 ⟨Nat.le_of_ble_eq_true rfl, Nat.le_of_ble_eq_true rfl⟩ rfl rfl (Nat.le_of_ble_eq_true rfl) dX11_oneTick_191 (fun r41 μ42 hO => ?_)
            obtain ⟨hO, hm⟩ := hO
            refine r_memEq hm ?_
            refine r_aload_n hC 4 dX11_oneTick_194 rfl rfl ?_
            refine r_getI hC fl11_263 ob11 rfl dX11_oneTick_195 ?_
            refine r_callSi hC [.int (μ40.1 0 40)] (T11_size  hO) yv11_size ml11_161 ⟨Nat.le_of_ble_eq_true rfl, Nat.le_of_ble_eq_true rfl⟩ rfl rfl (Nat.le_of_ble_eq_true rfl) dX11_oneTick_198 (fun r43 μ44 hO => ?_)
            obtain ⟨hO, hm⟩ := hO
            refine r_memEq hm ?_
            refine r_iadd hC dX11_oneTick_201 ?_
            refine r_nmI (fun x45 hx45 => ?_)
            have hO := hO x45 hx45
            refine r_istore hC [(11, .int x45), (10, .int r14), (9, .int r12), (8, .int r7), (7, .int r5), (0, .ref (mw_a G 0)), (1, .int p1), (2, .int p2), (3, .int p3), (4, .int p4), (5, .int p5), (6, .int p6)] dX11_oneTick_202 (by decide) rfl ?_
            refine r_aload_n hC 5 dX11_oneTick_204 rfl rfl ?_
            refine r_iload hC 0 dX11_oneTick_205 rfl ?_
            refine r_aload_n hC 5 dX11_oneTick_207 rfl rfl ?_
            refine r_getI hC fl11_295 ob11 rfl dX11_oneTick_208 ?_
            refine r_icmp_le hC 219 dX11_oneTick_211 (by decide) (fun h46 => ?_) (fun h46 => ?_)
            · have hO := hO.1 h46
              refine r_aload_n hC 5 dX11_oneTick_219 rfl rfl ?_
              refine r_getI hC fl11_295 ob11 rfl dX11_oneTick_220 ?_
              refine r_putI hC fl11_295 ob11 rfl rfl rfl dX11_oneTick_223 ?_
              refine r_nmM (fun μ47 hμ47 => ?_)
              have hO := hO μ47 hμ47
              refine r_iload hC 3 dX11_oneTick_226 rfl ?_
              exact r_iret hC rfl dX11_oneTick_228 hO
            · have hO := hO.2 h46
              refine r_iload hC 0 dX11_oneTick_214 rfl ?_
              refine r_goto hC 223 dX11_oneTick_216 (by decide) ?_
              refine r_putI hC fl11_295 ob11 rfl rfl rfl dX11_oneTick_223 ?_
              refine r_nmM (fun μ48 hμ48 => ?_)
              have hO := hO μ48 hμ48
              refine r_iload hC 3 dX11_oneTick_226 rfl ?_
              exact r_iret hC rfl dX11_oneTick_228 hO
      · have hO := hO.2 h19
        refine r_aload_n hC 4 dX11_oneTick_154 rfl rfl ?_
        refine r_iload_n hC 6 dX11_oneTick_155 rfl rfl ?_
        refine r_iload hC 0 dX11_oneTick_156 rfl ?_
        refine r_callVv hC [.int p2, .int r14] (T11_hopsOn  hO) yv11_hopsOn ml11_288 ob11 rfl ⟨Nat.le_of_ble_eq_true rfl, Nat.le_of_ble_eq_true rfl⟩ rfl rfl (Nat.le_of_ble_eq_true rfl) dX11_oneTick_158 (fun μ49 hO => ?_)
        refine r_aload_n hC 4 dX11_oneTick_161 rfl rfl ?_
        refine r_aload_n hC 4 dX11_oneTick_162 rfl rfl ?_
        refine r_getI hC fl11_292 ob11 rfl dX11_oneTick_163 ?_
        refine r_if_ge hC 180 dX11_oneTick_166 (by decide) (fun h50 => ?_) (fun h50 => ?_)
        · have hO := hO.1 h50
          refine r_aload_n hC 4 dX11_oneTick_180 rfl rfl ?_
          refine r_getI hC fl11_292 ob11 rfl dX11_oneTick_181 ?_
          refine r_putI hC fl11_292 ob11 rfl rfl rfl dX11_oneTick_184 ?_
          refine r_nmM (fun μ51 hμ51 => ?_)
          have hO := hO μ51 hμ51
          refine r_aload_n hC 4 dX11_oneTick_187 rfl rfl ?_
          refine r_getI hC fl11_257 ob11 rfl dX11_oneTick_188 ?_
          refine r_callSi hC [.int (μ51.1 0 39)] (T11_size  hO) yv11_size ml11_161 ⟨Nat.le_of_ble_eq_true rfl, Nat.le_of_ble_eq_true rfl⟩ rfl rfl (Nat.le_of_ble_eq_true rfl) dX11_oneTick_191 (fun r52 μ53 hO => ?_)
          obtain ⟨hO, hm⟩ := hO
          refine r_memEq hm ?_
          refine r_aload_n hC 4 dX11_oneTick_194 rfl rfl ?_
          refine r_getI hC fl11_263 ob11 rfl dX11_oneTick_195 ?_
          refine r_callSi hC [.int (μ51.1 0 40)] (T11_size  hO) yv11_size ml11_161 ⟨Nat.le_of_ble_eq_true rfl, Nat.le_of_ble_eq_true rfl⟩ rfl rfl (Nat.le_of_ble_eq_true rfl) dX11_oneTick_198 (fun r54 μ55 hO => ?_)
          obtain ⟨hO, hm⟩ := hO
          refine r_memEq hm ?_
          refine r_iadd hC dX11_oneTick_201 ?_
          refine r_nmI (fun x56 hx56 => ?_)
          have hO := hO x56 hx56
          refine r_istore hC [(11, .int x56), (10, .int r14), (9, .int r12), (8, .int r7), (7, .int r5), (0, .ref (mw_a G 0)), (1, .int p1), (2, .int p2), (3, .int p3), (4, .int p4), (5, .int p5), (6, .int p6)] dX11_oneTick_202 (by decide) rfl ?_
          refine r_aload_n hC 5 dX11_oneTick_204 rfl rfl ?_
          refine r_iload hC 0 dX11_oneTick_205 rfl ?_
          refine r_aload_n hC 5 dX11_oneTick_207 rfl rfl ?_
          refine r_getI hC fl11_295 ob11 rfl dX11_oneTick_208 ?_
          refine r_icmp_le hC 219 dX11_oneTick_211 (by decide) (fun h57 => ?_) (fun h57 => ?_)
          · have hO := hO.1 h57
            refine r_aload_n hC 5 dX11_oneTick_219 rfl rfl ?_
            refine r_getI hC fl11_295 ob11 rfl dX11_oneTick_220 ?_
            refine r_putI hC fl11_295 ob11 rfl rfl rfl dX11_oneTick_223 ?_
            refine r_nmM (fun μ58 hμ58 => ?_)
            have hO := hO μ58 hμ58
            refine r_iload hC 3 dX11_oneTick_226 rfl ?_
            exact r_iret hC rfl dX11_oneTick_228 hO
          · have hO := hO.2 h57
            refine r_iload hC 0 dX11_oneTick_214 rfl ?_
            refine r_goto hC 223 dX11_oneTick_216 (by decide) ?_
            refine r_putI hC fl11_295 ob11 rfl rfl rfl dX11_oneTick_223 ?_
            refine r_nmM (fun μ59 hμ59 => ?_)
            have hO := hO μ59 hμ59
            refine r_iload hC 3 dX11_oneTick_226 rfl ?_
            exact r_iret hC rfl dX11_oneTick_228 hO
        · have hO := hO.2 h50
          refine r_iload hC 2 dX11_oneTick_169 rfl ?_
          refine r_iload_n hC 7 dX11_oneTick_171 rfl rfl ?_
          refine r_icmp_lt hC 180 dX11_oneTick_172 (by decide) (fun h60 => ?_) (fun h60 => ?_)
          · have hO := hO.1 h60
            refine r_aload_n hC 4 dX11_oneTick_180 rfl rfl ?_
            refine r_getI hC fl11_292 ob11 rfl dX11_oneTick_181 ?_
            refine r_putI hC fl11_292 ob11 rfl rfl rfl dX11_oneTick_184 ?_
            refine r_nmM (fun μ61 hμ61 => ?_)
            have hO := hO μ61 hμ61
            refine r_aload_n hC 4 dX11_oneTick_187 rfl rfl ?_
            refine r_getI hC fl11_257 ob11 rfl dX11_oneTick_188 ?_
            refine r_callSi hC [.int (μ61.1 0 39)] (T11_size  hO) yv11_size ml11_161 ⟨Nat.le_of_ble_eq_true rfl, Nat.le_of_ble_eq_true rfl⟩ rfl rfl (Nat.le_of_ble_eq_true rfl) dX11_oneTick_191 (fun r62 μ63 hO => ?_)
            obtain ⟨hO, hm⟩ := hO
            refine r_memEq hm ?_
            refine r_aload_n hC 4 dX11_oneTick_194 rfl rfl ?_
            refine r_getI hC fl11_263 ob11 rfl dX11_oneTick_195 ?_
            refine r_callSi hC [.int (μ61.1 0 40)] (T11_size  hO) yv11_size ml11_161 ⟨Nat.le_of_ble_eq_true rfl, Nat.le_of_ble_eq_true rfl⟩ rfl rfl (Nat.le_of_ble_eq_true rfl) dX11_oneTick_198 (fun r64 μ65 hO => ?_)
            obtain ⟨hO, hm⟩ := hO
            refine r_memEq hm ?_
            refine r_iadd hC dX11_oneTick_201 ?_
            refine r_nmI (fun x66 hx66 => ?_)
            have hO := hO x66 hx66
            refine r_istore hC [(11, .int x66), (10, .int r14), (9, .int r12), (8, .int r7), (7, .int r5), (0, .ref (mw_a G 0)), (1, .int p1), (2, .int p2), (3, .int p3), (4, .int p4), (5, .int p5), (6, .int p6)] dX11_oneTick_202 (by decide) rfl ?_
            refine r_aload_n hC 5 dX11_oneTick_204 rfl rfl ?_
            refine r_iload hC 0 dX11_oneTick_205 rfl ?_
            refine r_aload_n hC 5 dX11_oneTick_207 rfl rfl ?_
            refine r_getI hC fl11_295 ob11 rfl dX11_oneTick_208 ?_
            refine r_icmp_le hC 219 dX11_oneTick_211 (by decide) (fun h67 => ?_) (fun h67 => ?_)
            · have hO := hO.1 h67
              refine r_aload_n hC 5 dX11_oneTick_219 rfl rfl ?_
              refine r_getI hC fl11_295 ob11 rfl dX11_oneTick_220 ?_
              refine r_putI hC fl11_295 ob11 rfl rfl rfl dX11_oneTick_223 ?_
              refine r_nmM (fun μ68 hμ68 => ?_)
              have hO := hO μ68 hμ68
              refine r_iload hC 3 dX11_oneTick_226 rfl ?_
              exact r_iret hC rfl dX11_oneTick_228 hO
            · have hO := hO.2 h67
              refine r_iload hC 0 dX11_oneTick_214 rfl ?_
              refine r_goto hC 223 dX11_oneTick_216 (by decide) ?_
              refine r_putI hC fl11_295 ob11 rfl rfl rfl dX11_oneTick_223 ?_
              refine r_nmM (fun μ69 hμ69 => ?_)
              have hO := hO μ69 hμ69
              refine r_iload hC 3 dX11_oneTick_226 rfl ?_
              exact r_iret hC rfl dX11_oneTick_228 hO
          · have hO := hO.2 h60
            refine r_iload hC 8 dX11_oneTick_175 rfl ?_
            refine r_goto hC 184 dX11_oneTick_177 (by decide) ?_
            refine r_putI hC fl11_292 ob11 rfl rfl rfl dX11_oneTick_184 ?_
            refine r_nmM (fun μ70 hμ70 => ?_)
            have hO := hO μ70 hμ70
            refine r_aload_n hC 4 dX11_oneTick_187 rfl rfl ?_
            refine r_getI hC fl11_257 ob11 rfl dX11_oneTick_188 ?_
            refine r_callSi hC [.int (μ70.1 0 39)] (T11_size  hO) yv11_size ml11_161 ⟨Nat.le_of_ble_eq_true rfl, Nat.le_of_ble_eq_true rfl⟩ rfl rfl (Nat.le_of_ble_eq_true rfl) dX11_oneTick_191 (fun r71 μ72 hO => ?_)
            obtain ⟨hO, hm⟩ := hO
            refine r_memEq hm ?_
            refine r_aload_n hC 4 dX11_oneTick_194 rfl rfl ?_
            refine r_getI hC fl11_263 ob11 rfl dX11_oneTick_195 ?_
            refine r_callSi hC [.int (μ70.1 0 40)] (T11_size  hO) yv11_size ml11_161 ⟨Nat.le_of_ble_eq_true rfl, Nat.le_of_ble_eq_true rfl⟩ rfl rfl (Nat.le_of_ble_eq_true rfl) dX11_oneTick_198 (fun r73 μ74 hO => ?_)
            obtain ⟨hO, hm⟩ := hO
            refine r_memEq hm ?_
            refine r_iadd hC dX11_oneTick_201 ?_
            refine r_nmI (fun x75 hx75 => ?_)
            have hO := hO x75 hx75
            refine r_istore hC [(11, .int x75), (10, .int r14), (9, .int r12), (8, .int r7), (7, .int r5), (0, .ref (mw_a G 0)), (1, .int p1), (2, .int p2), (3, .int p3), (4, .int p4), (5, .int p5), (6, .int p6)] dX11_oneTick_202 (by decide) rfl ?_
            refine r_aload_n hC 5 dX11_oneTick_204 rfl rfl ?_
            refine r_iload hC 0 dX11_oneTick_205 rfl ?_
            refine r_aload_n hC 5 dX11_oneTick_207 rfl rfl ?_
            refine r_getI hC fl11_295 ob11 rfl dX11_oneTick_208 ?_
            refine r_icmp_le hC 219 dX11_oneTick_211 (by decide) (fun h76 => ?_) (fun h76 => ?_)
            · have hO := hO.1 h76
              refine r_aload_n hC 5 dX11_oneTick_219 rfl rfl ?_
              refine r_getI hC fl11_295 ob11 rfl dX11_oneTick_220 ?_
              refine r_putI hC fl11_295 ob11 rfl rfl rfl dX11_oneTick_223 ?_
              refine r_nmM (fun μ77 hμ77 => ?_)
              have hO := hO μ77 hμ77
              refine r_iload hC 3 dX11_oneTick_226 rfl ?_
              exact r_iret hC rfl dX11_oneTick_228 hO
            · have hO := hO.2 h76
              refine r_iload hC 0 dX11_oneTick_214 rfl ?_
              refine r_goto hC 223 dX11_oneTick_216 (by decide) ?_
              refine r_putI hC fl11_295 ob11 rfl rfl rfl dX11_oneTick_223 ?_
              refine r_nmM (fun μ78 hμ78 => ?_)
              have hO := hO μ78 hμ78
              refine r_iload hC 3 dX11_oneTick_226 rfl ?_
              exact r_iret hC rfl dX11_oneTick_228 hO
    · have hO := hO.2 h16
      refine r_iconst hC 1 dX11_oneTick_134 (by decide) ?_
      refine r_goto hC 139 dX11_oneTick_135 (by decide) ?_
      refine r_iadd hC dX11_oneTick_139 ?_
      refine r_putI hC fl11_285 ob11 rfl rfl rfl dX11_oneTick_140 ?_
      refine r_nmM (fun μ79 hμ79 => ?_)
      have hO := hO μ79 hμ79
      refine r_iload hC 0 dX11_oneTick_143 rfl ?_
      refine r_aload_n hC 4 dX11_oneTick_145 rfl rfl ?_
      refine r_getR hC 7 fl11_28 ob11 rfl dX11_oneTick_146 ?_
      refine r_iload_n hC 6 dX11_oneTick_149 rfl rfl ?_
      obtain ⟨g80, hO⟩ := hO
      refine r_iald hC sh11_10 g80 p2.toNatClampNeg rfl dX11_oneTick_150 ?_
      refine r_icmp_le hC 161 dX11_oneTick_151 (by decide) (fun h81 => ?_) (fun h81 => ?_)
      · have hO := hO.1 h81
        refine r_aload_n hC 4 dX11_oneTick_161 rfl rfl ?_
        refine r_aload_n hC 4 dX11_oneTick_162 rfl rfl ?_
        refine r_getI hC fl11_292 ob11 rfl dX11_oneTick_163 ?_
        refine r_if_ge hC 180 dX11_oneTick_166 (by decide) (fun h82 => ?_) (fun h82 => ?_)
        · have hO := hO.1 h82
          refine r_aload_n hC 4 dX11_oneTick_180 rfl rfl ?_
          refine r_getI hC fl11_292 ob11 rfl dX11_oneTick_181 ?_
          refine r_putI hC fl11_292 ob11 rfl rfl rfl dX11_oneTick_184 ?_
          refine r_nmM (fun μ83 hμ83 => ?_)
          have hO := hO μ83 hμ83
          refine r_aload_n hC 4 dX11_oneTick_187 rfl rfl ?_
          refine r_getI hC fl11_257 ob11 rfl dX11_oneTick_188 ?_
          refine r_callSi hC [.int (μ83.1 0 39)] (T11_size  hO) yv11_size ml11_161 ⟨Nat.le_of_ble_eq_true rfl, Nat.le_of_ble_eq_true rfl⟩ rfl rfl (Nat.le_of_ble_eq_true rfl) dX11_oneTick_191 (fun r84 μ85 hO => ?_)
          obtain ⟨hO, hm⟩ := hO
          refine r_memEq hm ?_
          refine r_aload_n hC 4 dX11_oneTick_194 rfl rfl ?_
          refine r_getI hC fl11_263 ob11 rfl dX11_oneTick_195 ?_
          refine r_callSi hC [.int (μ83.1 0 40)] (T11_size  hO) yv11_size ml11_161 ⟨Nat.le_of_ble_eq_true rfl, Nat.le_of_ble_eq_true rfl⟩ rfl rfl (Nat.le_of_ble_eq_true rfl) dX11_oneTick_198 (fun r86 μ87 hO => ?_)
          obtain ⟨hO, hm⟩ := hO
          refine r_memEq hm ?_
          refine r_iadd hC dX11_oneTick_201 ?_
          refine r_nmI (fun x88 hx88 => ?_)
          have hO := hO x88 hx88
          refine r_istore hC [(11, .int x88), (10, .int r14), (9, .int r12), (8, .int r7), (7, .int r5), (0, .ref (mw_a G 0)), (1, .int p1), (2, .int p2), (3, .int p3), (4, .int p4), (5, .int p5), (6, .int p6)] dX11_oneTick_202 (by decide) rfl ?_
          refine r_aload_n hC 5 dX11_oneTick_204 rfl rfl ?_
          refine r_iload hC 0 dX11_oneTick_205 rfl ?_
          refine r_aload_n hC 5 dX11_oneTick_207 rfl rfl ?_
          refine r_getI hC fl11_295 ob11 rfl dX11_oneTick_208 ?_
          refine r_icmp_le hC 219 dX11_oneTick_211 (by decide) (fun h89 => ?_) (fun h89 => ?_)
          · have hO := hO.1 h89
            refine r_aload_n hC 5 dX11_oneTick_219 rfl rfl ?_
            refine r_getI hC fl11_295 ob11 rfl dX11_oneTick_220 ?_
            refine r_putI hC fl11_295 ob11 rfl rfl rfl dX11_oneTick_223 ?_
            refine r_nmM (fun μ90 hμ90 => ?_)
            have hO := hO μ90 hμ90
            refine r_iload hC 3 dX11_oneTick_226 rfl ?_
            exact r_iret hC rfl dX11_oneTick_228 hO
          · have hO := hO.2 h89
            refine r_iload hC 0 dX11_oneTick_214 rfl ?_
            refine r_goto hC 223 dX11_oneTick_216 (by decide) ?_
            refine r_putI hC fl11_295 ob11 rfl rfl rfl dX11_oneTick_223 ?_
            refine r_nmM (fun μ91 hμ91 => ?_)
            have hO := hO μ91 hμ91
            refine r_iload hC 3 dX11_oneTick_226 rfl ?_
            exact r_iret hC rfl dX11_oneTick_228 hO
        · have hO := hO.2 h82
          refine r_iload hC 2 dX11_oneTick_169 rfl ?_
          refine r_iload_n hC 7 dX11_oneTick_171 rfl rfl ?_
          refine r_icmp_lt hC 180 dX11_oneTick_172 (by decide) (fun h92 => ?_) (fun h92 => ?_)
          · have hO := hO.1 h92
            refine r_aload_n hC 4 dX11_oneTick_180 rfl rfl ?_
            refine r_getI hC fl11_292 ob11 rfl dX11_oneTick_181 ?_
            refine r_putI hC fl11_292 ob11 rfl rfl rfl dX11_oneTick_184 ?_
            refine r_nmM (fun μ93 hμ93 => ?_)
            have hO := hO μ93 hμ93
            refine r_aload_n hC 4 dX11_oneTick_187 rfl rfl ?_
            refine r_getI hC fl11_257 ob11 rfl dX11_oneTick_188 ?_
            refine r_callSi hC [.int (μ93.1 0 39)] (T11_size  hO) yv11_size ml11_161 ⟨Nat.le_of_ble_eq_true rfl, Nat.le_of_ble_eq_true rfl⟩ rfl rfl (Nat.le_of_ble_eq_true rfl) dX11_oneTick_191 (fun r94 μ95 hO => ?_)
            obtain ⟨hO, hm⟩ := hO
            refine r_memEq hm ?_
            refine r_aload_n hC 4 dX11_oneTick_194 rfl rfl ?_
            refine r_getI hC fl11_263 ob11 rfl dX11_oneTick_195 ?_
            refine r_callSi hC [.int (μ93.1 0 40)] (T11_size  hO) yv11_size ml11_161 ⟨Nat.le_of_ble_eq_true rfl, Nat.le_of_ble_eq_true rfl⟩ rfl rfl (Nat.le_of_ble_eq_true rfl) dX11_oneTick_198 (fun r96 μ97 hO => ?_)
            obtain ⟨hO, hm⟩ := hO
            refine r_memEq hm ?_
            refine r_iadd hC dX11_oneTick_201 ?_
            refine r_nmI (fun x98 hx98 => ?_)
            have hO := hO x98 hx98
            refine r_istore hC [(11, .int x98), (10, .int r14), (9, .int r12), (8, .int r7), (7, .int r5), (0, .ref (mw_a G 0)), (1, .int p1), (2, .int p2), (3, .int p3), (4, .int p4), (5, .int p5), (6, .int p6)] dX11_oneTick_202 (by decide) rfl ?_
            refine r_aload_n hC 5 dX11_oneTick_204 rfl rfl ?_
            refine r_iload hC 0 dX11_oneTick_205 rfl ?_
            refine r_aload_n hC 5 dX11_oneTick_207 rfl rfl ?_
            refine r_getI hC fl11_295 ob11 rfl dX11_oneTick_208 ?_
            refine r_icmp_le hC 219 dX11_oneTick_211 (by decide) (fun h99 => ?_) (fun h99 => ?_)
            · have hO := hO.1 h99
              refine r_aload_n hC 5 dX11_oneTick_219 rfl rfl ?_
              refine r_getI hC fl11_295 ob11 rfl dX11_oneTick_220 ?_
              refine r_putI hC fl11_295 ob11 rfl rfl rfl dX11_oneTick_223 ?_
              refine r_nmM (fun μ100 hμ100 => ?_)
              have hO := hO μ100 hμ100
              refine r_iload hC 3 dX11_oneTick_226 rfl ?_
              exact r_iret hC rfl dX11_oneTick_228 hO
            · have hO := hO.2 h99
              refine r_iload hC 0 dX11_oneTick_214 rfl ?_
              refine r_goto hC 223 dX11_oneTick_216 (by decide) ?_
              refine r_putI hC fl11_295 ob11 rfl rfl rfl dX11_oneTick_223 ?_
              refine r_nmM (fun μ101 hμ101 => ?_)
              have hO := hO μ101 hμ101
              refine r_iload hC 3 dX11_oneTick_226 rfl ?_
              exact r_iret hC rfl dX11_oneTick_228 hO
          · have hO := hO.2 h92
            refine r_iload hC 8 dX11_oneTick_175 rfl ?_
            refine r_goto hC 184 dX11_oneTick_177 (by decide) ?_
            refine r_putI hC fl11_292 ob11 rfl rfl rfl dX11_oneTick_184 ?_
            refine r_nmM (fun μ102 hμ102 => ?_)
            have hO := hO μ102 hμ102
            refine r_aload_n hC 4 dX11_oneTick_187 rfl rfl ?_
            refine r_getI hC fl11_257 ob11 rfl dX11_oneTick_188 ?_
            refine r_callSi hC [.int (μ102.1 0 39)] (T11_size  hO) yv11_size ml11_161 ⟨Nat.le_of_ble_eq_true rfl, Nat.le_of_ble_eq_true rfl⟩ rfl rfl (Nat.le_of_ble_eq_true rfl) dX11_oneTick_191 (fun r103 μ104 hO => ?_)
            obtain ⟨hO, hm⟩ := hO
            refine r_memEq hm ?_
            refine r_aload_n hC 4 dX11_oneTick_194 rfl rfl ?_
            refine r_getI hC fl11_263 ob11 rfl dX11_oneTick_195 ?_
            refine r_callSi hC [.int (μ102.1 0 40)] (T11_size  hO) yv11_size ml11_161 ⟨Nat.le_of_ble_eq_true rfl, Nat.le_of_ble_eq_true rfl⟩ rfl rfl (Nat.le_of_ble_eq_true rfl) dX11_oneTick_198 (fun r105 μ106 hO => ?_)
            obtain ⟨hO, hm⟩ := hO
            refine r_memEq hm ?_
            refine r_iadd hC dX11_oneTick_201 ?_
            refine r_nmI (fun x107 hx107 => ?_)
            have hO := hO x107 hx107
            refine r_istore hC [(11, .int x107), (10, .int r14), (9, .int r12), (8, .int r7), (7, .int r5), (0, .ref (mw_a G 0)), (1, .int p1), (2, .int p2), (3, .int p3), (4, .int p4), (5, .int p5), (6, .int p6)] dX11_oneTick_202 (by decide) rfl ?_
            refine r_aload_n hC 5 dX11_oneTick_204 rfl rfl ?_
            refine r_iload hC 0 dX11_oneTick_205 rfl ?_
            refine r_aload_n hC 5 dX11_oneTick_207 rfl rfl ?_
            refine r_getI hC fl11_295 ob11 rfl dX11_oneTick_208 ?_
            refine r_icmp_le hC 219 dX11_oneTick_211 (by decide) (fun h108 => ?_) (fun h108 => ?_)
            · have hO := hO.1 h108
              refine r_aload_n hC 5 dX11_oneTick_219 rfl rfl ?_
              refine r_getI hC fl11_295 ob11 rfl dX11_oneTick_220 ?_
              refine r_putI hC fl11_295 ob11 rfl rfl rfl dX11_oneTick_223 ?_
              refine r_nmM (fun μ109 hμ109 => ?_)
              have hO := hO μ109 hμ109
              refine r_iload hC 3 dX11_oneTick_226 rfl ?_
              exact r_iret hC rfl dX11_oneTick_228 hO
            · have hO := hO.2 h108
              refine r_iload hC 0 dX11_oneTick_214 rfl ?_
              refine r_goto hC 223 dX11_oneTick_216 (by decide) ?_
              refine r_putI hC fl11_295 ob11 rfl rfl rfl dX11_oneTick_223 ?_
              refine r_nmM (fun μ110 hμ110 => ?_)
              have hO := hO μ110 hμ110
              refine r_iload hC 3 dX11_oneTick_226 rfl ?_
              exact r_iret hC rfl dX11_oneTick_228 hO
      · have hO := hO.2 h81
        refine r_aload_n hC 4 dX11_oneTick_154 rfl rfl ?_
        refine r_iload_n hC 6 dX11_oneTick_155 rfl rfl ?_
        refine r_iload hC 0 dX11_oneTick_156 rfl ?_
        refine r_callVv hC [.int p2, .int r14] (T11_hopsOn  hO) yv11_hopsOn ml11_288 ob11 rfl ⟨Nat.le_of_ble_eq_true rfl, Nat.le_of_ble_eq_true rfl⟩ rfl rfl (Nat.le_of_ble_eq_true rfl) dX11_oneTick_158 (fun μ111 hO => ?_)
        refine r_aload_n hC 4 dX11_oneTick_161 rfl rfl ?_
        refine r_aload_n hC 4 dX11_oneTick_162 rfl rfl ?_
        refine r_getI hC fl11_292 ob11 rfl dX11_oneTick_163 ?_
        refine r_if_ge hC 180 dX11_oneTick_166 (by decide) (fun h112 => ?_) (fun h112 => ?_)
        · have hO := hO.1 h112
          refine r_aload_n hC 4 dX11_oneTick_180 rfl rfl ?_
          refine r_getI hC fl11_292 ob11 rfl dX11_oneTick_181 ?_
          refine r_putI hC fl11_292 ob11 rfl rfl rfl dX11_oneTick_184 ?_
          refine r_nmM (fun μ113 hμ113 => ?_)
          have hO := hO μ113 hμ113
          refine r_aload_n hC 4 dX11_oneTick_187 rfl rfl ?_
          refine r_getI hC fl11_257 ob11 rfl dX11_oneTick_188 ?_
          refine r_callSi hC [.int (μ113.1 0 39)] (T11_size  hO) yv11_size ml11_161 ⟨Nat.le_of_ble_eq_true rfl, Nat.le_of_ble_eq_true rfl⟩ rfl rfl (Nat.le_of_ble_eq_true rfl) dX11_oneTick_191 (fun r114 μ115 hO => ?_)
          obtain ⟨hO, hm⟩ := hO
          refine r_memEq hm ?_
          refine r_aload_n hC 4 dX11_oneTick_194 rfl rfl ?_
          refine r_getI hC fl11_263 ob11 rfl dX11_oneTick_195 ?_
          refine r_callSi hC [.int (μ113.1 0 40)] (T11_size  hO) yv11_size ml11_161 ⟨Nat.le_of_ble_eq_true rfl, Nat.le_of_ble_eq_true rfl⟩ rfl rfl (Nat.le_of_ble_eq_true rfl) dX11_oneTick_198 (fun r116 μ117 hO => ?_)
          obtain ⟨hO, hm⟩ := hO
          refine r_memEq hm ?_
          refine r_iadd hC dX11_oneTick_201 ?_
          refine r_nmI (fun x118 hx118 => ?_)
          have hO := hO x118 hx118
          refine r_istore hC [(11, .int x118), (10, .int r14), (9, .int r12), (8, .int r7), (7, .int r5), (0, .ref (mw_a G 0)), (1, .int p1), (2, .int p2), (3, .int p3), (4, .int p4), (5, .int p5), (6, .int p6)] dX11_oneTick_202 (by decide) rfl ?_
          refine r_aload_n hC 5 dX11_oneTick_204 rfl rfl ?_
          refine r_iload hC 0 dX11_oneTick_205 rfl ?_
          refine r_aload_n hC 5 dX11_oneTick_207 rfl rfl ?_
          refine r_getI hC fl11_295 ob11 rfl dX11_oneTick_208 ?_
          refine r_icmp_le hC 219 dX11_oneTick_211 (by decide) (fun h119 => ?_) (fun h119 => ?_)
          · have hO := hO.1 h119
            refine r_aload_n hC 5 dX11_oneTick_219 rfl rfl ?_
            refine r_getI hC fl11_295 ob11 rfl dX11_oneTick_220 ?_
            refine r_putI hC fl11_295 ob11 rfl rfl rfl dX11_oneTick_223 ?_
            refine r_nmM (fun μ120 hμ120 => ?_)
            have hO := hO μ120 hμ120
            refine r_iload hC 3 dX11_oneTick_226 rfl ?_
            exact r_iret hC rfl dX11_oneTick_228 hO
          · have hO := hO.2 h119
            refine r_iload hC 0 dX11_oneTick_214 rfl ?_
            refine r_goto hC 223 dX11_oneTick_216 (by decide) ?_
            refine r_putI hC fl11_295 ob11 rfl rfl rfl dX11_oneTick_223 ?_
            refine r_nmM (fun μ121 hμ121 => ?_)
            have hO := hO μ121 hμ121
            refine r_iload hC 3 dX11_oneTick_226 rfl ?_
            exact r_iret hC rfl dX11_oneTick_228 hO
        · have hO := hO.2 h112
          refine r_iload hC 2 dX11_oneTick_169 rfl ?_
          refine r_iload_n hC 7 dX11_oneTick_171 rfl rfl ?_
          refine r_icmp_lt hC 180 dX11_oneTick_172 (by decide) (fun h122 => ?_) (fun h122 => ?_)
          · have hO := hO.1 h122
            refine r_aload_n hC 4 dX11_oneTick_180 rfl rfl ?_
            refine r_getI hC fl11_292 ob11 rfl dX11_oneTick_181 ?_
            refine r_putI hC fl11_292 ob11 rfl rfl rfl dX11_oneTick_184 ?_
            refine r_nmM (fun μ123 hμ123 => ?_)
            have hO := hO μ123 hμ123
            refine r_aload_n hC 4 dX11_oneTick_187 rfl rfl ?_
            refine r_getI hC fl11_257 ob11 rfl dX11_oneTick_188 ?_
            refine r_callSi hC [.int (μ123.1 0 39)] (T11_size  hO) yv11_size ml11_161 ⟨Nat.le_of_ble_eq_true rfl, Nat.le_of_ble_eq_true rfl⟩ rfl rfl (Nat.le_of_ble_eq_true rfl) dX11_oneTick_191 (fun r124 μ125 hO => ?_)
            obtain ⟨hO, hm⟩ := hO
            refine r_memEq hm ?_
            refine r_aload_n hC 4 dX11_oneTick_194 rfl rfl ?_
            refine r_getI hC fl11_263 ob11 rfl dX11_oneTick_195 ?_
            refine r_callSi hC [.int (μ123.1 0 40)] (T11_size  hO) yv11_size ml11_161 ⟨Nat.le_of_ble_eq_true rfl, Nat.le_of_ble_eq_true rfl⟩ rfl rfl (Nat.le_of_ble_eq_true rfl) dX11_oneTick_198 (fun r126 μ127 hO => ?_)
            obtain ⟨hO, hm⟩ := hO
            refine r_memEq hm ?_
            refine r_iadd hC dX11_oneTick_201 ?_
            refine r_nmI (fun x128 hx128 => ?_)
            have hO := hO x128 hx128
            refine r_istore hC [(11, .int x128), (10, .int r14), (9, .int r12), (8, .int r7), (7, .int r5), (0, .ref (mw_a G 0)), (1, .int p1), (2, .int p2), (3, .int p3), (4, .int p4), (5, .int p5), (6, .int p6)] dX11_oneTick_202 (by decide) rfl ?_
            refine r_aload_n hC 5 dX11_oneTick_204 rfl rfl ?_
            refine r_iload hC 0 dX11_oneTick_205 rfl ?_
            refine r_aload_n hC 5 dX11_oneTick_207 rfl rfl ?_
            refine r_getI hC fl11_295 ob11 rfl dX11_oneTick_208 ?_
            refine r_icmp_le hC 219 dX11_oneTick_211 (by decide) (fun h129 => ?_) (fun h129 => ?_)
            · have hO := hO.1 h129
              refine r_aload_n hC 5 dX11_oneTick_219 rfl rfl ?_
              refine r_getI hC fl11_295 ob11 rfl dX11_oneTick_220 ?_
              refine r_putI hC fl11_295 ob11 rfl rfl rfl dX11_oneTick_223 ?_
              refine r_nmM (fun μ130 hμ130 => ?_)
              have hO := hO μ130 hμ130
              refine r_iload hC 3 dX11_oneTick_226 rfl ?_
              exact r_iret hC rfl dX11_oneTick_228 hO
            · have hO := hO.2 h129
              refine r_iload hC 0 dX11_oneTick_214 rfl ?_
              refine r_goto hC 223 dX11_oneTick_216 (by decide) ?_
              refine r_putI hC fl11_295 ob11 rfl rfl rfl dX11_oneTick_223 ?_
              refine r_nmM (fun μ131 hμ131 => ?_)
              have hO := hO μ131 hμ131
              refine r_iload hC 3 dX11_oneTick_226 rfl ?_
              exact r_iret hC rfl dX11_oneTick_228 hO
          · have hO := hO.2 h122
            refine r_iload hC 8 dX11_oneTick_175 rfl ?_
            refine r_goto hC 184 dX11_oneTick_177 (by decide) ?_
            refine r_putI hC fl11_292 ob11 rfl rfl rfl dX11_oneTick_184 ?_
            refine r_nmM (fun μ132 hμ132 => ?_)
            have hO := hO μ132 hμ132
            refine r_aload_n hC 4 dX11_oneTick_187 rfl rfl ?_
            refine r_getI hC fl11_257 ob11 rfl dX11_oneTick_188 ?_
            refine r_callSi hC [.int (μ132.1 0 39)] (T11_size  hO) yv11_size ml11_161 ⟨Nat.le_of_ble_eq_true rfl, Nat.le_of_ble_eq_true rfl⟩ rfl rfl (Nat.le_of_ble_eq_true rfl) dX11_oneTick_191 (fun r133 μ134 hO => ?_)
            obtain ⟨hO, hm⟩ := hO
            refine r_memEq hm ?_
            refine r_aload_n hC 4 dX11_oneTick_194 rfl rfl ?_
            refine r_getI hC fl11_263 ob11 rfl dX11_oneTick_195 ?_
            refine r_callSi hC [.int (μ132.1 0 40)] (T11_size  hO) yv11_size ml11_161 ⟨Nat.le_of_ble_eq_true rfl, Nat.le_of_ble_eq_true rfl⟩ rfl rfl (Nat.le_of_ble_eq_true rfl) dX11_oneTick_198 (fun r135 μ136 hO => ?_)
            obtain ⟨hO, hm⟩ := hO
            refine r_memEq hm ?_
            refine r_iadd hC dX11_oneTick_201 ?_
            refine r_nmI (fun x137 hx137 => ?_)
            have hO := hO x137 hx137
            refine r_istore hC [(11, .int x137), (10, .int r14), (9, .int r12), (8, .int r7), (7, .int r5), (0, .ref (mw_a G 0)), (1, .int p1), (2, .int p2), (3, .int p3), (4, .int p4), (5, .int p5), (6, .int p6)] dX11_oneTick_202 (by decide) rfl ?_
            refine r_aload_n hC 5 dX11_oneTick_204 rfl rfl ?_
            refine r_iload hC 0 dX11_oneTick_205 rfl ?_
            refine r_aload_n hC 5 dX11_oneTick_207 rfl rfl ?_
            refine r_getI hC fl11_295 ob11 rfl dX11_oneTick_208 ?_
            refine r_icmp_le hC 219 dX11_oneTick_211 (by decide) (fun h138 => ?_) (fun h138 => ?_)
            · have hO := hO.1 h138
              refine r_aload_n hC 5 dX11_oneTick_219 rfl rfl ?_
              refine r_getI hC fl11_295 ob11 rfl dX11_oneTick_220 ?_
              refine r_putI hC fl11_295 ob11 rfl rfl rfl dX11_oneTick_223 ?_
              refine r_nmM (fun μ139 hμ139 => ?_)
              have hO := hO μ139 hμ139
              refine r_iload hC 3 dX11_oneTick_226 rfl ?_
              exact r_iret hC rfl dX11_oneTick_228 hO
            · have hO := hO.2 h138
              refine r_iload hC 0 dX11_oneTick_214 rfl ?_
              refine r_goto hC 223 dX11_oneTick_216 (by decide) ?_
              refine r_putI hC fl11_295 ob11 rfl rfl rfl dX11_oneTick_223 ?_
              refine r_nmM (fun μ140 hμ140 => ?_)
              have hO := hO μ140 hμ140
              refine r_iload hC 3 dX11_oneTick_226 rfl ?_
              exact r_iret hC rfl dX11_oneTick_228 hO
  · have hO := hO.2 h9
    refine r_aload_n hC 2 dX11_oneTick_48 rfl rfl ?_
    refine r_callVv hC [] (T11_tumbles  hO) yv11_tumbles ml11_279 ob11 rfl ⟨Nat.le_of_ble_eq_true rfl, Nat.le_of_ble_eq_true rfl⟩ rfl rfl (Nat.le_of_ble_eq_true rfl) dX11_oneTick_49 (fun μ141 hO => ?_)
    refine r_aload_n hC 2 dX11_oneTick_52 rfl rfl ?_
    refine r_dup hC dX11_oneTick_53 rfl ?_
    refine r_getI hC fl11_272 ob11 rfl dX11_oneTick_54 ?_
    refine r_iload hC 8 dX11_oneTick_57 rfl ?_
    refine r_if_eq hC 66 dX11_oneTick_59 (by decide) (fun h142 => ?_) (fun h142 => ?_)
    · have hO := hO.1 h142
      refine r_iconst hC 1 dX11_oneTick_66 (by decide) ?_
      refine r_iadd hC dX11_oneTick_67 ?_
      refine r_putI hC fl11_272 ob11 rfl rfl rfl dX11_oneTick_68 ?_
      refine r_nmM (fun μ143 hμ143 => ?_)
      have hO := hO μ143 hμ143
      refine r_aload_n hC 2 dX11_oneTick_71 rfl rfl ?_
      refine r_iconst hC 0 dX11_oneTick_72 (by decide) ?_
      refine r_putI hC fl11_269 ob11 rfl rfl rfl dX11_oneTick_73 ?_
      refine r_nmM (fun μ144 hμ144 => ?_)
      have hO := hO μ144 hμ144
      refine r_goto hC 105 dX11_oneTick_76 (by decide) ?_
      refine r_aload_n hC 2 dX11_oneTick_105 rfl rfl ?_
      refine r_callVi hC [] (T11_lopsided  hO) yv11_lopsided ml11_167 ob11 rfl ⟨Nat.le_of_ble_eq_true rfl, Nat.le_of_ble_eq_true rfl⟩ rfl rfl (Nat.le_of_ble_eq_true rfl) dX11_oneTick_106 (fun r145 μ146 hO => ?_)
      obtain ⟨hO, hm⟩ := hO
      refine r_memEq hm ?_
      refine r_istore hC [(9, .int r145), (8, .int r7), (7, .int r5), (0, .ref (mw_a G 0)), (1, .int p1), (2, .int p2), (3, .int p3), (4, .int p4), (5, .int p5), (6, .int p6)] dX11_oneTick_109 (by decide) rfl ?_
      refine r_aload_n hC 3 dX11_oneTick_111 rfl rfl ?_
      refine r_iload hC 0 dX11_oneTick_112 rfl ?_
      refine r_iload hC 1 dX11_oneTick_114 rfl ?_
      refine r_callVi hC [.int r145, .int r7] (T11_shakeOf  hO) yv11_shakeOf ml11_182 ob11 rfl ⟨Nat.le_of_ble_eq_true rfl, Nat.le_of_ble_eq_true rfl⟩ rfl rfl (Nat.le_of_ble_eq_true rfl) dX11_oneTick_116 (fun r147 μ148 hO => ?_)
      obtain ⟨hO, hm⟩ := hO
      refine r_memEq hm ?_
      refine r_istore hC [(10, .int r147), (9, .int r145), (8, .int r7), (7, .int r5), (0, .ref (mw_a G 0)), (1, .int p1), (2, .int p2), (3, .int p3), (4, .int p4), (5, .int p5), (6, .int p6)] dX11_oneTick_119 (by decide) rfl ?_
      refine r_aload_n hC 4 dX11_oneTick_121 rfl rfl ?_
      refine r_dup hC dX11_oneTick_122 rfl ?_
      refine r_getI hC fl11_285 ob11 rfl dX11_oneTick_123 ?_
      refine r_iload hC 0 dX11_oneTick_126 rfl ?_
      refine r_sipush hC 500 dX11_oneTick_128 (by decide) ?_
      refine r_icmp_le hC 138 dX11_oneTick_131 (by decide) (fun h149 => ?_) (fun h149 => ?_)
      · have hO := hO.1 h149
        refine r_iconst hC 0 dX11_oneTick_138 (by decide) ?_
        refine r_iadd hC dX11_oneTick_139 ?_
        refine r_putI hC fl11_285 ob11 rfl rfl rfl dX11_oneTick_140 ?_
        refine r_nmM (fun μ150 hμ150 => ?_)
        have hO := hO μ150 hμ150
        refine r_iload hC 0 dX11_oneTick_143 rfl ?_
        refine r_aload_n hC 4 dX11_oneTick_145 rfl rfl ?_
        refine r_getR hC 7 fl11_28 ob11 rfl dX11_oneTick_146 ?_
        refine r_iload_n hC 6 dX11_oneTick_149 rfl rfl ?_
        obtain ⟨g151, hO⟩ := hO
        refine r_iald hC sh11_10 g151 p2.toNatClampNeg rfl dX11_oneTick_150 ?_
        refine r_icmp_le hC 161 dX11_oneTick_151 (by decide) (fun h152 => ?_) (fun h152 => ?_)
        · have hO := hO.1 h152
          refine r_aload_n hC 4 dX11_oneTick_161 rfl rfl ?_
          refine r_aload_n hC 4 dX11_oneTick_162 rfl rfl ?_
          refine r_getI hC fl11_292 ob11 rfl dX11_oneTick_163 ?_
          refine r_if_ge hC 180 dX11_oneTick_166 (by decide) (fun h153 => ?_) (fun h153 => ?_)
          · have hO := hO.1 h153
            refine r_aload_n hC 4 dX11_oneTick_180 rfl rfl ?_
            refine r_getI hC fl11_292 ob11 rfl dX11_oneTick_181 ?_
            refine r_putI hC fl11_292 ob11 rfl rfl rfl dX11_oneTick_184 ?_
            refine r_nmM (fun μ154 hμ154 => ?_)
            have hO := hO μ154 hμ154
            refine r_aload_n hC 4 dX11_oneTick_187 rfl rfl ?_
            refine r_getI hC fl11_257 ob11 rfl dX11_oneTick_188 ?_
            refine r_callSi hC [.int (μ154.1 0 39)] (T11_size  hO) yv11_size ml11_161 ⟨Nat.le_of_ble_eq_true rfl, Nat.le_of_ble_eq_true rfl⟩ rfl rfl (Nat.le_of_ble_eq_true rfl) dX11_oneTick_191 (fun r155 μ156 hO => ?_)
            obtain ⟨hO, hm⟩ := hO
            refine r_memEq hm ?_
            refine r_aload_n hC 4 dX11_oneTick_194 rfl rfl ?_
            refine r_getI hC fl11_263 ob11 rfl dX11_oneTick_195 ?_
            refine r_callSi hC [.int (μ154.1 0 40)] (T11_size  hO) yv11_size ml11_161 ⟨Nat.le_of_ble_eq_true rfl, Nat.le_of_ble_eq_true rfl⟩ rfl rfl (Nat.le_of_ble_eq_true rfl) dX11_oneTick_198 (fun r157 μ158 hO => ?_)
            obtain ⟨hO, hm⟩ := hO
            refine r_memEq hm ?_
            refine r_iadd hC dX11_oneTick_201 ?_
            refine r_nmI (fun x159 hx159 => ?_)
            have hO := hO x159 hx159
            refine r_istore hC [(11, .int x159), (10, .int r147), (9, .int r145), (8, .int r7), (7, .int r5), (0, .ref (mw_a G 0)), (1, .int p1), (2, .int p2), (3, .int p3), (4, .int p4), (5, .int p5), (6, .int p6)] dX11_oneTick_202 (by decide) rfl ?_
            refine r_aload_n hC 5 dX11_oneTick_204 rfl rfl ?_
            refine r_iload hC 0 dX11_oneTick_205 rfl ?_
            refine r_aload_n hC 5 dX11_oneTick_207 rfl rfl ?_
            refine r_getI hC fl11_295 ob11 rfl dX11_oneTick_208 ?_
            refine r_icmp_le hC 219 dX11_oneTick_211 (by decide) (fun h160 => ?_) (fun h160 => ?_)
            · have hO := hO.1 h160
              refine r_aload_n hC 5 dX11_oneTick_219 rfl rfl ?_
              refine r_getI hC fl11_295 ob11 rfl dX11_oneTick_220 ?_
              refine r_putI hC fl11_295 ob11 rfl rfl rfl dX11_oneTick_223 ?_
              refine r_nmM (fun μ161 hμ161 => ?_)
              have hO := hO μ161 hμ161
              refine r_iload hC 3 dX11_oneTick_226 rfl ?_
              exact r_iret hC rfl dX11_oneTick_228 hO
            · have hO := hO.2 h160
              refine r_iload hC 0 dX11_oneTick_214 rfl ?_
              refine r_goto hC 223 dX11_oneTick_216 (by decide) ?_
              refine r_putI hC fl11_295 ob11 rfl rfl rfl dX11_oneTick_223 ?_
              refine r_nmM (fun μ162 hμ162 => ?_)
              have hO := hO μ162 hμ162
              refine r_iload hC 3 dX11_oneTick_226 rfl ?_
              exact r_iret hC rfl dX11_oneTick_228 hO
          · have hO := hO.2 h153
            refine r_iload hC 2 dX11_oneTick_169 rfl ?_
            refine r_iload_n hC 7 dX11_oneTick_171 rfl rfl ?_
            refine r_icmp_lt hC 180 dX11_oneTick_172 (by decide) (fun h163 => ?_) (fun h163 => ?_)
            · have hO := hO.1 h163
              refine r_aload_n hC 4 dX11_oneTick_180 rfl rfl ?_
              refine r_getI hC fl11_292 ob11 rfl dX11_oneTick_181 ?_
              refine r_putI hC fl11_292 ob11 rfl rfl rfl dX11_oneTick_184 ?_
              refine r_nmM (fun μ164 hμ164 => ?_)
              have hO := hO μ164 hμ164
              refine r_aload_n hC 4 dX11_oneTick_187 rfl rfl ?_
              refine r_getI hC fl11_257 ob11 rfl dX11_oneTick_188 ?_
              refine r_callSi hC [.int (μ164.1 0 39)] (T11_size  hO) yv11_size ml11_161 ⟨Nat.le_of_ble_eq_true rfl, Nat.le_of_ble_eq_true rfl⟩ rfl rfl (Nat.le_of_ble_eq_true rfl) dX11_oneTick_191 (fun r165 μ166 hO => ?_)
              obtain ⟨hO, hm⟩ := hO
              refine r_memEq hm ?_
              refine r_aload_n hC 4 dX11_oneTick_194 rfl rfl ?_
              refine r_getI hC fl11_263 ob11 rfl dX11_oneTick_195 ?_
              refine r_callSi hC [.int (μ164.1 0 40)] (T11_size  hO) yv11_size ml11_161 ⟨Nat.le_of_ble_eq_true rfl, Nat.le_of_ble_eq_true rfl⟩ rfl rfl (Nat.le_of_ble_eq_true rfl) dX11_oneTick_198 (fun r167 μ168 hO => ?_)
              obtain ⟨hO, hm⟩ := hO
              refine r_memEq hm ?_
              refine r_iadd hC dX11_oneTick_201 ?_
              refine r_nmI (fun x169 hx169 => ?_)
              have hO := hO x169 hx169
              refine r_istore hC [(11, .int x169), (10, .int r147), (9, .int r145), (8, .int r7), (7, .int r5), (0, .ref (mw_a G 0)), (1, .int p1), (2, .int p2), (3, .int p3), (4, .int p4), (5, .int p5), (6, .int p6)] dX11_oneTick_202 (by decide) rfl ?_
              refine r_aload_n hC 5 dX11_oneTick_204 rfl rfl ?_
              refine r_iload hC 0 dX11_oneTick_205 rfl ?_
              refine r_aload_n hC 5 dX11_oneTick_207 rfl rfl ?_
              refine r_getI hC fl11_295 ob11 rfl dX11_oneTick_208 ?_
              refine r_icmp_le hC 219 dX11_oneTick_211 (by decide) (fun h170 => ?_) (fun h170 => ?_)
              · have hO := hO.1 h170
                refine r_aload_n hC 5 dX11_oneTick_219 rfl rfl ?_
                refine r_getI hC fl11_295 ob11 rfl dX11_oneTick_220 ?_
                refine r_putI hC fl11_295 ob11 rfl rfl rfl dX11_oneTick_223 ?_
                refine r_nmM (fun μ171 hμ171 => ?_)
                have hO := hO μ171 hμ171
                refine r_iload hC 3 dX11_oneTick_226 rfl ?_
                exact r_iret hC rfl dX11_oneTick_228 hO
              · have hO := hO.2 h170
                refine r_iload hC 0 dX11_oneTick_214 rfl ?_
                refine r_goto hC 223 dX11_oneTick_216 (by decide) ?_
                refine r_putI hC fl11_295 ob11 rfl rfl rfl dX11_oneTick_223 ?_
                refine r_nmM (fun μ172 hμ172 => ?_)
                have hO := hO μ172 hμ172
                refine r_iload hC 3 dX11_oneTick_226 rfl ?_
                exact r_iret hC rfl dX11_oneTick_228 hO
            · have hO := hO.2 h163
              refine r_iload hC 8 dX11_oneTick_175 rfl ?_
              refine r_goto hC 184 dX11_oneTick_177 (by decide) ?_
              refine r_putI hC fl11_292 ob11 rfl rfl rfl dX11_oneTick_184 ?_
              refine r_nmM (fun μ173 hμ173 => ?_)
              have hO := hO μ173 hμ173
              refine r_aload_n hC 4 dX11_oneTick_187 rfl rfl ?_
              refine r_getI hC fl11_257 ob11 rfl dX11_oneTick_188 ?_
              refine r_callSi hC [.int (μ173.1 0 39)] (T11_size  hO) yv11_size ml11_161 ⟨Nat.le_of_ble_eq_true rfl, Nat.le_of_ble_eq_true rfl⟩ rfl rfl (Nat.le_of_ble_eq_true rfl) dX11_oneTick_191 (fun r174 μ175 hO => ?_)
              obtain ⟨hO, hm⟩ := hO
              refine r_memEq hm ?_
              refine r_aload_n hC 4 dX11_oneTick_194 rfl rfl ?_
              refine r_getI hC fl11_263 ob11 rfl dX11_oneTick_195 ?_
              refine r_callSi hC [.int (μ173.1 0 40)] (T11_size  hO) yv11_size ml11_161 ⟨Nat.le_of_ble_eq_true rfl, Nat.le_of_ble_eq_true rfl⟩ rfl rfl (Nat.le_of_ble_eq_true rfl) dX11_oneTick_198 (fun r176 μ177 hO => ?_)
              obtain ⟨hO, hm⟩ := hO
              refine r_memEq hm ?_
              refine r_iadd hC dX11_oneTick_201 ?_
              refine r_nmI (fun x178 hx178 => ?_)
              have hO := hO x178 hx178
              refine r_istore hC [(11, .int x178), (10, .int r147), (9, .int r145), (8, .int r7), (7, .int r5), (0, .ref (mw_a G 0)), (1, .int p1), (2, .int p2), (3, .int p3), (4, .int p4), (5, .int p5), (6, .int p6)] dX11_oneTick_202 (by decide) rfl ?_
              refine r_aload_n hC 5 dX11_oneTick_204 rfl rfl ?_
              refine r_iload hC 0 dX11_oneTick_205 rfl ?_
              refine r_aload_n hC 5 dX11_oneTick_207 rfl rfl ?_
              refine r_getI hC fl11_295 ob11 rfl dX11_oneTick_208 ?_
              refine r_icmp_le hC 219 dX11_oneTick_211 (by decide) (fun h179 => ?_) (fun h179 => ?_)
              · have hO := hO.1 h179
                refine r_aload_n hC 5 dX11_oneTick_219 rfl rfl ?_
                refine r_getI hC fl11_295 ob11 rfl dX11_oneTick_220 ?_
                refine r_putI hC fl11_295 ob11 rfl rfl rfl dX11_oneTick_223 ?_
                refine r_nmM (fun μ180 hμ180 => ?_)
                have hO := hO μ180 hμ180
                refine r_iload hC 3 dX11_oneTick_226 rfl ?_
                exact r_iret hC rfl dX11_oneTick_228 hO
              · have hO := hO.2 h179
                refine r_iload hC 0 dX11_oneTick_214 rfl ?_
                refine r_goto hC 223 dX11_oneTick_216 (by decide) ?_
                refine r_putI hC fl11_295 ob11 rfl rfl rfl dX11_oneTick_223 ?_
                refine r_nmM (fun μ181 hμ181 => ?_)
                have hO := hO μ181 hμ181
                refine r_iload hC 3 dX11_oneTick_226 rfl ?_
                exact r_iret hC rfl dX11_oneTick_228 hO
        · have hO := hO.2 h152
          refine r_aload_n hC 4 dX11_oneTick_154 rfl rfl ?_
          refine r_iload_n hC 6 dX11_oneTick_155 rfl rfl ?_
          refine r_iload hC 0 dX11_oneTick_156 rfl ?_
          refine r_callVv hC [.int p2, .int r147] (T11_hopsOn  hO) yv11_hopsOn ml11_288 ob11 rfl ⟨Nat.le_of_ble_eq_true rfl, Nat.le_of_ble_eq_true rfl⟩ rfl rfl (Nat.le_of_ble_eq_true rfl) dX11_oneTick_158 (fun μ182 hO => ?_)
          refine r_aload_n hC 4 dX11_oneTick_161 rfl rfl ?_
          refine r_aload_n hC 4 dX11_oneTick_162 rfl rfl ?_
          refine r_getI hC fl11_292 ob11 rfl dX11_oneTick_163 ?_
          refine r_if_ge hC 180 dX11_oneTick_166 (by decide) (fun h183 => ?_) (fun h183 => ?_)
          · have hO := hO.1 h183
            refine r_aload_n hC 4 dX11_oneTick_180 rfl rfl ?_
            refine r_getI hC fl11_292 ob11 rfl dX11_oneTick_181 ?_
            refine r_putI hC fl11_292 ob11 rfl rfl rfl dX11_oneTick_184 ?_
            refine r_nmM (fun μ184 hμ184 => ?_)
            have hO := hO μ184 hμ184
            refine r_aload_n hC 4 dX11_oneTick_187 rfl rfl ?_
            refine r_getI hC fl11_257 ob11 rfl dX11_oneTick_188 ?_
            refine r_callSi hC [.int (μ184.1 0 39)] (T11_size  hO) yv11_size ml11_161 ⟨Nat.le_of_ble_eq_true rfl, Nat.le_of_ble_eq_true rfl⟩ rfl rfl (Nat.le_of_ble_eq_true rfl) dX11_oneTick_191 (fun r185 μ186 hO => ?_)
            obtain ⟨hO, hm⟩ := hO
            refine r_memEq hm ?_
            refine r_aload_n hC 4 dX11_oneTick_194 rfl rfl ?_
            refine r_getI hC fl11_263 ob11 rfl dX11_oneTick_195 ?_
            refine r_callSi hC [.int (μ184.1 0 40)] (T11_size  hO) yv11_size ml11_161 ⟨Nat.le_of_ble_eq_true rfl, Nat.le_of_ble_eq_true rfl⟩ rfl rfl (Nat.le_of_ble_eq_true rfl) dX11_oneTick_198 (fun r187 μ188 hO => ?_)
            obtain ⟨hO, hm⟩ := hO
            refine r_memEq hm ?_
            refine r_iadd hC dX11_oneTick_201 ?_
            refine r_nmI (fun x189 hx189 => ?_)
            have hO := hO x189 hx189
            refine r_istore hC [(11, .int x189), (10, .int r147), (9, .int r145), (8, .int r7), (7, .int r5), (0, .ref (mw_a G 0)), (1, .int p1), (2, .int p2), (3, .int p3), (4, .int p4), (5, .int p5), (6, .int p6)] dX11_oneTick_202 (by decide) rfl ?_
            refine r_aload_n hC 5 dX11_oneTick_204 rfl rfl ?_
            refine r_iload hC 0 dX11_oneTick_205 rfl ?_
            refine r_aload_n hC 5 dX11_oneTick_207 rfl rfl ?_
            refine r_getI hC fl11_295 ob11 rfl dX11_oneTick_208 ?_
            refine r_icmp_le hC 219 dX11_oneTick_211 (by decide) (fun h190 => ?_) (fun h190 => ?_)
            · have hO := hO.1 h190
              refine r_aload_n hC 5 dX11_oneTick_219 rfl rfl ?_
              refine r_getI hC fl11_295 ob11 rfl dX11_oneTick_220 ?_
              refine r_putI hC fl11_295 ob11 rfl rfl rfl dX11_oneTick_223 ?_
              refine r_nmM (fun μ191 hμ191 => ?_)
              have hO := hO μ191 hμ191
              refine r_iload hC 3 dX11_oneTick_226 rfl ?_
              exact r_iret hC rfl dX11_oneTick_228 hO
            · have hO := hO.2 h190
              refine r_iload hC 0 dX11_oneTick_214 rfl ?_
              refine r_goto hC 223 dX11_oneTick_216 (by decide) ?_
              refine r_putI hC fl11_295 ob11 rfl rfl rfl dX11_oneTick_223 ?_
              refine r_nmM (fun μ192 hμ192 => ?_)
              have hO := hO μ192 hμ192
              refine r_iload hC 3 dX11_oneTick_226 rfl ?_
              exact r_iret hC rfl dX11_oneTick_228 hO
          · have hO := hO.2 h183
            refine r_iload hC 2 dX11_oneTick_169 rfl ?_
            refine r_iload_n hC 7 dX11_oneTick_171 rfl rfl ?_
            refine r_icmp_lt hC 180 dX11_oneTick_172 (by decide) (fun h193 => ?_) (fun h193 => ?_)
            · have hO := hO.1 h193
              refine r_aload_n hC 4 dX11_oneTick_180 rfl rfl ?_
              refine r_getI hC fl11_292 ob11 rfl dX11_oneTick_181 ?_
              refine r_putI hC fl11_292 ob11 rfl rfl rfl dX11_oneTick_184 ?_
              refine r_nmM (fun μ194 hμ194 => ?_)
              have hO := hO μ194 hμ194
              refine r_aload_n hC 4 dX11_oneTick_187 rfl rfl ?_
              refine r_getI hC fl11_257 ob11 rfl dX11_oneTick_188 ?_
              refine r_callSi hC [.int (μ194.1 0 39)] (T11_size  hO) yv11_size ml11_161 ⟨Nat.le_of_ble_eq_true rfl, Nat.le_of_ble_eq_true rfl⟩ rfl rfl (Nat.le_of_ble_eq_true rfl) dX11_oneTick_191 (fun r195 μ196 hO => ?_)
              obtain ⟨hO, hm⟩ := hO
              refine r_memEq hm ?_
              refine r_aload_n hC 4 dX11_oneTick_194 rfl rfl ?_
              refine r_getI hC fl11_263 ob11 rfl dX11_oneTick_195 ?_
              refine r_callSi hC [.int (μ194.1 0 40)] (T11_size  hO) yv11_size ml11_161 ⟨Nat.le_of_ble_eq_true rfl, Nat.le_of_ble_eq_true rfl⟩ rfl rfl (Nat.le_of_ble_eq_true rfl) dX11_oneTick_198 (fun r197 μ198 hO => ?_)
              obtain ⟨hO, hm⟩ := hO
              refine r_memEq hm ?_
              refine r_iadd hC dX11_oneTick_201 ?_
              refine r_nmI (fun x199 hx199 => ?_)
              have hO := hO x199 hx199
              refine r_istore hC [(11, .int x199), (10, .int r147), (9, .int r145), (8, .int r7), (7, .int r5), (0, .ref (mw_a G 0)), (1, .int p1), (2, .int p2), (3, .int p3), (4, .int p4), (5, .int p5), (6, .int p6)] dX11_oneTick_202 (by decide) rfl ?_
              refine r_aload_n hC 5 dX11_oneTick_204 rfl rfl ?_
              refine r_iload hC 0 dX11_oneTick_205 rfl ?_
              refine r_aload_n hC 5 dX11_oneTick_207 rfl rfl ?_
              refine r_getI hC fl11_295 ob11 rfl dX11_oneTick_208 ?_
              refine r_icmp_le hC 219 dX11_oneTick_211 (by decide) (fun h200 => ?_) (fun h200 => ?_)
              · have hO := hO.1 h200
                refine r_aload_n hC 5 dX11_oneTick_219 rfl rfl ?_
                refine r_getI hC fl11_295 ob11 rfl dX11_oneTick_220 ?_
                refine r_putI hC fl11_295 ob11 rfl rfl rfl dX11_oneTick_223 ?_
                refine r_nmM (fun μ201 hμ201 => ?_)
                have hO := hO μ201 hμ201
                refine r_iload hC 3 dX11_oneTick_226 rfl ?_
                exact r_iret hC rfl dX11_oneTick_228 hO
              · have hO := hO.2 h200
                refine r_iload hC 0 dX11_oneTick_214 rfl ?_
                refine r_goto hC 223 dX11_oneTick_216 (by decide) ?_
                refine r_putI hC fl11_295 ob11 rfl rfl rfl dX11_oneTick_223 ?_
                refine r_nmM (fun μ202 hμ202 => ?_)
                have hO := hO μ202 hμ202
                refine r_iload hC 3 dX11_oneTick_226 rfl ?_
                exact r_iret hC rfl dX11_oneTick_228 hO
            · have hO := hO.2 h193
              refine r_iload hC 8 dX11_oneTick_175 rfl ?_
              refine r_goto hC 184 dX11_oneTick_177 (by decide) ?_
              refine r_putI hC fl11_292 ob11 rfl rfl rfl dX11_oneTick_184 ?_
              refine r_nmM (fun μ203 hμ203 => ?_)
              have hO := hO μ203 hμ203
              refine r_aload_n hC 4 dX11_oneTick_187 rfl rfl ?_
              refine r_getI hC fl11_257 ob11 rfl dX11_oneTick_188 ?_
              refine r_callSi hC [.int (μ203.1 0 39)] (T11_size  hO) yv11_size ml11_161 ⟨Nat.le_of_ble_eq_true rfl, Nat.le_of_ble_eq_true rfl⟩ rfl rfl (Nat.le_of_ble_eq_true rfl) dX11_oneTick_191 (fun r204 μ205 hO => ?_)
              obtain ⟨hO, hm⟩ := hO
              refine r_memEq hm ?_
              refine r_aload_n hC 4 dX11_oneTick_194 rfl rfl ?_
              refine r_getI hC fl11_263 ob11 rfl dX11_oneTick_195 ?_
              refine r_callSi hC [.int (μ203.1 0 40)] (T11_size  hO) yv11_size ml11_161 ⟨Nat.le_of_ble_eq_true rfl, Nat.le_of_ble_eq_true rfl⟩ rfl rfl (Nat.le_of_ble_eq_true rfl) dX11_oneTick_198 (fun r206 μ207 hO => ?_)
              obtain ⟨hO, hm⟩ := hO
              refine r_memEq hm ?_
              refine r_iadd hC dX11_oneTick_201 ?_
              refine r_nmI (fun x208 hx208 => ?_)
              have hO := hO x208 hx208
              refine r_istore hC [(11, .int x208), (10, .int r147), (9, .int r145), (8, .int r7), (7, .int r5), (0, .ref (mw_a G 0)), (1, .int p1), (2, .int p2), (3, .int p3), (4, .int p4), (5, .int p5), (6, .int p6)] dX11_oneTick_202 (by decide) rfl ?_
              refine r_aload_n hC 5 dX11_oneTick_204 rfl rfl ?_
              refine r_iload hC 0 dX11_oneTick_205 rfl ?_
              refine r_aload_n hC 5 dX11_oneTick_207 rfl rfl ?_
              refine r_getI hC fl11_295 ob11 rfl dX11_oneTick_208 ?_
              refine r_icmp_le hC 219 dX11_oneTick_211 (by decide) (fun h209 => ?_) (fun h209 => ?_)
              · have hO := hO.1 h209
                refine r_aload_n hC 5 dX11_oneTick_219 rfl rfl ?_
                refine r_getI hC fl11_295 ob11 rfl dX11_oneTick_220 ?_
                refine r_putI hC fl11_295 ob11 rfl rfl rfl dX11_oneTick_223 ?_
                refine r_nmM (fun μ210 hμ210 => ?_)
                have hO := hO μ210 hμ210
                refine r_iload hC 3 dX11_oneTick_226 rfl ?_
                exact r_iret hC rfl dX11_oneTick_228 hO
              · have hO := hO.2 h209
                refine r_iload hC 0 dX11_oneTick_214 rfl ?_
                refine r_goto hC 223 dX11_oneTick_216 (by decide) ?_
                refine r_putI hC fl11_295 ob11 rfl rfl rfl dX11_oneTick_223 ?_
                refine r_nmM (fun μ211 hμ211 => ?_)
                have hO := hO μ211 hμ211
                refine r_iload hC 3 dX11_oneTick_226 rfl ?_
                exact r_iret hC rfl dX11_oneTick_228 hO
      · have hO := hO.2 h149
        refine r_iconst hC 1 dX11_oneTick_134 (by decide) ?_
        refine r_goto hC 139 dX11_oneTick_135 (by decide) ?_
        refine r_iadd hC dX11_oneTick_139 ?_
        refine r_putI hC fl11_285 ob11 rfl rfl rfl dX11_oneTick_140 ?_
        refine r_nmM (fun μ212 hμ212 => ?_)
        have hO := hO μ212 hμ212
        refine r_iload hC 0 dX11_oneTick_143 rfl ?_
        refine r_aload_n hC 4 dX11_oneTick_145 rfl rfl ?_
        refine r_getR hC 7 fl11_28 ob11 rfl dX11_oneTick_146 ?_
        refine r_iload_n hC 6 dX11_oneTick_149 rfl rfl ?_
        obtain ⟨g213, hO⟩ := hO
        refine r_iald hC sh11_10 g213 p2.toNatClampNeg rfl dX11_oneTick_150 ?_
        refine r_icmp_le hC 161 dX11_oneTick_151 (by decide) (fun h214 => ?_) (fun h214 => ?_)
        · have hO := hO.1 h214
          refine r_aload_n hC 4 dX11_oneTick_161 rfl rfl ?_
          refine r_aload_n hC 4 dX11_oneTick_162 rfl rfl ?_
          refine r_getI hC fl11_292 ob11 rfl dX11_oneTick_163 ?_
          refine r_if_ge hC 180 dX11_oneTick_166 (by decide) (fun h215 => ?_) (fun h215 => ?_)
          · have hO := hO.1 h215
            refine r_aload_n hC 4 dX11_oneTick_180 rfl rfl ?_
            refine r_getI hC fl11_292 ob11 rfl dX11_oneTick_181 ?_
            refine r_putI hC fl11_292 ob11 rfl rfl rfl dX11_oneTick_184 ?_
            refine r_nmM (fun μ216 hμ216 => ?_)
            have hO := hO μ216 hμ216
            refine r_aload_n hC 4 dX11_oneTick_187 rfl rfl ?_
            refine r_getI hC fl11_257 ob11 rfl dX11_oneTick_188 ?_
            refine r_callSi hC [.int (μ216.1 0 39)] (T11_size  hO) yv11_size ml11_161 ⟨Nat.le_of_ble_eq_true rfl, Nat.le_of_ble_eq_true rfl⟩ rfl rfl (Nat.le_of_ble_eq_true rfl) dX11_oneTick_191 (fun r217 μ218 hO => ?_)
            obtain ⟨hO, hm⟩ := hO
            refine r_memEq hm ?_
            refine r_aload_n hC 4 dX11_oneTick_194 rfl rfl ?_
            refine r_getI hC fl11_263 ob11 rfl dX11_oneTick_195 ?_
            refine r_callSi hC [.int (μ216.1 0 40)] (T11_size  hO) yv11_size ml11_161 ⟨Nat.le_of_ble_eq_true rfl, Nat.le_of_ble_eq_true rfl⟩ rfl rfl (Nat.le_of_ble_eq_true rfl) dX11_oneTick_198 (fun r219 μ220 hO => ?_)
            obtain ⟨hO, hm⟩ := hO
            refine r_memEq hm ?_
            refine r_iadd hC dX11_oneTick_201 ?_
            refine r_nmI (fun x221 hx221 => ?_)
            have hO := hO x221 hx221
            refine r_istore hC [(11, .int x221), (10, .int r147), (9, .int r145), (8, .int r7), (7, .int r5), (0, .ref (mw_a G 0)), (1, .int p1), (2, .int p2), (3, .int p3), (4, .int p4), (5, .int p5), (6, .int p6)] dX11_oneTick_202 (by decide) rfl ?_
            refine r_aload_n hC 5 dX11_oneTick_204 rfl rfl ?_
            refine r_iload hC 0 dX11_oneTick_205 rfl ?_
            refine r_aload_n hC 5 dX11_oneTick_207 rfl rfl ?_
            refine r_getI hC fl11_295 ob11 rfl dX11_oneTick_208 ?_
            refine r_icmp_le hC 219 dX11_oneTick_211 (by decide) (fun h222 => ?_) (fun h222 => ?_)
            · have hO := hO.1 h222
              refine r_aload_n hC 5 dX11_oneTick_219 rfl rfl ?_
              refine r_getI hC fl11_295 ob11 rfl dX11_oneTick_220 ?_
              refine r_putI hC fl11_295 ob11 rfl rfl rfl dX11_oneTick_223 ?_
              refine r_nmM (fun μ223 hμ223 => ?_)
              have hO := hO μ223 hμ223
              refine r_iload hC 3 dX11_oneTick_226 rfl ?_
              exact r_iret hC rfl dX11_oneTick_228 hO
            · have hO := hO.2 h222
              refine r_iload hC 0 dX11_oneTick_214 rfl ?_
              refine r_goto hC 223 dX11_oneTick_216 (by decide) ?_
              refine r_putI hC fl11_295 ob11 rfl rfl rfl dX11_oneTick_223 ?_
              refine r_nmM (fun μ224 hμ224 => ?_)
              have hO := hO μ224 hμ224
              refine r_iload hC 3 dX11_oneTick_226 rfl ?_
              exact r_iret hC rfl dX11_oneTick_228 hO
          · have hO := hO.2 h215
            refine r_iload hC 2 dX11_oneTick_169 rfl ?_
            refine r_iload_n hC 7 dX11_oneTick_171 rfl rfl ?_
            refine r_icmp_lt hC 180 dX11_oneTick_172 (by decide) (fun h225 => ?_) (fun h225 => ?_)
            · have hO := hO.1 h225
              refine r_aload_n hC 4 dX11_oneTick_180 rfl rfl ?_
              refine r_getI hC fl11_292 ob11 rfl dX11_oneTick_181 ?_
              refine r_putI hC fl11_292 ob11 rfl rfl rfl dX11_oneTick_184 ?_
              refine r_nmM (fun μ226 hμ226 => ?_)
              have hO := hO μ226 hμ226
              refine r_aload_n hC 4 dX11_oneTick_187 rfl rfl ?_
              refine r_getI hC fl11_257 ob11 rfl dX11_oneTick_188 ?_
              refine r_callSi hC [.int (μ226.1 0 39)] (T11_size  hO) yv11_size ml11_161 ⟨Nat.le_of_ble_eq_true rfl, Nat.le_of_ble_eq_true rfl⟩ rfl rfl (Nat.le_of_ble_eq_true rfl) dX11_oneTick_191 (fun r227 μ228 hO => ?_)
              obtain ⟨hO, hm⟩ := hO
              refine r_memEq hm ?_
              refine r_aload_n hC 4 dX11_oneTick_194 rfl rfl ?_
              refine r_getI hC fl11_263 ob11 rfl dX11_oneTick_195 ?_
              refine r_callSi hC [.int (μ226.1 0 40)] (T11_size  hO) yv11_size ml11_161 ⟨Nat.le_of_ble_eq_true rfl, Nat.le_of_ble_eq_true rfl⟩ rfl rfl (Nat.le_of_ble_eq_true rfl) dX11_oneTick_198 (fun r229 μ230 hO => ?_)
              obtain ⟨hO, hm⟩ := hO
              refine r_memEq hm ?_
              refine r_iadd hC dX11_oneTick_201 ?_
              refine r_nmI (fun x231 hx231 => ?_)
              have hO := hO x231 hx231
              refine r_istore hC [(11, .int x231), (10, .int r147), (9, .int r145), (8, .int r7), (7, .int r5), (0, .ref (mw_a G 0)), (1, .int p1), (2, .int p2), (3, .int p3), (4, .int p4), (5, .int p5), (6, .int p6)] dX11_oneTick_202 (by decide) rfl ?_
              refine r_aload_n hC 5 dX11_oneTick_204 rfl rfl ?_
              refine r_iload hC 0 dX11_oneTick_205 rfl ?_
              refine r_aload_n hC 5 dX11_oneTick_207 rfl rfl ?_
              refine r_getI hC fl11_295 ob11 rfl dX11_oneTick_208 ?_
              refine r_icmp_le hC 219 dX11_oneTick_211 (by decide) (fun h232 => ?_) (fun h232 => ?_)
              · have hO := hO.1 h232
                refine r_aload_n hC 5 dX11_oneTick_219 rfl rfl ?_
                refine r_getI hC fl11_295 ob11 rfl dX11_oneTick_220 ?_
                refine r_putI hC fl11_295 ob11 rfl rfl rfl dX11_oneTick_223 ?_
                refine r_nmM (fun μ233 hμ233 => ?_)
                have hO := hO μ233 hμ233
                refine r_iload hC 3 dX11_oneTick_226 rfl ?_
                exact r_iret hC rfl dX11_oneTick_228 hO
              · have hO := hO.2 h232
                refine r_iload hC 0 dX11_oneTick_214 rfl ?_
                refine r_goto hC 223 dX11_oneTick_216 (by decide) ?_
                refine r_putI hC fl11_295 ob11 rfl rfl rfl dX11_oneTick_223 ?_
                refine r_nmM (fun μ234 hμ234 => ?_)
                have hO := hO μ234 hμ234
                refine r_iload hC 3 dX11_oneTick_226 rfl ?_
                exact r_iret hC rfl dX11_oneTick_228 hO
            · have hO := hO.2 h225
              refine r_iload hC 8 dX11_oneTick_175 rfl ?_
              refine r_goto hC 184 dX11_oneTick_177 (by decide) ?_
              refine r_putI hC fl11_292 ob11 rfl rfl rfl dX11_oneTick_184 ?_
              refine r_nmM (fun μ235 hμ235 => ?_)
              have hO := hO μ235 hμ235
              refine r_aload_n hC 4 dX11_oneTick_187 rfl rfl ?_
              refine r_getI hC fl11_257 ob11 rfl dX11_oneTick_188 ?_
              refine r_callSi hC [.int (μ235.1 0 39)] (T11_size  hO) yv11_size ml11_161 ⟨Nat.le_of_ble_eq_true rfl, Nat.le_of_ble_eq_true rfl⟩ rfl rfl (Nat.le_of_ble_eq_true rfl) dX11_oneTick_191 (fun r236 μ237 hO => ?_)
              obtain ⟨hO, hm⟩ := hO
              refine r_memEq hm ?_
              refine r_aload_n hC 4 dX11_oneTick_194 rfl rfl ?_
              refine r_getI hC fl11_263 ob11 rfl dX11_oneTick_195 ?_
              refine r_callSi hC [.int (μ235.1 0 40)] (T11_size  hO) yv11_size ml11_161 ⟨Nat.le_of_ble_eq_true rfl, Nat.le_of_ble_eq_true rfl⟩ rfl rfl (Nat.le_of_ble_eq_true rfl) dX11_oneTick_198 (fun r238 μ239 hO => ?_)
              obtain ⟨hO, hm⟩ := hO
              refine r_memEq hm ?_
              refine r_iadd hC dX11_oneTick_201 ?_
              refine r_nmI (fun x240 hx240 => ?_)
              have hO := hO x240 hx240
              refine r_istore hC [(11, .int x240), (10, .int r147), (9, .int r145), (8, .int r7), (7, .int r5), (0, .ref (mw_a G 0)), (1, .int p1), (2, .int p2), (3, .int p3), (4, .int p4), (5, .int p5), (6, .int p6)] dX11_oneTick_202 (by decide) rfl ?_
              refine r_aload_n hC 5 dX11_oneTick_204 rfl rfl ?_
              refine r_iload hC 0 dX11_oneTick_205 rfl ?_
              refine r_aload_n hC 5 dX11_oneTick_207 rfl rfl ?_
              refine r_getI hC fl11_295 ob11 rfl dX11_oneTick_208 ?_
              refine r_icmp_le hC 219 dX11_oneTick_211 (by decide) (fun h241 => ?_) (fun h241 => ?_)
              · have hO := hO.1 h241
                refine r_aload_n hC 5 dX11_oneTick_219 rfl rfl ?_
                refine r_getI hC fl11_295 ob11 rfl dX11_oneTick_220 ?_
                refine r_putI hC fl11_295 ob11 rfl rfl rfl dX11_oneTick_223 ?_
                refine r_nmM (fun μ242 hμ242 => ?_)
                have hO := hO μ242 hμ242
                refine r_iload hC 3 dX11_oneTick_226 rfl ?_
                exact r_iret hC rfl dX11_oneTick_228 hO
              · have hO := hO.2 h241
                refine r_iload hC 0 dX11_oneTick_214 rfl ?_
                refine r_goto hC 223 dX11_oneTick_216 (by decide) ?_
                refine r_putI hC fl11_295 ob11 rfl rfl rfl dX11_oneTick_223 ?_
                refine r_nmM (fun μ243 hμ243 => ?_)
                have hO := hO μ243 hμ243
                refine r_iload hC 3 dX11_oneTick_226 rfl ?_
                exact r_iret hC rfl dX11_oneTick_228 hO
        · have hO := hO.2 h214
          refine r_aload_n hC 4 dX11_oneTick_154 rfl rfl ?_
          refine r_iload_n hC 6 dX11_oneTick_155 rfl rfl ?_
          refine r_iload hC 0 dX11_oneTick_156 rfl ?_
          refine r_callVv hC [.int p2, .int r147] (T11_hopsOn  hO) yv11_hopsOn ml11_288 ob11 rfl ⟨Nat.le_of_ble_eq_true rfl, Nat.le_of_ble_eq_true rfl⟩ rfl rfl (Nat.le_of_ble_eq_true rfl) dX11_oneTick_158 (fun μ244 hO => ?_)
          refine r_aload_n hC 4 dX11_oneTick_161 rfl rfl ?_
          refine r_aload_n hC 4 dX11_oneTick_162 rfl rfl ?_
          refine r_getI hC fl11_292 ob11 rfl dX11_oneTick_163 ?_
          refine r_if_ge hC 180 dX11_oneTick_166 (by decide) (fun h245 => ?_) (fun h245 => ?_)
          · have hO := hO.1 h245
            refine r_aload_n hC 4 dX11_oneTick_180 rfl rfl ?_
            refine r_getI hC fl11_292 ob11 rfl dX11_oneTick_181 ?_
            refine r_putI hC fl11_292 ob11 rfl rfl rfl dX11_oneTick_184 ?_
            refine r_nmM (fun μ246 hμ246 => ?_)
            have hO := hO μ246 hμ246
            refine r_aload_n hC 4 dX11_oneTick_187 rfl rfl ?_
            refine r_getI hC fl11_257 ob11 rfl dX11_oneTick_188 ?_
            refine r_callSi hC [.int (μ246.1 0 39)] (T11_size  hO) yv11_size ml11_161 ⟨Nat.le_of_ble_eq_true rfl, Nat.le_of_ble_eq_true rfl⟩ rfl rfl (Nat.le_of_ble_eq_true rfl) dX11_oneTick_191 (fun r247 μ248 hO => ?_)
            obtain ⟨hO, hm⟩ := hO
            refine r_memEq hm ?_
            refine r_aload_n hC 4 dX11_oneTick_194 rfl rfl ?_
            refine r_getI hC fl11_263 ob11 rfl dX11_oneTick_195 ?_
            refine r_callSi hC [.int (μ246.1 0 40)] (T11_size  hO) yv11_size ml11_161 ⟨Nat.le_of_ble_eq_true rfl, Nat.le_of_ble_eq_true rfl⟩ rfl rfl (Nat.le_of_ble_eq_true rfl) dX11_oneTick_198 (fun r249 μ250 hO => ?_)
            obtain ⟨hO, hm⟩ := hO
            refine r_memEq hm ?_
            refine r_iadd hC dX11_oneTick_201 ?_
            refine r_nmI (fun x251 hx251 => ?_)
            have hO := hO x251 hx251
            refine r_istore hC [(11, .int x251), (10, .int r147), (9, .int r145), (8, .int r7), (7, .int r5), (0, .ref (mw_a G 0)), (1, .int p1), (2, .int p2), (3, .int p3), (4, .int p4), (5, .int p5), (6, .int p6)] dX11_oneTick_202 (by decide) rfl ?_
            refine r_aload_n hC 5 dX11_oneTick_204 rfl rfl ?_
            refine r_iload hC 0 dX11_oneTick_205 rfl ?_
            refine r_aload_n hC 5 dX11_oneTick_207 rfl rfl ?_
            refine r_getI hC fl11_295 ob11 rfl dX11_oneTick_208 ?_
            refine r_icmp_le hC 219 dX11_oneTick_211 (by decide) (fun h252 => ?_) (fun h252 => ?_)
            · have hO := hO.1 h252
              refine r_aload_n hC 5 dX11_oneTick_219 rfl rfl ?_
              refine r_getI hC fl11_295 ob11 rfl dX11_oneTick_220 ?_
              refine r_putI hC fl11_295 ob11 rfl rfl rfl dX11_oneTick_223 ?_
              refine r_nmM (fun μ253 hμ253 => ?_)
              have hO := hO μ253 hμ253
              refine r_iload hC 3 dX11_oneTick_226 rfl ?_
              exact r_iret hC rfl dX11_oneTick_228 hO
            · have hO := hO.2 h252
              refine r_iload hC 0 dX11_oneTick_214 rfl ?_
              refine r_goto hC 223 dX11_oneTick_216 (by decide) ?_
              refine r_putI hC fl11_295 ob11 rfl rfl rfl dX11_oneTick_223 ?_
              refine r_nmM (fun μ254 hμ254 => ?_)
              have hO := hO μ254 hμ254
              refine r_iload hC 3 dX11_oneTick_226 rfl ?_
              exact r_iret hC rfl dX11_oneTick_228 hO
          · have hO := hO.2 h245
            refine r_iload hC 2 dX11_oneTick_169 rfl ?_
            refine r_iload_n hC 7 dX11_oneTick_171 rfl rfl ?_
            refine r_icmp_lt hC 180 dX11_oneTick_172 (by decide) (fun h255 => ?_) (fun h255 => ?_)
            · have hO := hO.1 h255
              refine r_aload_n hC 4 dX11_oneTick_180 rfl rfl ?_
              refine r_getI hC fl11_292 ob11 rfl dX11_oneTick_181 ?_
              refine r_putI hC fl11_292 ob11 rfl rfl rfl dX11_oneTick_184 ?_
              refine r_nmM (fun μ256 hμ256 => ?_)
              have hO := hO μ256 hμ256
              refine r_aload_n hC 4 dX11_oneTick_187 rfl rfl ?_
              refine r_getI hC fl11_257 ob11 rfl dX11_oneTick_188 ?_
              refine r_callSi hC [.int (μ256.1 0 39)] (T11_size  hO) yv11_size ml11_161 ⟨Nat.le_of_ble_eq_true rfl, Nat.le_of_ble_eq_true rfl⟩ rfl rfl (Nat.le_of_ble_eq_true rfl) dX11_oneTick_191 (fun r257 μ258 hO => ?_)
              obtain ⟨hO, hm⟩ := hO
              refine r_memEq hm ?_
              refine r_aload_n hC 4 dX11_oneTick_194 rfl rfl ?_
              refine r_getI hC fl11_263 ob11 rfl dX11_oneTick_195 ?_
              refine r_callSi hC [.int (μ256.1 0 40)] (T11_size  hO) yv11_size ml11_161 ⟨Nat.le_of_ble_eq_true rfl, Nat.le_of_ble_eq_true rfl⟩ rfl rfl (Nat.le_of_ble_eq_true rfl) dX11_oneTick_198 (fun r259 μ260 hO => ?_)
              obtain ⟨hO, hm⟩ := hO
              refine r_memEq hm ?_
              refine r_iadd hC dX11_oneTick_201 ?_
              refine r_nmI (fun x261 hx261 => ?_)
              have hO := hO x261 hx261
              refine r_istore hC [(11, .int x261), (10, .int r147), (9, .int r145), (8, .int r7), (7, .int r5), (0, .ref (mw_a G 0)), (1, .int p1), (2, .int p2), (3, .int p3), (4, .int p4), (5, .int p5), (6, .int p6)] dX11_oneTick_202 (by decide) rfl ?_
              refine r_aload_n hC 5 dX11_oneTick_204 rfl rfl ?_
              refine r_iload hC 0 dX11_oneTick_205 rfl ?_
              refine r_aload_n hC 5 dX11_oneTick_207 rfl rfl ?_
              refine r_getI hC fl11_295 ob11 rfl dX11_oneTick_208 ?_
              refine r_icmp_le hC 219 dX11_oneTick_211 (by decide) (fun h262 => ?_) (fun h262 => ?_)
              · have hO := hO.1 h262
                refine r_aload_n hC 5 dX11_oneTick_219 rfl rfl ?_
                refine r_getI hC fl11_295 ob11 rfl dX11_oneTick_220 ?_
                refine r_putI hC fl11_295 ob11 rfl rfl rfl dX11_oneTick_223 ?_
                refine r_nmM (fun μ263 hμ263 => ?_)
                have hO := hO μ263 hμ263
                refine r_iload hC 3 dX11_oneTick_226 rfl ?_
                exact r_iret hC rfl dX11_oneTick_228 hO
              · have hO := hO.2 h262
                refine r_iload hC 0 dX11_oneTick_214 rfl ?_
                refine r_goto hC 223 dX11_oneTick_216 (by decide) ?_
                refine r_putI hC fl11_295 ob11 rfl rfl rfl dX11_oneTick_223 ?_
                refine r_nmM (fun μ264 hμ264 => ?_)
                have hO := hO μ264 hμ264
                refine r_iload hC 3 dX11_oneTick_226 rfl ?_
                exact r_iret hC rfl dX11_oneTick_228 hO
            · have hO := hO.2 h255
              refine r_iload hC 8 dX11_oneTick_175 rfl ?_
              refine r_goto hC 184 dX11_oneTick_177 (by decide) ?_
              refine r_putI hC fl11_292 ob11 rfl rfl rfl dX11_oneTick_184 ?_
              refine r_nmM (fun μ265 hμ265 => ?_)
              have hO := hO μ265 hμ265
              refine r_aload_n hC 4 dX11_oneTick_187 rfl rfl ?_
              refine r_getI hC fl11_257 ob11 rfl dX11_oneTick_188 ?_
              refine r_callSi hC [.int (μ265.1 0 39)] (T11_size  hO) yv11_size ml11_161 ⟨Nat.le_of_ble_eq_true rfl, Nat.le_of_ble_eq_true rfl⟩ rfl rfl (Nat.le_of_ble_eq_true rfl) dX11_oneTick_191 (fun r266 μ267 hO => ?_)
              obtain ⟨hO, hm⟩ := hO
              refine r_memEq hm ?_
              refine r_aload_n hC 4 dX11_oneTick_194 rfl rfl ?_
              refine r_getI hC fl11_263 ob11 rfl dX11_oneTick_195 ?_
              refine r_callSi hC [.int (μ265.1 0 40)] (T11_size  hO) yv11_size ml11_161 ⟨Nat.le_of_ble_eq_true rfl, Nat.le_of_ble_eq_true rfl⟩ rfl rfl (Nat.le_of_ble_eq_true rfl) dX11_oneTick_198 (fun r268 μ269 hO => ?_)
              obtain ⟨hO, hm⟩ := hO
              refine r_memEq hm ?_
              refine r_iadd hC dX11_oneTick_201 ?_
              refine r_nmI (fun x270 hx270 => ?_)
              have hO := hO x270 hx270
              refine r_istore hC [(11, .int x270), (10, .int r147), (9, .int r145), (8, .int r7), (7, .int r5), (0, .ref (mw_a G 0)), (1, .int p1), (2, .int p2), (3, .int p3), (4, .int p4), (5, .int p5), (6, .int p6)] dX11_oneTick_202 (by decide) rfl ?_
              refine r_aload_n hC 5 dX11_oneTick_204 rfl rfl ?_
              refine r_iload hC 0 dX11_oneTick_205 rfl ?_
              refine r_aload_n hC 5 dX11_oneTick_207 rfl rfl ?_
              refine r_getI hC fl11_295 ob11 rfl dX11_oneTick_208 ?_
              refine r_icmp_le hC 219 dX11_oneTick_211 (by decide) (fun h271 => ?_) (fun h271 => ?_)
              · have hO := hO.1 h271
                refine r_aload_n hC 5 dX11_oneTick_219 rfl rfl ?_
                refine r_getI hC fl11_295 ob11 rfl dX11_oneTick_220 ?_
                refine r_putI hC fl11_295 ob11 rfl rfl rfl dX11_oneTick_223 ?_
                refine r_nmM (fun μ272 hμ272 => ?_)
                have hO := hO μ272 hμ272
                refine r_iload hC 3 dX11_oneTick_226 rfl ?_
                exact r_iret hC rfl dX11_oneTick_228 hO
              · have hO := hO.2 h271
                refine r_iload hC 0 dX11_oneTick_214 rfl ?_
                refine r_goto hC 223 dX11_oneTick_216 (by decide) ?_
                refine r_putI hC fl11_295 ob11 rfl rfl rfl dX11_oneTick_223 ?_
                refine r_nmM (fun μ273 hμ273 => ?_)
                have hO := hO μ273 hμ273
                refine r_iload hC 3 dX11_oneTick_226 rfl ?_
                exact r_iret hC rfl dX11_oneTick_228 hO
    · have hO := hO.2 h142
      refine r_iconst hC 0 dX11_oneTick_62 (by decide) ?_
      refine r_goto hC 67 dX11_oneTick_63 (by decide) ?_
      refine r_iadd hC dX11_oneTick_67 ?_
      refine r_putI hC fl11_272 ob11 rfl rfl rfl dX11_oneTick_68 ?_
      refine r_nmM (fun μ274 hμ274 => ?_)
      have hO := hO μ274 hμ274
      refine r_aload_n hC 2 dX11_oneTick_71 rfl rfl ?_
      refine r_iconst hC 0 dX11_oneTick_72 (by decide) ?_
      refine r_putI hC fl11_269 ob11 rfl rfl rfl dX11_oneTick_73 ?_
      refine r_nmM (fun μ275 hμ275 => ?_)
      have hO := hO μ275 hμ275
      refine r_goto hC 105 dX11_oneTick_76 (by decide) ?_
      refine r_aload_n hC 2 dX11_oneTick_105 rfl rfl ?_
      refine r_callVi hC [] (T11_lopsided  hO) yv11_lopsided ml11_167 ob11 rfl ⟨Nat.le_of_ble_eq_true rfl, Nat.le_of_ble_eq_true rfl⟩ rfl rfl (Nat.le_of_ble_eq_true rfl) dX11_oneTick_106 (fun r276 μ277 hO => ?_)
      obtain ⟨hO, hm⟩ := hO
      refine r_memEq hm ?_
      refine r_istore hC [(9, .int r276), (8, .int r7), (7, .int r5), (0, .ref (mw_a G 0)), (1, .int p1), (2, .int p2), (3, .int p3), (4, .int p4), (5, .int p5), (6, .int p6)] dX11_oneTick_109 (by decide) rfl ?_
      refine r_aload_n hC 3 dX11_oneTick_111 rfl rfl ?_
      refine r_iload hC 0 dX11_oneTick_112 rfl ?_
      refine r_iload hC 1 dX11_oneTick_114 rfl ?_
      refine r_callVi hC [.int r276, .int r7] (T11_shakeOf  hO) yv11_shakeOf ml11_182 ob11 rfl ⟨Nat.le_of_ble_eq_true rfl, Nat.le_of_ble_eq_true rfl⟩ rfl rfl (Nat.le_of_ble_eq_true rfl) dX11_oneTick_116 (fun r278 μ279 hO => ?_)
      obtain ⟨hO, hm⟩ := hO
      refine r_memEq hm ?_
      refine r_istore hC [(10, .int r278), (9, .int r276), (8, .int r7), (7, .int r5), (0, .ref (mw_a G 0)), (1, .int p1), (2, .int p2), (3, .int p3), (4, .int p4), (5, .int p5), (6, .int p6)] dX11_oneTick_119 (by decide) rfl ?_
      refine r_aload_n hC 4 dX11_oneTick_121 rfl rfl ?_
      refine r_dup hC dX11_oneTick_122 rfl ?_
      refine r_getI hC fl11_285 ob11 rfl dX11_oneTick_123 ?_
      refine r_iload hC 0 dX11_oneTick_126 rfl ?_
      refine r_sipush hC 500 dX11_oneTick_128 (by decide) ?_
      refine r_icmp_le hC 138 dX11_oneTick_131 (by decide) (fun h280 => ?_) (fun h280 => ?_)
      · have hO := hO.1 h280
        refine r_iconst hC 0 dX11_oneTick_138 (by decide) ?_
        refine r_iadd hC dX11_oneTick_139 ?_
        refine r_putI hC fl11_285 ob11 rfl rfl rfl dX11_oneTick_140 ?_
        refine r_nmM (fun μ281 hμ281 => ?_)
        have hO := hO μ281 hμ281
        refine r_iload hC 0 dX11_oneTick_143 rfl ?_
        refine r_aload_n hC 4 dX11_oneTick_145 rfl rfl ?_
        refine r_getR hC 7 fl11_28 ob11 rfl dX11_oneTick_146 ?_
        refine r_iload_n hC 6 dX11_oneTick_149 rfl rfl ?_
        obtain ⟨g282, hO⟩ := hO
        refine r_iald hC sh11_10 g282 p2.toNatClampNeg rfl dX11_oneTick_150 ?_
        refine r_icmp_le hC 161 dX11_oneTick_151 (by decide) (fun h283 => ?_) (fun h283 => ?_)
        · have hO := hO.1 h283
          refine r_aload_n hC 4 dX11_oneTick_161 rfl rfl ?_
          refine r_aload_n hC 4 dX11_oneTick_162 rfl rfl ?_
          refine r_getI hC fl11_292 ob11 rfl dX11_oneTick_163 ?_
          refine r_if_ge hC 180 dX11_oneTick_166 (by decide) (fun h284 => ?_) (fun h284 => ?_)
          · have hO := hO.1 h284
            refine r_aload_n hC 4 dX11_oneTick_180 rfl rfl ?_
            refine r_getI hC fl11_292 ob11 rfl dX11_oneTick_181 ?_
            refine r_putI hC fl11_292 ob11 rfl rfl rfl dX11_oneTick_184 ?_
            refine r_nmM (fun μ285 hμ285 => ?_)
            have hO := hO μ285 hμ285
            refine r_aload_n hC 4 dX11_oneTick_187 rfl rfl ?_
            refine r_getI hC fl11_257 ob11 rfl dX11_oneTick_188 ?_
            refine r_callSi hC [.int (μ285.1 0 39)] (T11_size  hO) yv11_size ml11_161 ⟨Nat.le_of_ble_eq_true rfl, Nat.le_of_ble_eq_true rfl⟩ rfl rfl (Nat.le_of_ble_eq_true rfl) dX11_oneTick_191 (fun r286 μ287 hO => ?_)
            obtain ⟨hO, hm⟩ := hO
            refine r_memEq hm ?_
            refine r_aload_n hC 4 dX11_oneTick_194 rfl rfl ?_
            refine r_getI hC fl11_263 ob11 rfl dX11_oneTick_195 ?_
            refine r_callSi hC [.int (μ285.1 0 40)] (T11_size  hO) yv11_size ml11_161 ⟨Nat.le_of_ble_eq_true rfl, Nat.le_of_ble_eq_true rfl⟩ rfl rfl (Nat.le_of_ble_eq_true rfl) dX11_oneTick_198 (fun r288 μ289 hO => ?_)
            obtain ⟨hO, hm⟩ := hO
            refine r_memEq hm ?_
            refine r_iadd hC dX11_oneTick_201 ?_
            refine r_nmI (fun x290 hx290 => ?_)
            have hO := hO x290 hx290
            refine r_istore hC [(11, .int x290), (10, .int r278), (9, .int r276), (8, .int r7), (7, .int r5), (0, .ref (mw_a G 0)), (1, .int p1), (2, .int p2), (3, .int p3), (4, .int p4), (5, .int p5), (6, .int p6)] dX11_oneTick_202 (by decide) rfl ?_
            refine r_aload_n hC 5 dX11_oneTick_204 rfl rfl ?_
            refine r_iload hC 0 dX11_oneTick_205 rfl ?_
            refine r_aload_n hC 5 dX11_oneTick_207 rfl rfl ?_
            refine r_getI hC fl11_295 ob11 rfl dX11_oneTick_208 ?_
            refine r_icmp_le hC 219 dX11_oneTick_211 (by decide) (fun h291 => ?_) (fun h291 => ?_)
            · have hO := hO.1 h291
              refine r_aload_n hC 5 dX11_oneTick_219 rfl rfl ?_
              refine r_getI hC fl11_295 ob11 rfl dX11_oneTick_220 ?_
              refine r_putI hC fl11_295 ob11 rfl rfl rfl dX11_oneTick_223 ?_
              refine r_nmM (fun μ292 hμ292 => ?_)
              have hO := hO μ292 hμ292
              refine r_iload hC 3 dX11_oneTick_226 rfl ?_
              exact r_iret hC rfl dX11_oneTick_228 hO
            · have hO := hO.2 h291
              refine r_iload hC 0 dX11_oneTick_214 rfl ?_
              refine r_goto hC 223 dX11_oneTick_216 (by decide) ?_
              refine r_putI hC fl11_295 ob11 rfl rfl rfl dX11_oneTick_223 ?_
              refine r_nmM (fun μ293 hμ293 => ?_)
              have hO := hO μ293 hμ293
              refine r_iload hC 3 dX11_oneTick_226 rfl ?_
              exact r_iret hC rfl dX11_oneTick_228 hO
          · have hO := hO.2 h284
            refine r_iload hC 2 dX11_oneTick_169 rfl ?_
            refine r_iload_n hC 7 dX11_oneTick_171 rfl rfl ?_
            refine r_icmp_lt hC 180 dX11_oneTick_172 (by decide) (fun h294 => ?_) (fun h294 => ?_)
            · have hO := hO.1 h294
              refine r_aload_n hC 4 dX11_oneTick_180 rfl rfl ?_
              refine r_getI hC fl11_292 ob11 rfl dX11_oneTick_181 ?_
              refine r_putI hC fl11_292 ob11 rfl rfl rfl dX11_oneTick_184 ?_
              refine r_nmM (fun μ295 hμ295 => ?_)
              have hO := hO μ295 hμ295
              refine r_aload_n hC 4 dX11_oneTick_187 rfl rfl ?_
              refine r_getI hC fl11_257 ob11 rfl dX11_oneTick_188 ?_
              refine r_callSi hC [.int (μ295.1 0 39)] (T11_size  hO) yv11_size ml11_161 ⟨Nat.le_of_ble_eq_true rfl, Nat.le_of_ble_eq_true rfl⟩ rfl rfl (Nat.le_of_ble_eq_true rfl) dX11_oneTick_191 (fun r296 μ297 hO => ?_)
              obtain ⟨hO, hm⟩ := hO
              refine r_memEq hm ?_
              refine r_aload_n hC 4 dX11_oneTick_194 rfl rfl ?_
              refine r_getI hC fl11_263 ob11 rfl dX11_oneTick_195 ?_
              refine r_callSi hC [.int (μ295.1 0 40)] (T11_size  hO) yv11_size ml11_161 ⟨Nat.le_of_ble_eq_true rfl, Nat.le_of_ble_eq_true rfl⟩ rfl rfl (Nat.le_of_ble_eq_true rfl) dX11_oneTick_198 (fun r298 μ299 hO => ?_)
              obtain ⟨hO, hm⟩ := hO
              refine r_memEq hm ?_
              refine r_iadd hC dX11_oneTick_201 ?_
              refine r_nmI (fun x300 hx300 => ?_)
              have hO := hO x300 hx300
              refine r_istore hC [(11, .int x300), (10, .int r278), (9, .int r276), (8, .int r7), (7, .int r5), (0, .ref (mw_a G 0)), (1, .int p1), (2, .int p2), (3, .int p3), (4, .int p4), (5, .int p5), (6, .int p6)] dX11_oneTick_202 (by decide) rfl ?_
              refine r_aload_n hC 5 dX11_oneTick_204 rfl rfl ?_
              refine r_iload hC 0 dX11_oneTick_205 rfl ?_
              refine r_aload_n hC 5 dX11_oneTick_207 rfl rfl ?_
              refine r_getI hC fl11_295 ob11 rfl dX11_oneTick_208 ?_
              refine r_icmp_le hC 219 dX11_oneTick_211 (by decide) (fun h301 => ?_) (fun h301 => ?_)
              · have hO := hO.1 h301
                refine r_aload_n hC 5 dX11_oneTick_219 rfl rfl ?_
                refine r_getI hC fl11_295 ob11 rfl dX11_oneTick_220 ?_
                refine r_putI hC fl11_295 ob11 rfl rfl rfl dX11_oneTick_223 ?_
                refine r_nmM (fun μ302 hμ302 => ?_)
                have hO := hO μ302 hμ302
                refine r_iload hC 3 dX11_oneTick_226 rfl ?_
                exact r_iret hC rfl dX11_oneTick_228 hO
              · have hO := hO.2 h301
                refine r_iload hC 0 dX11_oneTick_214 rfl ?_
                refine r_goto hC 223 dX11_oneTick_216 (by decide) ?_
                refine r_putI hC fl11_295 ob11 rfl rfl rfl dX11_oneTick_223 ?_
                refine r_nmM (fun μ303 hμ303 => ?_)
                have hO := hO μ303 hμ303
                refine r_iload hC 3 dX11_oneTick_226 rfl ?_
                exact r_iret hC rfl dX11_oneTick_228 hO
            · have hO := hO.2 h294
              refine r_iload hC 8 dX11_oneTick_175 rfl ?_
              refine r_goto hC 184 dX11_oneTick_177 (by decide) ?_
              refine r_putI hC fl11_292 ob11 rfl rfl rfl dX11_oneTick_184 ?_
              refine r_nmM (fun μ304 hμ304 => ?_)
              have hO := hO μ304 hμ304
              refine r_aload_n hC 4 dX11_oneTick_187 rfl rfl ?_
              refine r_getI hC fl11_257 ob11 rfl dX11_oneTick_188 ?_
              refine r_callSi hC [.int (μ304.1 0 39)] (T11_size  hO) yv11_size ml11_161 ⟨Nat.le_of_ble_eq_true rfl, Nat.le_of_ble_eq_true rfl⟩ rfl rfl (Nat.le_of_ble_eq_true rfl) dX11_oneTick_191 (fun r305 μ306 hO => ?_)
              obtain ⟨hO, hm⟩ := hO
              refine r_memEq hm ?_
              refine r_aload_n hC 4 dX11_oneTick_194 rfl rfl ?_
              refine r_getI hC fl11_263 ob11 rfl dX11_oneTick_195 ?_
              refine r_callSi hC [.int (μ304.1 0 40)] (T11_size  hO) yv11_size ml11_161 ⟨Nat.le_of_ble_eq_true rfl, Nat.le_of_ble_eq_true rfl⟩ rfl rfl (Nat.le_of_ble_eq_true rfl) dX11_oneTick_198 (fun r307 μ308 hO => ?_)
              obtain ⟨hO, hm⟩ := hO
              refine r_memEq hm ?_
              refine r_iadd hC dX11_oneTick_201 ?_
              refine r_nmI (fun x309 hx309 => ?_)
              have hO := hO x309 hx309
              refine r_istore hC [(11, .int x309), (10, .int r278), (9, .int r276), (8, .int r7), (7, .int r5), (0, .ref (mw_a G 0)), (1, .int p1), (2, .int p2), (3, .int p3), (4, .int p4), (5, .int p5), (6, .int p6)] dX11_oneTick_202 (by decide) rfl ?_
              refine r_aload_n hC 5 dX11_oneTick_204 rfl rfl ?_
              refine r_iload hC 0 dX11_oneTick_205 rfl ?_
              refine r_aload_n hC 5 dX11_oneTick_207 rfl rfl ?_
              refine r_getI hC fl11_295 ob11 rfl dX11_oneTick_208 ?_
              refine r_icmp_le hC 219 dX11_oneTick_211 (by decide) (fun h310 => ?_) (fun h310 => ?_)
              · have hO := hO.1 h310
                refine r_aload_n hC 5 dX11_oneTick_219 rfl rfl ?_
                refine r_getI hC fl11_295 ob11 rfl dX11_oneTick_220 ?_
                refine r_putI hC fl11_295 ob11 rfl rfl rfl dX11_oneTick_223 ?_
                refine r_nmM (fun μ311 hμ311 => ?_)
                have hO := hO μ311 hμ311
                refine r_iload hC 3 dX11_oneTick_226 rfl ?_
                exact r_iret hC rfl dX11_oneTick_228 hO
              · have hO := hO.2 h310
                refine r_iload hC 0 dX11_oneTick_214 rfl ?_
                refine r_goto hC 223 dX11_oneTick_216 (by decide) ?_
                refine r_putI hC fl11_295 ob11 rfl rfl rfl dX11_oneTick_223 ?_
                refine r_nmM (fun μ312 hμ312 => ?_)
                have hO := hO μ312 hμ312
                refine r_iload hC 3 dX11_oneTick_226 rfl ?_
                exact r_iret hC rfl dX11_oneTick_228 hO
        · have hO := hO.2 h283
          refine r_aload_n hC 4 dX11_oneTick_154 rfl rfl ?_
          refine r_iload_n hC 6 dX11_oneTick_155 rfl rfl ?_
          refine r_iload hC 0 dX11_oneTick_156 rfl ?_
          refine r_callVv hC [.int p2, .int r278] (T11_hopsOn  hO) yv11_hopsOn ml11_288 ob11 rfl ⟨Nat.le_of_ble_eq_true rfl, Nat.le_of_ble_eq_true rfl⟩ rfl rfl (Nat.le_of_ble_eq_true rfl) dX11_oneTick_158 (fun μ313 hO => ?_)
          refine r_aload_n hC 4 dX11_oneTick_161 rfl rfl ?_
          refine r_aload_n hC 4 dX11_oneTick_162 rfl rfl ?_
          refine r_getI hC fl11_292 ob11 rfl dX11_oneTick_163 ?_
          refine r_if_ge hC 180 dX11_oneTick_166 (by decide) (fun h314 => ?_) (fun h314 => ?_)
          · have hO := hO.1 h314
            refine r_aload_n hC 4 dX11_oneTick_180 rfl rfl ?_
            refine r_getI hC fl11_292 ob11 rfl dX11_oneTick_181 ?_
            refine r_putI hC fl11_292 ob11 rfl rfl rfl dX11_oneTick_184 ?_
            refine r_nmM (fun μ315 hμ315 => ?_)
            have hO := hO μ315 hμ315
            refine r_aload_n hC 4 dX11_oneTick_187 rfl rfl ?_
            refine r_getI hC fl11_257 ob11 rfl dX11_oneTick_188 ?_
            refine r_callSi hC [.int (μ315.1 0 39)] (T11_size  hO) yv11_size ml11_161 ⟨Nat.le_of_ble_eq_true rfl, Nat.le_of_ble_eq_true rfl⟩ rfl rfl (Nat.le_of_ble_eq_true rfl) dX11_oneTick_191 (fun r316 μ317 hO => ?_)
            obtain ⟨hO, hm⟩ := hO
            refine r_memEq hm ?_
            refine r_aload_n hC 4 dX11_oneTick_194 rfl rfl ?_
            refine r_getI hC fl11_263 ob11 rfl dX11_oneTick_195 ?_
            refine r_callSi hC [.int (μ315.1 0 40)] (T11_size  hO) yv11_size ml11_161 ⟨Nat.le_of_ble_eq_true rfl, Nat.le_of_ble_eq_true rfl⟩ rfl rfl (Nat.le_of_ble_eq_true rfl) dX11_oneTick_198 (fun r318 μ319 hO => ?_)
            obtain ⟨hO, hm⟩ := hO
            refine r_memEq hm ?_
            refine r_iadd hC dX11_oneTick_201 ?_
            refine r_nmI (fun x320 hx320 => ?_)
            have hO := hO x320 hx320
            refine r_istore hC [(11, .int x320), (10, .int r278), (9, .int r276), (8, .int r7), (7, .int r5), (0, .ref (mw_a G 0)), (1, .int p1), (2, .int p2), (3, .int p3), (4, .int p4), (5, .int p5), (6, .int p6)] dX11_oneTick_202 (by decide) rfl ?_
            refine r_aload_n hC 5 dX11_oneTick_204 rfl rfl ?_
            refine r_iload hC 0 dX11_oneTick_205 rfl ?_
            refine r_aload_n hC 5 dX11_oneTick_207 rfl rfl ?_
            refine r_getI hC fl11_295 ob11 rfl dX11_oneTick_208 ?_
            refine r_icmp_le hC 219 dX11_oneTick_211 (by decide) (fun h321 => ?_) (fun h321 => ?_)
            · have hO := hO.1 h321
              refine r_aload_n hC 5 dX11_oneTick_219 rfl rfl ?_
              refine r_getI hC fl11_295 ob11 rfl dX11_oneTick_220 ?_
              refine r_putI hC fl11_295 ob11 rfl rfl rfl dX11_oneTick_223 ?_
              refine r_nmM (fun μ322 hμ322 => ?_)
              have hO := hO μ322 hμ322
              refine r_iload hC 3 dX11_oneTick_226 rfl ?_
              exact r_iret hC rfl dX11_oneTick_228 hO
            · have hO := hO.2 h321
              refine r_iload hC 0 dX11_oneTick_214 rfl ?_
              refine r_goto hC 223 dX11_oneTick_216 (by decide) ?_
              refine r_putI hC fl11_295 ob11 rfl rfl rfl dX11_oneTick_223 ?_
              refine r_nmM (fun μ323 hμ323 => ?_)
              have hO := hO μ323 hμ323
              refine r_iload hC 3 dX11_oneTick_226 rfl ?_
              exact r_iret hC rfl dX11_oneTick_228 hO
          · have hO := hO.2 h314
            refine r_iload hC 2 dX11_oneTick_169 rfl ?_
            refine r_iload_n hC 7 dX11_oneTick_171 rfl rfl ?_
            refine r_icmp_lt hC 180 dX11_oneTick_172 (by decide) (fun h324 => ?_) (fun h324 => ?_)
            · have hO := hO.1 h324
              refine r_aload_n hC 4 dX11_oneTick_180 rfl rfl ?_
              refine r_getI hC fl11_292 ob11 rfl dX11_oneTick_181 ?_
              refine r_putI hC fl11_292 ob11 rfl rfl rfl dX11_oneTick_184 ?_
              refine r_nmM (fun μ325 hμ325 => ?_)
              have hO := hO μ325 hμ325
              refine r_aload_n hC 4 dX11_oneTick_187 rfl rfl ?_
              refine r_getI hC fl11_257 ob11 rfl dX11_oneTick_188 ?_
              refine r_callSi hC [.int (μ325.1 0 39)] (T11_size  hO) yv11_size ml11_161 ⟨Nat.le_of_ble_eq_true rfl, Nat.le_of_ble_eq_true rfl⟩ rfl rfl (Nat.le_of_ble_eq_true rfl) dX11_oneTick_191 (fun r326 μ327 hO => ?_)
              obtain ⟨hO, hm⟩ := hO
              refine r_memEq hm ?_
              refine r_aload_n hC 4 dX11_oneTick_194 rfl rfl ?_
              refine r_getI hC fl11_263 ob11 rfl dX11_oneTick_195 ?_
              refine r_callSi hC [.int (μ325.1 0 40)] (T11_size  hO) yv11_size ml11_161 ⟨Nat.le_of_ble_eq_true rfl, Nat.le_of_ble_eq_true rfl⟩ rfl rfl (Nat.le_of_ble_eq_true rfl) dX11_oneTick_198 (fun r328 μ329 hO => ?_)
              obtain ⟨hO, hm⟩ := hO
              refine r_memEq hm ?_
              refine r_iadd hC dX11_oneTick_201 ?_
              refine r_nmI (fun x330 hx330 => ?_)
              have hO := hO x330 hx330
              refine r_istore hC [(11, .int x330), (10, .int r278), (9, .int r276), (8, .int r7), (7, .int r5), (0, .ref (mw_a G 0)), (1, .int p1), (2, .int p2), (3, .int p3), (4, .int p4), (5, .int p5), (6, .int p6)] dX11_oneTick_202 (by decide) rfl ?_
              refine r_aload_n hC 5 dX11_oneTick_204 rfl rfl ?_
              refine r_iload hC 0 dX11_oneTick_205 rfl ?_
              refine r_aload_n hC 5 dX11_oneTick_207 rfl rfl ?_
              refine r_getI hC fl11_295 ob11 rfl dX11_oneTick_208 ?_
              refine r_icmp_le hC 219 dX11_oneTick_211 (by decide) (fun h331 => ?_) (fun h331 => ?_)
              · have hO := hO.1 h331
                refine r_aload_n hC 5 dX11_oneTick_219 rfl rfl ?_
                refine r_getI hC fl11_295 ob11 rfl dX11_oneTick_220 ?_
                refine r_putI hC fl11_295 ob11 rfl rfl rfl dX11_oneTick_223 ?_
                refine r_nmM (fun μ332 hμ332 => ?_)
                have hO := hO μ332 hμ332
                refine r_iload hC 3 dX11_oneTick_226 rfl ?_
                exact r_iret hC rfl dX11_oneTick_228 hO
              · have hO := hO.2 h331
                refine r_iload hC 0 dX11_oneTick_214 rfl ?_
                refine r_goto hC 223 dX11_oneTick_216 (by decide) ?_
                refine r_putI hC fl11_295 ob11 rfl rfl rfl dX11_oneTick_223 ?_
                refine r_nmM (fun μ333 hμ333 => ?_)
                have hO := hO μ333 hμ333
                refine r_iload hC 3 dX11_oneTick_226 rfl ?_
                exact r_iret hC rfl dX11_oneTick_228 hO
            · have hO := hO.2 h324
              refine r_iload hC 8 dX11_oneTick_175 rfl ?_
              refine r_goto hC 184 dX11_oneTick_177 (by decide) ?_
              refine r_putI hC fl11_292 ob11 rfl rfl rfl dX11_oneTick_184 ?_
              refine r_nmM (fun μ334 hμ334 => ?_)
              have hO := hO μ334 hμ334
              refine r_aload_n hC 4 dX11_oneTick_187 rfl rfl ?_
              refine r_getI hC fl11_257 ob11 rfl dX11_oneTick_188 ?_
              refine r_callSi hC [.int (μ334.1 0 39)] (T11_size  hO) yv11_size ml11_161 ⟨Nat.le_of_ble_eq_true rfl, Nat.le_of_ble_eq_true rfl⟩ rfl rfl (Nat.le_of_ble_eq_true rfl) dX11_oneTick_191 (fun r335 μ336 hO => ?_)
              obtain ⟨hO, hm⟩ := hO
              refine r_memEq hm ?_
              refine r_aload_n hC 4 dX11_oneTick_194 rfl rfl ?_
              refine r_getI hC fl11_263 ob11 rfl dX11_oneTick_195 ?_
              refine r_callSi hC [.int (μ334.1 0 40)] (T11_size  hO) yv11_size ml11_161 ⟨Nat.le_of_ble_eq_true rfl, Nat.le_of_ble_eq_true rfl⟩ rfl rfl (Nat.le_of_ble_eq_true rfl) dX11_oneTick_198 (fun r337 μ338 hO => ?_)
              obtain ⟨hO, hm⟩ := hO
              refine r_memEq hm ?_
              refine r_iadd hC dX11_oneTick_201 ?_
              refine r_nmI (fun x339 hx339 => ?_)
              have hO := hO x339 hx339
              refine r_istore hC [(11, .int x339), (10, .int r278), (9, .int r276), (8, .int r7), (7, .int r5), (0, .ref (mw_a G 0)), (1, .int p1), (2, .int p2), (3, .int p3), (4, .int p4), (5, .int p5), (6, .int p6)] dX11_oneTick_202 (by decide) rfl ?_
              refine r_aload_n hC 5 dX11_oneTick_204 rfl rfl ?_
              refine r_iload hC 0 dX11_oneTick_205 rfl ?_
              refine r_aload_n hC 5 dX11_oneTick_207 rfl rfl ?_
              refine r_getI hC fl11_295 ob11 rfl dX11_oneTick_208 ?_
              refine r_icmp_le hC 219 dX11_oneTick_211 (by decide) (fun h340 => ?_) (fun h340 => ?_)
              · have hO := hO.1 h340
                refine r_aload_n hC 5 dX11_oneTick_219 rfl rfl ?_
                refine r_getI hC fl11_295 ob11 rfl dX11_oneTick_220 ?_
                refine r_putI hC fl11_295 ob11 rfl rfl rfl dX11_oneTick_223 ?_
                refine r_nmM (fun μ341 hμ341 => ?_)
                have hO := hO μ341 hμ341
                refine r_iload hC 3 dX11_oneTick_226 rfl ?_
                exact r_iret hC rfl dX11_oneTick_228 hO
              · have hO := hO.2 h340
                refine r_iload hC 0 dX11_oneTick_214 rfl ?_
                refine r_goto hC 223 dX11_oneTick_216 (by decide) ?_
                refine r_putI hC fl11_295 ob11 rfl rfl rfl dX11_oneTick_223 ?_
                refine r_nmM (fun μ342 hμ342 => ?_)
                have hO := hO μ342 hμ342
                refine r_iload hC 3 dX11_oneTick_226 rfl ?_
                exact r_iret hC rfl dX11_oneTick_228 hO
      · have hO := hO.2 h280
        refine r_iconst hC 1 dX11_oneTick_134 (by decide) ?_
        refine r_goto hC 139 dX11_oneTick_135 (by decide) ?_
        refine r_iadd hC dX11_oneTick_139 ?_
        refine r_putI hC fl11_285 ob11 rfl rfl rfl dX11_oneTick_140 ?_
        refine r_nmM (fun μ343 hμ343 => ?_)
        have hO := hO μ343 hμ343
        refine r_iload hC 0 dX11_oneTick_143 rfl ?_
        refine r_aload_n hC 4 dX11_oneTick_145 rfl rfl ?_
        refine r_getR hC 7 fl11_28 ob11 rfl dX11_oneTick_146 ?_
        refine r_iload_n hC 6 dX11_oneTick_149 rfl rfl ?_
        obtain ⟨g344, hO⟩ := hO
        refine r_iald hC sh11_10 g344 p2.toNatClampNeg rfl dX11_oneTick_150 ?_
        refine r_icmp_le hC 161 dX11_oneTick_151 (by decide) (fun h345 => ?_) (fun h345 => ?_)
        · have hO := hO.1 h345
          refine r_aload_n hC 4 dX11_oneTick_161 rfl rfl ?_
          refine r_aload_n hC 4 dX11_oneTick_162 rfl rfl ?_
          refine r_getI hC fl11_292 ob11 rfl dX11_oneTick_163 ?_
          refine r_if_ge hC 180 dX11_oneTick_166 (by decide) (fun h346 => ?_) (fun h346 => ?_)
          · have hO := hO.1 h346
            refine r_aload_n hC 4 dX11_oneTick_180 rfl rfl ?_
            refine r_getI hC fl11_292 ob11 rfl dX11_oneTick_181 ?_
            refine r_putI hC fl11_292 ob11 rfl rfl rfl dX11_oneTick_184 ?_
            refine r_nmM (fun μ347 hμ347 => ?_)
            have hO := hO μ347 hμ347
            refine r_aload_n hC 4 dX11_oneTick_187 rfl rfl ?_
            refine r_getI hC fl11_257 ob11 rfl dX11_oneTick_188 ?_
            refine r_callSi hC [.int (μ347.1 0 39)] (T11_size  hO) yv11_size ml11_161 ⟨Nat.le_of_ble_eq_true rfl, Nat.le_of_ble_eq_true rfl⟩ rfl rfl (Nat.le_of_ble_eq_true rfl) dX11_oneTick_191 (fun r348 μ349 hO => ?_)
            obtain ⟨hO, hm⟩ := hO
            refine r_memEq hm ?_
            refine r_aload_n hC 4 dX11_oneTick_194 rfl rfl ?_
            refine r_getI hC fl11_263 ob11 rfl dX11_oneTick_195 ?_
            refine r_callSi hC [.int (μ347.1 0 40)] (T11_size  hO) yv11_size ml11_161 ⟨Nat.le_of_ble_eq_true rfl, Nat.le_of_ble_eq_true rfl⟩ rfl rfl (Nat.le_of_ble_eq_true rfl) dX11_oneTick_198 (fun r350 μ351 hO => ?_)
            obtain ⟨hO, hm⟩ := hO
            refine r_memEq hm ?_
            refine r_iadd hC dX11_oneTick_201 ?_
            refine r_nmI (fun x352 hx352 => ?_)
            have hO := hO x352 hx352
            refine r_istore hC [(11, .int x352), (10, .int r278), (9, .int r276), (8, .int r7), (7, .int r5), (0, .ref (mw_a G 0)), (1, .int p1), (2, .int p2), (3, .int p3), (4, .int p4), (5, .int p5), (6, .int p6)] dX11_oneTick_202 (by decide) rfl ?_
            refine r_aload_n hC 5 dX11_oneTick_204 rfl rfl ?_
            refine r_iload hC 0 dX11_oneTick_205 rfl ?_
            refine r_aload_n hC 5 dX11_oneTick_207 rfl rfl ?_
            refine r_getI hC fl11_295 ob11 rfl dX11_oneTick_208 ?_
            refine r_icmp_le hC 219 dX11_oneTick_211 (by decide) (fun h353 => ?_) (fun h353 => ?_)
            · have hO := hO.1 h353
              refine r_aload_n hC 5 dX11_oneTick_219 rfl rfl ?_
              refine r_getI hC fl11_295 ob11 rfl dX11_oneTick_220 ?_
              refine r_putI hC fl11_295 ob11 rfl rfl rfl dX11_oneTick_223 ?_
              refine r_nmM (fun μ354 hμ354 => ?_)
              have hO := hO μ354 hμ354
              refine r_iload hC 3 dX11_oneTick_226 rfl ?_
              exact r_iret hC rfl dX11_oneTick_228 hO
            · have hO := hO.2 h353
              refine r_iload hC 0 dX11_oneTick_214 rfl ?_
              refine r_goto hC 223 dX11_oneTick_216 (by decide) ?_
              refine r_putI hC fl11_295 ob11 rfl rfl rfl dX11_oneTick_223 ?_
              refine r_nmM (fun μ355 hμ355 => ?_)
              have hO := hO μ355 hμ355
              refine r_iload hC 3 dX11_oneTick_226 rfl ?_
              exact r_iret hC rfl dX11_oneTick_228 hO
          · have hO := hO.2 h346
            refine r_iload hC 2 dX11_oneTick_169 rfl ?_
            refine r_iload_n hC 7 dX11_oneTick_171 rfl rfl ?_
            refine r_icmp_lt hC 180 dX11_oneTick_172 (by decide) (fun h356 => ?_) (fun h356 => ?_)
            · have hO := hO.1 h356
              refine r_aload_n hC 4 dX11_oneTick_180 rfl rfl ?_
              refine r_getI hC fl11_292 ob11 rfl dX11_oneTick_181 ?_
              refine r_putI hC fl11_292 ob11 rfl rfl rfl dX11_oneTick_184 ?_
              refine r_nmM (fun μ357 hμ357 => ?_)
              have hO := hO μ357 hμ357
              refine r_aload_n hC 4 dX11_oneTick_187 rfl rfl ?_
              refine r_getI hC fl11_257 ob11 rfl dX11_oneTick_188 ?_
              refine r_callSi hC [.int (μ357.1 0 39)] (T11_size  hO) yv11_size ml11_161 ⟨Nat.le_of_ble_eq_true rfl, Nat.le_of_ble_eq_true rfl⟩ rfl rfl (Nat.le_of_ble_eq_true rfl) dX11_oneTick_191 (fun r358 μ359 hO => ?_)
              obtain ⟨hO, hm⟩ := hO
              refine r_memEq hm ?_
              refine r_aload_n hC 4 dX11_oneTick_194 rfl rfl ?_
              refine r_getI hC fl11_263 ob11 rfl dX11_oneTick_195 ?_
              refine r_callSi hC [.int (μ357.1 0 40)] (T11_size  hO) yv11_size ml11_161 ⟨Nat.le_of_ble_eq_true rfl, Nat.le_of_ble_eq_true rfl⟩ rfl rfl (Nat.le_of_ble_eq_true rfl) dX11_oneTick_198 (fun r360 μ361 hO => ?_)
              obtain ⟨hO, hm⟩ := hO
              refine r_memEq hm ?_
              refine r_iadd hC dX11_oneTick_201 ?_
              refine r_nmI (fun x362 hx362 => ?_)
              have hO := hO x362 hx362
              refine r_istore hC [(11, .int x362), (10, .int r278), (9, .int r276), (8, .int r7), (7, .int r5), (0, .ref (mw_a G 0)), (1, .int p1), (2, .int p2), (3, .int p3), (4, .int p4), (5, .int p5), (6, .int p6)] dX11_oneTick_202 (by decide) rfl ?_
              refine r_aload_n hC 5 dX11_oneTick_204 rfl rfl ?_
              refine r_iload hC 0 dX11_oneTick_205 rfl ?_
              refine r_aload_n hC 5 dX11_oneTick_207 rfl rfl ?_
              refine r_getI hC fl11_295 ob11 rfl dX11_oneTick_208 ?_
              refine r_icmp_le hC 219 dX11_oneTick_211 (by decide) (fun h363 => ?_) (fun h363 => ?_)
              · have hO := hO.1 h363
                refine r_aload_n hC 5 dX11_oneTick_219 rfl rfl ?_
                refine r_getI hC fl11_295 ob11 rfl dX11_oneTick_220 ?_
                refine r_putI hC fl11_295 ob11 rfl rfl rfl dX11_oneTick_223 ?_
                refine r_nmM (fun μ364 hμ364 => ?_)
                have hO := hO μ364 hμ364
                refine r_iload hC 3 dX11_oneTick_226 rfl ?_
                exact r_iret hC rfl dX11_oneTick_228 hO
              · have hO := hO.2 h363
                refine r_iload hC 0 dX11_oneTick_214 rfl ?_
                refine r_goto hC 223 dX11_oneTick_216 (by decide) ?_
                refine r_putI hC fl11_295 ob11 rfl rfl rfl dX11_oneTick_223 ?_
                refine r_nmM (fun μ365 hμ365 => ?_)
                have hO := hO μ365 hμ365
                refine r_iload hC 3 dX11_oneTick_226 rfl ?_
                exact r_iret hC rfl dX11_oneTick_228 hO
            · have hO := hO.2 h356
              refine r_iload hC 8 dX11_oneTick_175 rfl ?_
              refine r_goto hC 184 dX11_oneTick_177 (by decide) ?_
              refine r_putI hC fl11_292 ob11 rfl rfl rfl dX11_oneTick_184 ?_
              refine r_nmM (fun μ366 hμ366 => ?_)
              have hO := hO μ366 hμ366
              refine r_aload_n hC 4 dX11_oneTick_187 rfl rfl ?_
              refine r_getI hC fl11_257 ob11 rfl dX11_oneTick_188 ?_
              refine r_callSi hC [.int (μ366.1 0 39)] (T11_size  hO) yv11_size ml11_161 ⟨Nat.le_of_ble_eq_true rfl, Nat.le_of_ble_eq_true rfl⟩ rfl rfl (Nat.le_of_ble_eq_true rfl) dX11_oneTick_191 (fun r367 μ368 hO => ?_)
              obtain ⟨hO, hm⟩ := hO
              refine r_memEq hm ?_
              refine r_aload_n hC 4 dX11_oneTick_194 rfl rfl ?_
              refine r_getI hC fl11_263 ob11 rfl dX11_oneTick_195 ?_
              refine r_callSi hC [.int (μ366.1 0 40)] (T11_size  hO) yv11_size ml11_161 ⟨Nat.le_of_ble_eq_true rfl, Nat.le_of_ble_eq_true rfl⟩ rfl rfl (Nat.le_of_ble_eq_true rfl) dX11_oneTick_198 (fun r369 μ370 hO => ?_)
              obtain ⟨hO, hm⟩ := hO
              refine r_memEq hm ?_
              refine r_iadd hC dX11_oneTick_201 ?_
              refine r_nmI (fun x371 hx371 => ?_)
              have hO := hO x371 hx371
              refine r_istore hC [(11, .int x371), (10, .int r278), (9, .int r276), (8, .int r7), (7, .int r5), (0, .ref (mw_a G 0)), (1, .int p1), (2, .int p2), (3, .int p3), (4, .int p4), (5, .int p5), (6, .int p6)] dX11_oneTick_202 (by decide) rfl ?_
              refine r_aload_n hC 5 dX11_oneTick_204 rfl rfl ?_
              refine r_iload hC 0 dX11_oneTick_205 rfl ?_
              refine r_aload_n hC 5 dX11_oneTick_207 rfl rfl ?_
              refine r_getI hC fl11_295 ob11 rfl dX11_oneTick_208 ?_
              refine r_icmp_le hC 219 dX11_oneTick_211 (by decide) (fun h372 => ?_) (fun h372 => ?_)
              · have hO := hO.1 h372
                refine r_aload_n hC 5 dX11_oneTick_219 rfl rfl ?_
                refine r_getI hC fl11_295 ob11 rfl dX11_oneTick_220 ?_
                refine r_putI hC fl11_295 ob11 rfl rfl rfl dX11_oneTick_223 ?_
                refine r_nmM (fun μ373 hμ373 => ?_)
                have hO := hO μ373 hμ373
                refine r_iload hC 3 dX11_oneTick_226 rfl ?_
                exact r_iret hC rfl dX11_oneTick_228 hO
              · have hO := hO.2 h372
                refine r_iload hC 0 dX11_oneTick_214 rfl ?_
                refine r_goto hC 223 dX11_oneTick_216 (by decide) ?_
                refine r_putI hC fl11_295 ob11 rfl rfl rfl dX11_oneTick_223 ?_
                refine r_nmM (fun μ374 hμ374 => ?_)
                have hO := hO μ374 hμ374
                refine r_iload hC 3 dX11_oneTick_226 rfl ?_
                exact r_iret hC rfl dX11_oneTick_228 hO
        · have hO := hO.2 h345
          refine r_aload_n hC 4 dX11_oneTick_154 rfl rfl ?_
          refine r_iload_n hC 6 dX11_oneTick_155 rfl rfl ?_
          refine r_iload hC 0 dX11_oneTick_156 rfl ?_
          refine r_callVv hC [.int p2, .int r278] (T11_hopsOn  hO) yv11_hopsOn ml11_288 ob11 rfl ⟨Nat.le_of_ble_eq_true rfl, Nat.le_of_ble_eq_true rfl⟩ rfl rfl (Nat.le_of_ble_eq_true rfl) dX11_oneTick_158 (fun μ375 hO => ?_)
          refine r_aload_n hC 4 dX11_oneTick_161 rfl rfl ?_
          refine r_aload_n hC 4 dX11_oneTick_162 rfl rfl ?_
          refine r_getI hC fl11_292 ob11 rfl dX11_oneTick_163 ?_
          refine r_if_ge hC 180 dX11_oneTick_166 (by decide) (fun h376 => ?_) (fun h376 => ?_)
          · have hO := hO.1 h376
            refine r_aload_n hC 4 dX11_oneTick_180 rfl rfl ?_
            refine r_getI hC fl11_292 ob11 rfl dX11_oneTick_181 ?_
            refine r_putI hC fl11_292 ob11 rfl rfl rfl dX11_oneTick_184 ?_
            refine r_nmM (fun μ377 hμ377 => ?_)
            have hO := hO μ377 hμ377
            refine r_aload_n hC 4 dX11_oneTick_187 rfl rfl ?_
            refine r_getI hC fl11_257 ob11 rfl dX11_oneTick_188 ?_
            refine r_callSi hC [.int (μ377.1 0 39)] (T11_size  hO) yv11_size ml11_161 ⟨Nat.le_of_ble_eq_true rfl, Nat.le_of_ble_eq_true rfl⟩ rfl rfl (Nat.le_of_ble_eq_true rfl) dX11_oneTick_191 (fun r378 μ379 hO => ?_)
            obtain ⟨hO, hm⟩ := hO
            refine r_memEq hm ?_
            refine r_aload_n hC 4 dX11_oneTick_194 rfl rfl ?_
            refine r_getI hC fl11_263 ob11 rfl dX11_oneTick_195 ?_
            refine r_callSi hC [.int (μ377.1 0 40)] (T11_size  hO) yv11_size ml11_161 ⟨Nat.le_of_ble_eq_true rfl, Nat.le_of_ble_eq_true rfl⟩ rfl rfl (Nat.le_of_ble_eq_true rfl) dX11_oneTick_198 (fun r380 μ381 hO => ?_)
            obtain ⟨hO, hm⟩ := hO
            refine r_memEq hm ?_
            refine r_iadd hC dX11_oneTick_201 ?_
            refine r_nmI (fun x382 hx382 => ?_)
            have hO := hO x382 hx382
            refine r_istore hC [(11, .int x382), (10, .int r278), (9, .int r276), (8, .int r7), (7, .int r5), (0, .ref (mw_a G 0)), (1, .int p1), (2, .int p2), (3, .int p3), (4, .int p4), (5, .int p5), (6, .int p6)] dX11_oneTick_202 (by decide) rfl ?_
            refine r_aload_n hC 5 dX11_oneTick_204 rfl rfl ?_
            refine r_iload hC 0 dX11_oneTick_205 rfl ?_
            refine r_aload_n hC 5 dX11_oneTick_207 rfl rfl ?_
            refine r_getI hC fl11_295 ob11 rfl dX11_oneTick_208 ?_
            refine r_icmp_le hC 219 dX11_oneTick_211 (by decide) (fun h383 => ?_) (fun h383 => ?_)
            · have hO := hO.1 h383
              refine r_aload_n hC 5 dX11_oneTick_219 rfl rfl ?_
              refine r_getI hC fl11_295 ob11 rfl dX11_oneTick_220 ?_
              refine r_putI hC fl11_295 ob11 rfl rfl rfl dX11_oneTick_223 ?_
              refine r_nmM (fun μ384 hμ384 => ?_)
              have hO := hO μ384 hμ384
              refine r_iload hC 3 dX11_oneTick_226 rfl ?_
              exact r_iret hC rfl dX11_oneTick_228 hO
            · have hO := hO.2 h383
              refine r_iload hC 0 dX11_oneTick_214 rfl ?_
              refine r_goto hC 223 dX11_oneTick_216 (by decide) ?_
              refine r_putI hC fl11_295 ob11 rfl rfl rfl dX11_oneTick_223 ?_
              refine r_nmM (fun μ385 hμ385 => ?_)
              have hO := hO μ385 hμ385
              refine r_iload hC 3 dX11_oneTick_226 rfl ?_
              exact r_iret hC rfl dX11_oneTick_228 hO
          · have hO := hO.2 h376
            refine r_iload hC 2 dX11_oneTick_169 rfl ?_
            refine r_iload_n hC 7 dX11_oneTick_171 rfl rfl ?_
            refine r_icmp_lt hC 180 dX11_oneTick_172 (by decide) (fun h386 => ?_) (fun h386 => ?_)
            · have hO := hO.1 h386
              refine r_aload_n hC 4 dX11_oneTick_180 rfl rfl ?_
              refine r_getI hC fl11_292 ob11 rfl dX11_oneTick_181 ?_
              refine r_putI hC fl11_292 ob11 rfl rfl rfl dX11_oneTick_184 ?_
              refine r_nmM (fun μ387 hμ387 => ?_)
              have hO := hO μ387 hμ387
              refine r_aload_n hC 4 dX11_oneTick_187 rfl rfl ?_
              refine r_getI hC fl11_257 ob11 rfl dX11_oneTick_188 ?_
              refine r_callSi hC [.int (μ387.1 0 39)] (T11_size  hO) yv11_size ml11_161 ⟨Nat.le_of_ble_eq_true rfl, Nat.le_of_ble_eq_true rfl⟩ rfl rfl (Nat.le_of_ble_eq_true rfl) dX11_oneTick_191 (fun r388 μ389 hO => ?_)
              obtain ⟨hO, hm⟩ := hO
              refine r_memEq hm ?_
              refine r_aload_n hC 4 dX11_oneTick_194 rfl rfl ?_
              refine r_getI hC fl11_263 ob11 rfl dX11_oneTick_195 ?_
              refine r_callSi hC [.int (μ387.1 0 40)] (T11_size  hO) yv11_size ml11_161 ⟨Nat.le_of_ble_eq_true rfl, Nat.le_of_ble_eq_true rfl⟩ rfl rfl (Nat.le_of_ble_eq_true rfl) dX11_oneTick_198 (fun r390 μ391 hO => ?_)
              obtain ⟨hO, hm⟩ := hO
              refine r_memEq hm ?_
              refine r_iadd hC dX11_oneTick_201 ?_
              refine r_nmI (fun x392 hx392 => ?_)
              have hO := hO x392 hx392
              refine r_istore hC [(11, .int x392), (10, .int r278), (9, .int r276), (8, .int r7), (7, .int r5), (0, .ref (mw_a G 0)), (1, .int p1), (2, .int p2), (3, .int p3), (4, .int p4), (5, .int p5), (6, .int p6)] dX11_oneTick_202 (by decide) rfl ?_
              refine r_aload_n hC 5 dX11_oneTick_204 rfl rfl ?_
              refine r_iload hC 0 dX11_oneTick_205 rfl ?_
              refine r_aload_n hC 5 dX11_oneTick_207 rfl rfl ?_
              refine r_getI hC fl11_295 ob11 rfl dX11_oneTick_208 ?_
              refine r_icmp_le hC 219 dX11_oneTick_211 (by decide) (fun h393 => ?_) (fun h393 => ?_)
              · have hO := hO.1 h393
                refine r_aload_n hC 5 dX11_oneTick_219 rfl rfl ?_
                refine r_getI hC fl11_295 ob11 rfl dX11_oneTick_220 ?_
                refine r_putI hC fl11_295 ob11 rfl rfl rfl dX11_oneTick_223 ?_
                refine r_nmM (fun μ394 hμ394 => ?_)
                have hO := hO μ394 hμ394
                refine r_iload hC 3 dX11_oneTick_226 rfl ?_
                exact r_iret hC rfl dX11_oneTick_228 hO
              · have hO := hO.2 h393
                refine r_iload hC 0 dX11_oneTick_214 rfl ?_
                refine r_goto hC 223 dX11_oneTick_216 (by decide) ?_
                refine r_putI hC fl11_295 ob11 rfl rfl rfl dX11_oneTick_223 ?_
                refine r_nmM (fun μ395 hμ395 => ?_)
                have hO := hO μ395 hμ395
                refine r_iload hC 3 dX11_oneTick_226 rfl ?_
                exact r_iret hC rfl dX11_oneTick_228 hO
            · have hO := hO.2 h386
              refine r_iload hC 8 dX11_oneTick_175 rfl ?_
              refine r_goto hC 184 dX11_oneTick_177 (by decide) ?_
              refine r_putI hC fl11_292 ob11 rfl rfl rfl dX11_oneTick_184 ?_
              refine r_nmM (fun μ396 hμ396 => ?_)
              have hO := hO μ396 hμ396
              refine r_aload_n hC 4 dX11_oneTick_187 rfl rfl ?_
              refine r_getI hC fl11_257 ob11 rfl dX11_oneTick_188 ?_
              refine r_callSi hC [.int (μ396.1 0 39)] (T11_size  hO) yv11_size ml11_161 ⟨Nat.le_of_ble_eq_true rfl, Nat.le_of_ble_eq_true rfl⟩ rfl rfl (Nat.le_of_ble_eq_true rfl) dX11_oneTick_191 (fun r397 μ398 hO => ?_)
              obtain ⟨hO, hm⟩ := hO
              refine r_memEq hm ?_
              refine r_aload_n hC 4 dX11_oneTick_194 rfl rfl ?_
              refine r_getI hC fl11_263 ob11 rfl dX11_oneTick_195 ?_
              refine r_callSi hC [.int (μ396.1 0 40)] (T11_size  hO) yv11_size ml11_161 ⟨Nat.le_of_ble_eq_true rfl, Nat.le_of_ble_eq_true rfl⟩ rfl rfl (Nat.le_of_ble_eq_true rfl) dX11_oneTick_198 (fun r399 μ400 hO => ?_)
              obtain ⟨hO, hm⟩ := hO
              refine r_memEq hm ?_
              refine r_iadd hC dX11_oneTick_201 ?_
              refine r_nmI (fun x401 hx401 => ?_)
              have hO := hO x401 hx401
              refine r_istore hC [(11, .int x401), (10, .int r278), (9, .int r276), (8, .int r7), (7, .int r5), (0, .ref (mw_a G 0)), (1, .int p1), (2, .int p2), (3, .int p3), (4, .int p4), (5, .int p5), (6, .int p6)] dX11_oneTick_202 (by decide) rfl ?_
              refine r_aload_n hC 5 dX11_oneTick_204 rfl rfl ?_
              refine r_iload hC 0 dX11_oneTick_205 rfl ?_
              refine r_aload_n hC 5 dX11_oneTick_207 rfl rfl ?_
              refine r_getI hC fl11_295 ob11 rfl dX11_oneTick_208 ?_
              refine r_icmp_le hC 219 dX11_oneTick_211 (by decide) (fun h402 => ?_) (fun h402 => ?_)
              · have hO := hO.1 h402
                refine r_aload_n hC 5 dX11_oneTick_219 rfl rfl ?_
                refine r_getI hC fl11_295 ob11 rfl dX11_oneTick_220 ?_
                refine r_putI hC fl11_295 ob11 rfl rfl rfl dX11_oneTick_223 ?_
                refine r_nmM (fun μ403 hμ403 => ?_)
                have hO := hO μ403 hμ403
                refine r_iload hC 3 dX11_oneTick_226 rfl ?_
                exact r_iret hC rfl dX11_oneTick_228 hO
              · have hO := hO.2 h402
                refine r_iload hC 0 dX11_oneTick_214 rfl ?_
                refine r_goto hC 223 dX11_oneTick_216 (by decide) ?_
                refine r_putI hC fl11_295 ob11 rfl rfl rfl dX11_oneTick_223 ?_
                refine r_nmM (fun μ404 hμ404 => ?_)
                have hO := hO μ404 hμ404
                refine r_iload hC 3 dX11_oneTick_226 rfl ?_
                exact r_iret hC rfl dX11_oneTick_228 hO
