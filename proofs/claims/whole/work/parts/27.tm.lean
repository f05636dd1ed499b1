set_option maxHeartbeats 4000000 in
set_option maxRecDepth 100000 in
theorem T11_goes {l : Launch} {G : mw_G} {p1 : Int32} {p2 : Int32} {p3 : Int32} {p4 : Int32} {p5 : Int32} {p6 : Int32} {μ : mw_M} {Q : mw_M → Prop}  (hO : P11_goes p1 p2 p3 p4 p5 p6 μ Q) : mw_Mv l G kdM yX11_goes cX11_goes 10 none 70 1685 [.ref (mw_a G 0), .int p1, .int p2, .int p3, .int p4, .int p5, .int p6] μ (Q) := by
  refine mw_enter [(0, .ref (mw_a G 0)), (1, .int p1), (2, .int p2), (3, .int p3), (4, .int p4), (5, .int p5), (6, .int p6)] RX11 (by decide) rfl (Nat.le_of_ble_eq_true rfl) rfl ?_
  intro p e s m args below meth c hC
  unfold P11_goes at hO
  refine r_aload_n hC 0 dX11_goes_0 rfl rfl ?_
  refine r_iload hC 5 dX11_goes_1 rfl ?_
  refine r_putI hC fl11_247 ob11 rfl rfl rfl dX11_goes_3 ?_
  refine r_nmM (fun μ1 hμ1 => ?_)
  have hO := hO μ1 hμ1
  refine r_aload_n hC 0 dX11_goes_6 rfl rfl ?_
  refine r_iconst hC 0 dX11_goes_7 (by decide) ?_
  refine r_putI hC fl11_285 ob11 rfl rfl rfl dX11_goes_8 ?_
  refine r_nmM (fun μ2 hμ2 => ?_)
  have hO := hO μ2 hμ2
  refine r_aload_n hC 0 dX11_goes_11 rfl rfl ?_
  refine r_iconst hC 0 dX11_goes_12 (by decide) ?_
  refine r_putI hC fl11_254 ob11 rfl rfl rfl dX11_goes_13 ?_
  refine r_nmM (fun μ3 hμ3 => ?_)
  have hO := hO μ3 hμ3
  refine r_aload_n hC 0 dX11_goes_16 rfl rfl ?_
  refine r_iconst hC 0 dX11_goes_17 (by decide) ?_
  refine r_putI hC fl11_272 ob11 rfl rfl rfl dX11_goes_18 ?_
  refine r_nmM (fun μ4 hμ4 => ?_)
  have hO := hO μ4 hμ4
  refine r_aload_n hC 0 dX11_goes_21 rfl rfl ?_
  refine r_iconst hC 0 dX11_goes_22 (by decide) ?_
  refine r_putI hC fl11_269 ob11 rfl rfl rfl dX11_goes_23 ?_
  refine r_nmM (fun μ5 hμ5 => ?_)
  have hO := hO μ5 hμ5
  refine r_aload_n hC 0 dX11_goes_26 rfl rfl ?_
  refine r_bipush hC (-2) dX11_goes_27 (by decide) ?_
  refine r_putI hC fl11_292 ob11 rfl rfl rfl dX11_goes_29 ?_
  refine r_nmM (fun μ6 hμ6 => ?_)
  have hO := hO μ6 hμ6
  refine r_aload_n hC 0 dX11_goes_32 rfl rfl ?_
  refine r_iconst hC 0 dX11_goes_33 (by decide) ?_
  refine r_putI hC fl11_295 ob11 rfl rfl rfl dX11_goes_34 ?_
  refine r_nmM (fun μ7 hμ7 => ?_)
  have hO := hO μ7 hμ7
  refine r_aload_n hC 0 dX11_goes_37 rfl rfl ?_
  refine r_iconst hC 0 dX11_goes_38 (by decide) ?_
  refine r_putI hC fl11_257 ob11 rfl rfl rfl dX11_goes_39 ?_
  refine r_nmM (fun μ8 hμ8 => ?_)
  have hO := hO μ8 hμ8
  refine r_aload_n hC 0 dX11_goes_42 rfl rfl ?_
  refine r_iconst hC 0 dX11_goes_43 (by decide) ?_
  refine r_putI hC fl11_263 ob11 rfl rfl rfl dX11_goes_44 ?_
  refine r_nmM (fun μ9 hμ9 => ?_)
  have hO := hO μ9 hμ9
  refine r_iconst hC 0 dX11_goes_47 (by decide) ?_
  refine r_istore hC [(7, .int 0), (0, .ref (mw_a G 0)), (1, .int p1), (2, .int p2), (3, .int p3), (4, .int p4), (5, .int p5), (6, .int p6)] dX11_goes_48 (by decide) rfl ?_
  refine r_iconst hC 0 dX11_goes_50 (by decide) ?_
  refine r_istore hC [(8, .int 0), (7, .int 0), (0, .ref (mw_a G 0)), (1, .int p1), (2, .int p2), (3, .int p3), (4, .int p4), (5, .int p5), (6, .int p6)] dX11_goes_51 (by decide) rfl ?_
  have hLn13 : ∀   (n13 : Nat) (v10 : Int32) (v11 : Int32) (μ12 : mw_M), L11_goes_53 p1 p2 p3 p4 p5 p6 Q n13 v10 v11 μ12 → mw_W p l e (mw_rm 70 1685) s m args below meth c G kdM 10 (MQ below (va_Qv (Q) (mw_B G kdM) (mw_A G kdM)) args s 0 0 (mw_A G kdM)) 53 [(8, .int v10), (7, .int v11), (0, .ref (mw_a G 0)), (1, .int p1), (2, .int p2), (3, .int p3), (4, .int p4), (5, .int p5), (6, .int p6)] [] μ12 := by
    intro   n13
    induction n13 with
    | zero => intro v10 v11 μ12 hO; exact False.elim hO
    | succ n13 ihn13 =>
      intro v10 v11 μ12 hO
      refine r_iload hC 0 dX11_goes_53 rfl ?_
      refine r_iload hC 6 dX11_goes_55 rfl ?_
      refine r_icmp_ge hC 167 dX11_goes_57 (by decide) (fun h14 => ?_) (fun h14 => ?_)
      · have hO := hO.1 h14
        exact r_vret hC rfl dX11_goes_167 hO
      · have hO := hO.2 h14
        refine r_iload hC 0 dX11_goes_60 rfl ?_
        refine r_if_le hC 76 dX11_goes_62 (by decide) (fun h15 => ?_) (fun h15 => ?_)
        · have hO := hO.1 h15
          refine r_iconst hC 0 dX11_goes_76 (by decide) ?_
          refine r_istore hC [(9, .int 0), (8, .int v10), (7, .int v11), (0, .ref (mw_a G 0)), (1, .int p1), (2, .int p2), (3, .int p3), (4, .int p4), (5, .int p5), (6, .int p6)] dX11_goes_77 (by decide) rfl ?_
          refine r_aload_n hC 3 dX11_goes_79 rfl rfl ?_
          refine r_iload_n hC 4 dX11_goes_80 rfl rfl ?_
          refine r_iload_n hC 5 dX11_goes_81 rfl rfl ?_
          refine r_iload_n hC 6 dX11_goes_82 rfl rfl ?_
          refine r_iload hC 1 dX11_goes_83 rfl ?_
          refine r_iload hC 2 dX11_goes_85 rfl ?_
          refine r_iload hC 0 dX11_goes_87 rfl ?_
          refine r_callVi hC [.int p1, .int p2, .int p3, .int v10, .int v11, .int 0] (T11_oneTick  hO) yv11_oneTick ml11_298 ob11 rfl ⟨Nat.le_of_ble_eq_true rfl, Nat.le_of_ble_eq_true rfl⟩ rfl rfl (Nat.le_of_ble_eq_true rfl) dX11_goes_89 (fun r16 μ17 hO => ?_)
          refine r_istore hC [(7, .int r16), (9, .int 0), (8, .int v10), (0, .ref (mw_a G 0)), (1, .int p1), (2, .int p2), (3, .int p3), (4, .int p4), (5, .int p5), (6, .int p6)] dX11_goes_92 (by decide) rfl ?_
          refine r_iload hC 9 dX11_goes_94 rfl ?_
          refine r_if_eq hC 161 dX11_goes_96 (by decide) (fun h18 => ?_) (fun h18 => ?_)
          · have hO := hO.1 h18
            obtain ⟨x19, hx19⟩ : ∃ y : Int32, y = v10 + 1 := ⟨_, rfl⟩
            have hO := hO x19 hx19
            refine r_iinc hC x19 2 [(8, .int x19), (7, .int r16), (9, .int 0), (0, .ref (mw_a G 0)), (1, .int p1), (2, .int p2), (3, .int p3), (4, .int p4), (5, .int p5), (6, .int p6)] dX11_goes_161 rfl (by rw [hx19]; rfl) (by decide) rfl ?_
            refine r_goto hC 53 dX11_goes_164 (by decide) ?_
            refine r_lv hC [(8, .int x19), (7, .int r16), (0, .ref (mw_a G 0)), (1, .int p1), (2, .int p2), (3, .int p3), (4, .int p4), (5, .int p5), (6, .int p6)] [0, 1, 3, 4, 5, 6, 7, 8, 9] rfl ?_
            exact ihn13 x19 r16 μ17 hO
          · have hO := hO.2 h18
            refine r_aload_n hC 3 dX11_goes_99 rfl rfl ?_
            refine r_getR hC 16 fl11_55 ob11 rfl dX11_goes_100 ?_
            refine r_iload hC 2 dX11_goes_103 rfl ?_
            refine r_iload hC 0 dX11_goes_105 rfl ?_
            obtain ⟨g20, hO⟩ := hO
            refine r_iast hC sh11_28 g20 v10.toNatClampNeg rfl dX11_goes_107 ?_
            refine r_nmM (fun μ21 hμ21 => ?_)
            have hO := hO μ21 hμ21
            refine r_aload_n hC 3 dX11_goes_108 rfl rfl ?_
            refine r_getR hC 17 fl11_58 ob11 rfl dX11_goes_109 ?_
            refine r_iload hC 2 dX11_goes_112 rfl ?_
            refine r_aload_n hC 3 dX11_goes_114 rfl rfl ?_
            refine r_callVi hC [] (T11_lopsided  hO) yv11_lopsided ml11_167 ob11 rfl ⟨Nat.le_of_ble_eq_true rfl, Nat.le_of_ble_eq_true rfl⟩ rfl rfl (Nat.le_of_ble_eq_true rfl) dX11_goes_115 (fun r22 μ23 hO => ?_)
            obtain ⟨hO, hm⟩ := hO
            refine r_memEq hm ?_
            obtain ⟨g24, hO⟩ := hO
            refine r_iast hC sh11_29 g24 v10.toNatClampNeg rfl dX11_goes_118 ?_
            refine r_nmM (fun μ25 hμ25 => ?_)
            have hO := hO μ25 hμ25
            refine r_aload_n hC 3 dX11_goes_119 rfl rfl ?_
            refine r_getR hC 18 fl11_61 ob11 rfl dX11_goes_120 ?_
            refine r_iload hC 2 dX11_goes_123 rfl ?_
            refine r_aload_n hC 3 dX11_goes_125 rfl rfl ?_
            refine r_aload_n hC 3 dX11_goes_126 rfl rfl ?_
            refine r_getR hC 17 fl11_58 ob11 rfl dX11_goes_127 ?_
            refine r_iload hC 2 dX11_goes_130 rfl ?_
            obtain ⟨g26, hO⟩ := hO
            refine r_iald hC sh11_29 g26 v10.toNatClampNeg rfl dX11_goes_132 ?_
            refine r_iload hC 0 dX11_goes_133 rfl ?_
            refine r_callVi hC [.int (μ25.1 17 v10.toNatClampNeg), .int r16] (T11_shakeOf  hO) yv11_shakeOf ml11_182 ob11 rfl ⟨Nat.le_of_ble_eq_true rfl, Nat.le_of_ble_eq_true rfl⟩ rfl rfl (Nat.le_of_ble_eq_true rfl) dX11_goes_135 (fun r27 μ28 hO => ?_)
            obtain ⟨hO, hm⟩ := hO
            refine r_memEq hm ?_
            obtain ⟨g29, hO⟩ := hO
            refine r_iast hC sh11_30 g29 v10.toNatClampNeg rfl dX11_goes_138 ?_
            refine r_nmM (fun μ30 hμ30 => ?_)
            have hO := hO μ30 hμ30
            refine r_aload_n hC 3 dX11_goes_139 rfl rfl ?_
            refine r_getR hC 19 fl11_64 ob11 rfl dX11_goes_140 ?_
            refine r_iload hC 2 dX11_goes_143 rfl ?_
            refine r_aload_n hC 3 dX11_goes_145 rfl rfl ?_
            refine r_getI hC fl11_257 ob11 rfl dX11_goes_146 ?_
            obtain ⟨g31, hO⟩ := hO
            refine r_iast hC sh11_31 g31 v10.toNatClampNeg rfl dX11_goes_149 ?_
            refine r_nmM (fun μ32 hμ32 => ?_)
            have hO := hO μ32 hμ32
            refine r_aload_n hC 3 dX11_goes_150 rfl rfl ?_
            refine r_getR hC 20 fl11_67 ob11 rfl dX11_goes_151 ?_
            refine r_iload hC 2 dX11_goes_154 rfl ?_
            refine r_aload_n hC 3 dX11_goes_156 rfl rfl ?_
            refine r_getI hC fl11_263 ob11 rfl dX11_goes_157 ?_
            obtain ⟨g33, hO⟩ := hO
            refine r_iast hC sh11_32 g33 v10.toNatClampNeg rfl dX11_goes_160 ?_
            refine r_nmM (fun μ34 hμ34 => ?_)
            have hO := hO μ34 hμ34
            obtain ⟨x35, hx35⟩ : ∃ y : Int32, y = v10 + 1 := ⟨_, rfl⟩
            have hO := hO x35 hx35
            refine r_iinc hC x35 2 [(8, .int x35), (7, .int r16), (9, .int 0), (0, .ref (mw_a G 0)), (1, .int p1), (2, .int p2), (3, .int p3), (4, .int p4), (5, .int p5), (6, .int p6)] dX11_goes_161 rfl (by rw [hx35]; rfl) (by decide) rfl ?_
            refine r_goto hC 53 dX11_goes_164 (by decide) ?_
            refine r_lv hC [(8, .int x35), (7, .int r16), (0, .ref (mw_a G 0)), (1, .int p1), (2, .int p2), (3, .int p3), (4, .int p4), (5, .int p5), (6, .int p6)] [0, 1, 3, 4, 5, 6, 7, 8, 9] rfl ?_
            exact ihn13 x35 r16 μ34 hO
        · have hO := hO.2 h15
          refine r_iload hC 1 dX11_goes_65 rfl ?_
          refine r_bipush hC 60 dX11_goes_67 (by decide) ?_
          refine r_icmp_ge hC 76 dX11_goes_69 (by decide) (fun h36 => ?_) (fun h36 => ?_)
          · have hO := hO.1 h36
            refine r_iconst hC 0 dX11_goes_76 (by decide) ?_
            refine r_istore hC [(9, .int 0), (8, .int v10), (7, .int v11), (0, .ref (mw_a G 0)), (1, .int p1), (2, .int p2), (3, .int p3), (4, .int p4), (5, .int p5), (6, .int p6)] dX11_goes_77 (by decide) rfl ?_
            refine r_aload_n hC 3 dX11_goes_79 rfl rfl ?_
            refine r_iload_n hC 4 dX11_goes_80 rfl rfl ?_
            refine r_iload_n hC 5 dX11_goes_81 rfl rfl ?_
            refine r_iload_n hC 6 dX11_goes_82 rfl rfl ?_
            refine r_iload hC 1 dX11_goes_83 rfl ?_
            refine r_iload hC 2 dX11_goes_85 rfl ?_
            refine r_iload hC 0 dX11_goes_87 rfl ?_
            refine r_callVi hC [.int p1, .int p2, .int p3, .int v10, .int v11, .int 0] (T11_oneTick  hO) yv11_oneTick ml11_298 ob11 rfl ⟨Nat.le_of_ble_eq_true rfl, Nat.le_of_ble_eq_true rfl⟩ rfl rfl (Nat.le_of_ble_eq_true rfl) dX11_goes_89 (fun r37 μ38 hO => ?_)
            refine r_istore hC [(7, .int r37), (9, .int 0), (8, .int v10), (0, .ref (mw_a G 0)), (1, .int p1), (2, .int p2), (3, .int p3), (4, .int p4), (5, .int p5), (6, .int p6)] dX11_goes_92 (by decide) rfl ?_
            refine r_iload hC 9 dX11_goes_94 rfl ?_
            refine r_if_eq hC 161 dX11_goes_96 (by decide) (fun h39 => ?_) (fun h39 => ?_)
            · have hO := hO.1 h39
              obtain ⟨x40, hx40⟩ : ∃ y : Int32, y = v10 + 1 := ⟨_, rfl⟩
              have hO := hO x40 hx40
              refine r_iinc hC x40 2 [(8, .int x40), (7, .int r37), (9, .int 0), (0, .ref (mw_a G 0)), (1, .int p1), (2, .int p2), (3, .int p3), (4, .int p4), (5, .int p5), (6, .int p6)] dX11_goes_161 rfl (by rw [hx40]; rfl) (by decide) rfl ?_
              refine r_goto hC 53 dX11_goes_164 (by decide) ?_
              refine r_lv hC [(8, .int x40), (7, .int r37), (0, .ref (mw_a G 0)), (1, .int p1), (2, .int p2), (3, .int p3), (4, .int p4), (5, .int p5), (6, .int p6)] [0, 1, 3, 4, 5, 6, 7, 8, 9] rfl ?_
              exact ihn13 x40 r37 μ38 hO
            · have hO := hO.2 h39
              refine r_aload_n hC 3 dX11_goes_99 rfl rfl ?_
              refine r_getR hC 16 fl11_55 ob11 rfl dX11_goes_100 ?_
              refine r_iload hC 2 dX11_goes_103 rfl ?_
              refine r_iload hC 0 dX11_goes_105 rfl ?_
              obtain ⟨g41, hO⟩ := hO
              refine r_iast hC sh11_28 g41 v10.toNatClampNeg rfl dX11_goes_107 ?_
              refine r_nmM (fun μ42 hμ42 => ?_)
              have hO := hO μ42 hμ42
              refine r_aload_n hC 3 dX11_goes_108 rfl rfl ?_
              refine r_getR hC 17 fl11_58 ob11 rfl dX11_goes_109 ?_
              refine r_iload hC 2 dX11_goes_112 rfl ?_
              refine r_aload_n hC 3 dX11_goes_114 rfl rfl ?_
              refine r_callVi hC [] (T11_lopsided  hO) yv11_lopsided ml11_167 ob11 rfl ⟨Nat.le_of_ble_eq_true rfl, Nat.le_of_ble_eq_true rfl⟩ rfl rfl (Nat.le_of_ble_eq_true rfl) dX11_goes_115 (fun r43 μ44 hO => ?_)
              obtain ⟨hO, hm⟩ := hO
              refine r_memEq hm ?_
              obtain ⟨g45, hO⟩ := hO
              refine r_iast hC sh11_29 g45 v10.toNatClampNeg rfl dX11_goes_118 ?_
              refine r_nmM (fun μ46 hμ46 => ?_)
              have hO := hO μ46 hμ46
              refine r_aload_n hC 3 dX11_goes_119 rfl rfl ?_
              refine r_getR hC 18 fl11_61 ob11 rfl dX11_goes_120 ?_
              refine r_iload hC 2 dX11_goes_123 rfl ?_
              refine r_aload_n hC 3 dX11_goes_125 rfl rfl ?_
              refine r_aload_n hC 3 dX11_goes_126 rfl rfl ?_
              refine r_getR hC 17 fl11_58 ob11 rfl dX11_goes_127 ?_
              refine r_iload hC 2 dX11_goes_130 rfl ?_
              obtain ⟨g47, hO⟩ := hO
              refine r_iald hC sh11_29 g47 v10.toNatClampNeg rfl dX11_goes_132 ?_
              refine r_iload hC 0 dX11_goes_133 rfl ?_
              refine r_callVi hC [.int (μ46.1 17 v10.toNatClampNeg), .int r37] (T11_shakeOf  hO) yv11_shakeOf ml11_182 ob11 rfl ⟨Nat.le_of_ble_eq_true rfl, Nat.le_of_ble_eq_true rfl⟩ rfl rfl (Nat.le_of_ble_eq_true rfl) dX11_goes_135 (fun r48 μ49 hO => ?_)
              obtain ⟨hO, hm⟩ := hO
              refine r_memEq hm ?_
              obtain ⟨g50, hO⟩ := hO
              refine r_iast hC sh11_30 g50 v10.toNatClampNeg rfl dX11_goes_138 ?_
              refine r_nmM (fun μ51 hμ51 => ?_)
              have hO := hO μ51 hμ51
              refine r_aload_n hC 3 dX11_goes_139 rfl rfl ?_
              refine r_getR hC 19 fl11_64 ob11 rfl dX11_goes_140 ?_
              refine r_iload hC 2 dX11_goes_143 rfl ?_
              refine r_aload_n hC 3 dX11_goes_145 rfl rfl ?_
              refine r_getI hC fl11_257 ob11 rfl dX11_goes_146 ?_
              obtain ⟨g52, hO⟩ := hO
              refine r_iast hC sh11_31 g52 v10.toNatClampNeg rfl dX11_goes_149 ?_
              refine r_nmM (fun μ53 hμ53 => ?_)
              have hO := hO μ53 hμ53
              refine r_aload_n hC 3 dX11_goes_150 rfl rfl ?_
              refine r_getR hC 20 fl11_67 ob11 rfl dX11_goes_151 ?_
              refine r_iload hC 2 dX11_goes_154 rfl ?_
              refine r_aload_n hC 3 dX11_goes_156 rfl rfl ?_
              refine r_getI hC fl11_263 ob11 rfl dX11_goes_157 ?_
              obtain ⟨g54, hO⟩ := hO
              refine r_iast hC sh11_32 g54 v10.toNatClampNeg rfl dX11_goes_160 ?_
              refine r_nmM (fun μ55 hμ55 => ?_)
              have hO := hO μ55 hμ55
              obtain ⟨x56, hx56⟩ : ∃ y : Int32, y = v10 + 1 := ⟨_, rfl⟩
              have hO := hO x56 hx56
              refine r_iinc hC x56 2 [(8, .int x56), (7, .int r37), (9, .int 0), (0, .ref (mw_a G 0)), (1, .int p1), (2, .int p2), (3, .int p3), (4, .int p4), (5, .int p5), (6, .int p6)] dX11_goes_161 rfl (by rw [hx56]; rfl) (by decide) rfl ?_
              refine r_goto hC 53 dX11_goes_164 (by decide) ?_
              refine r_lv hC [(8, .int x56), (7, .int r37), (0, .ref (mw_a G 0)), (1, .int p1), (2, .int p2), (3, .int p3), (4, .int p4), (5, .int p5), (6, .int p6)] [0, 1, 3, 4, 5, 6, 7, 8, 9] rfl ?_
              exact ihn13 x56 r37 μ55 hO
          · have hO := hO.2 h36
            refine r_iconst hC 1 dX11_goes_72 (by decide) ?_
            refine r_goto hC 77 dX11_goes_73 (by decide) ?_
            refine r_istore hC [(9, .int 1), (8, .int v10), (7, .int v11), (0, .ref (mw_a G 0)), (1, .int p1), (2, .int p2), (3, .int p3), (4, .int p4), (5, .int p5), (6, .int p6)] dX11_goes_77 (by decide) rfl ?_
            refine r_aload_n hC 3 dX11_goes_79 rfl rfl ?_
            refine r_iload_n hC 4 dX11_goes_80 rfl rfl ?_
            refine r_iload_n hC 5 dX11_goes_81 rfl rfl ?_
            refine r_iload_n hC 6 dX11_goes_82 rfl rfl ?_
            refine r_iload hC 1 dX11_goes_83 rfl ?_
            refine r_iload hC 2 dX11_goes_85 rfl ?_
            refine r_iload hC 0 dX11_goes_87 rfl ?_
            refine r_callVi hC [.int p1, .int p2, .int p3, .int v10, .int v11, .int 1] (T11_oneTick  hO) yv11_oneTick ml11_298 ob11 rfl ⟨Nat.le_of_ble_eq_true rfl, Nat.le_of_ble_eq_true rfl⟩ rfl rfl (Nat.le_of_ble_eq_true rfl) dX11_goes_89 (fun r57 μ58 hO => ?_)
            refine r_istore hC [(7, .int r57), (9, .int 1), (8, .int v10), (0, .ref (mw_a G 0)), (1, .int p1), (2, .int p2), (3, .int p3), (4, .int p4), (5, .int p5), (6, .int p6)] dX11_goes_92 (by decide) rfl ?_
            refine r_iload hC 9 dX11_goes_94 rfl ?_
            refine r_if_eq hC 161 dX11_goes_96 (by decide) (fun h59 => ?_) (fun h59 => ?_)
            · have hO := hO.1 h59
              obtain ⟨x60, hx60⟩ : ∃ y : Int32, y = v10 + 1 := ⟨_, rfl⟩
              have hO := hO x60 hx60
              refine r_iinc hC x60 2 [(8, .int x60), (7, .int r57), (9, .int 1), (0, .ref (mw_a G 0)), (1, .int p1), (2, .int p2), (3, .int p3), (4, .int p4), (5, .int p5), (6, .int p6)] dX11_goes_161 rfl (by rw [hx60]; rfl) (by decide) rfl ?_
              refine r_goto hC 53 dX11_goes_164 (by decide) ?_
              refine r_lv hC [(8, .int x60), (7, .int r57), (0, .ref (mw_a G 0)), (1, .int p1), (2, .int p2), (3, .int p3), (4, .int p4), (5, .int p5), (6, .int p6)] [0, 1, 3, 4, 5, 6, 7, 8, 9] rfl ?_
              exact ihn13 x60 r57 μ58 hO
            · have hO := hO.2 h59
              refine r_aload_n hC 3 dX11_goes_99 rfl rfl ?_
              refine r_getR hC 16 fl11_55 ob11 rfl dX11_goes_100 ?_
              refine r_iload hC 2 dX11_goes_103 rfl ?_
              refine r_iload hC 0 dX11_goes_105 rfl ?_
              obtain ⟨g61, hO⟩ := hO
              refine r_iast hC sh11_28 g61 v10.toNatClampNeg rfl dX11_goes_107 ?_
              refine r_nmM (fun μ62 hμ62 => ?_)
              have hO := hO μ62 hμ62
              refine r_aload_n hC 3 dX11_goes_108 rfl rfl ?_
              refine r_getR hC 17 fl11_58 ob11 rfl dX11_goes_109 ?_
              refine r_iload hC 2 dX11_goes_112 rfl ?_
              refine r_aload_n hC 3 dX11_goes_114 rfl rfl ?_
              refine r_callVi hC [] (T11_lopsided  hO) yv11_lopsided ml11_167 ob11 rfl ⟨Nat.le_of_ble_eq_true rfl, Nat.le_of_ble_eq_true rfl⟩ rfl rfl (Nat.le_of_ble_eq_true rfl) dX11_goes_115 (fun r63 μ64 hO => ?_)
              obtain ⟨hO, hm⟩ := hO
              refine r_memEq hm ?_
              obtain ⟨g65, hO⟩ := hO
              refine r_iast hC sh11_29 g65 v10.toNatClampNeg rfl dX11_goes_118 ?_
              refine r_nmM (fun μ66 hμ66 => ?_)
              have hO := hO μ66 hμ66
              refine r_aload_n hC 3 dX11_goes_119 rfl rfl ?_
              refine r_getR hC 18 fl11_61 ob11 rfl dX11_goes_120 ?_
              refine r_iload hC 2 dX11_goes_123 rfl ?_
              refine r_aload_n hC 3 dX11_goes_125 rfl rfl ?_
              refine r_aload_n hC 3 dX11_goes_126 rfl rfl ?_
              refine r_getR hC 17 fl11_58 ob11 rfl dX11_goes_127 ?_
              refine r_iload hC 2 dX11_goes_130 rfl ?_
              obtain ⟨g67, hO⟩ := hO
              refine r_iald hC sh11_29 g67 v10.toNatClampNeg rfl dX11_goes_132 ?_
              refine r_iload hC 0 dX11_goes_133 rfl ?_
              refine r_callVi hC [.int (μ66.1 17 v10.toNatClampNeg), .int r57] (T11_shakeOf  hO) yv11_shakeOf ml11_182 ob11 rfl ⟨Nat.le_of_ble_eq_true rfl, Nat.le_of_ble_eq_true rfl⟩ rfl rfl (Nat.le_of_ble_eq_true rfl) dX11_goes_135 (fun r68 μ69 hO => ?_)
              obtain ⟨hO, hm⟩ := hO
              refine r_memEq hm ?_
              obtain ⟨g70, hO⟩ := hO
              refine r_iast hC sh11_30 g70 v10.toNatClampNeg rfl dX11_goes_138 ?_
              refine r_nmM (fun μ71 hμ71 => ?_)
              have hO := hO μ71 hμ71
              refine r_aload_n hC 3 dX11_goes_139 rfl rfl ?_
              refine r_getR hC 19 fl11_64 ob11 rfl dX11_goes_140 ?_
              refine r_iload hC 2 dX11_goes_143 rfl ?_
              refine r_aload_n hC 3 dX11_goes_145 rfl rfl ?_
              refine r_getI hC fl11_257 ob11 rfl dX11_goes_146 ?_
              obtain ⟨g72, hO⟩ := hO
              refine r_iast hC sh11_31 g72 v10.toNatClampNeg rfl dX11_goes_149 ?_
              refine r_nmM (fun μ73 hμ73 => ?_)
              have hO := hO μ73 hμ73
              refine r_aload_n hC 3 dX11_goes_150 rfl rfl ?_
              refine r_getR hC 20 fl11_67 ob11 rfl dX11_goes_151 ?_
              refine r_iload hC 2 dX11_goes_154 rfl ?_
              refine r_aload_n hC 3 dX11_goes_156 rfl rfl ?_
              refine r_getI hC fl11_263 ob11 rfl dX11_goes_157 ?_
              obtain ⟨g74, hO⟩ := hO
              refine r_iast hC sh11_32 g74 v10.toNatClampNeg rfl dX11_goes_160 ?_
              refine r_nmM (fun μ75 hμ75 => ?_)
              have hO := hO μ75 hμ75
              obtain ⟨x76, hx76⟩ : ∃ y : Int32, y = v10 + 1 := ⟨_, rfl⟩
              have hO := hO x76 hx76
              refine r_iinc hC x76 2 [(8, .int x76), (7, .int r57), (9, .int 1), (0, .ref (mw_a G 0)), (1, .int p1), (2, .int p2), (3, .int p3), (4, .int p4), (5, .int p5), (6, .int p6)] dX11_goes_161 rfl (by rw [hx76]; rfl) (by decide) rfl ?_
              refine r_goto hC 53 dX11_goes_164 (by decide) ?_
              refine r_lv hC [(8, .int x76), (7, .int r57), (0, .ref (mw_a G 0)), (1, .int p1), (2, .int p2), (3, .int p3), (4, .int p4), (5, .int p5), (6, .int p6)] [0, 1, 3, 4, 5, 6, 7, 8, 9] rfl ?_
              exact ihn13 x76 r57 μ75 hO
  obtain ⟨n13, hO⟩ := hO
  refine hLn13   n13 _ _ _ hO
set_option maxHeartbeats 4000000 in
set_option maxRecDepth 100000 in
theorem T11_isRf {l : Launch} {G : mw_G} {p1 : Int32} {μ : mw_M} {QT : Prop} {QF : Prop}  (hO : P11_isRf p1 μ QT QF) : mw_Mi l G kdM yX11_isRf cX11_isRf 2 (some .boolean) 2 46 [.ref (mw_a G 0), .int p1] μ (mw_bq (mw_pv μ QT) (mw_pv μ QF)) := by
  refine mw_enter [(0, .ref (mw_a G 0)), (1, .int p1)] RX11 (by decide) rfl (Nat.le_of_ble_eq_true rfl) rfl ?_
  intro p e s m args below meth c hC
  unfold P11_isRf at hO
  refine r_iload_n hC 1 dX11_isRf_0 rfl rfl ?_
  refine r_if_lt hC 38 dX11_isRf_1 (by decide) (fun h1 => ?_) (fun h1 => ?_)
  · have hO := hO.1 h1
    refine r_iconst hC 0 dX11_isRf_38 (by decide) ?_
    exact r_zret hC rfl (by decide) dX11_isRf_39 (Or.inr ⟨rfl, hO, rfl⟩)
  · have hO := hO.2 h1
    refine r_aload_n hC 0 dX11_isRf_4 rfl rfl ?_
    refine r_iload_n hC 1 dX11_isRf_5 rfl rfl ?_
    refine r_bipush hC 10 dX11_isRf_6 (by decide) ?_
    refine r_idiv hC dX11_isRf_8 (by decide) ?_
    refine r_callVi hC [.int (p1 / 10)] (T11_isLaw  hO) yv11_isLaw ml11_241 ob11 rfl ⟨Nat.le_of_ble_eq_true rfl, Nat.le_of_ble_eq_true rfl⟩ rfl rfl (Nat.le_of_ble_eq_true rfl) dX11_isRf_9 (fun r2 μ3 hO => ?_)
    rcases hO with ⟨hr, hO⟩ | ⟨hr, hO⟩
    · refine r_topEq hr ?_
      obtain ⟨hO, hm⟩ := hO
      refine r_memEq hm ?_
      refine r_if_eq hC 38 dX11_isRf_12 (by decide) (fun h => absurd h (by decide)) (fun _ => ?_)
      refine r_iload_n hC 1 dX11_isRf_15 rfl rfl ?_
      refine r_bipush hC 10 dX11_isRf_16 (by decide) ?_
      refine r_irem hC dX11_isRf_18 (by decide) ?_
      refine r_i2l hC dX11_isRf_19 ?_
      refine r_lconst hC 0 dX11_isRf_20 (by decide) ?_
      refine r_aload_n hC 0 dX11_isRf_21 rfl rfl ?_
      refine r_getI hC fl11_151 ob11 rfl dX11_isRf_22 ?_
      refine r_iconst hC 1 dX11_isRf_25 (by decide) ?_
      refine r_isub hC dX11_isRf_26 ?_
      refine r_i2l hC dX11_isRf_27 ?_
      refine r_callSi hC [.long (Int32.toInt64 (mw_rem p1 10)), .long 0, .long (Int32.toInt64 ((μ.1 0 9) - 1))] (T11_within  hO) yv11_within ml11_106 ⟨Nat.le_of_ble_eq_true rfl, Nat.le_of_ble_eq_true rfl⟩ rfl rfl (Nat.le_of_ble_eq_true rfl) dX11_isRf_28 (fun r4 μ5 hO => ?_)
      rcases hO with ⟨hr, hO⟩ | ⟨hr, hO⟩
      · refine r_topEq hr ?_
        obtain ⟨hO, hm⟩ := hO
        refine r_memEq hm ?_
        refine r_if_eq hC 38 dX11_isRf_31 (by decide) (fun h => absurd h (by decide)) (fun _ => ?_)
        refine r_iconst hC 1 dX11_isRf_34 (by decide) ?_
        refine r_goto hC 39 dX11_isRf_35 (by decide) ?_
        exact r_zret hC rfl (by decide) dX11_isRf_39 (Or.inl ⟨rfl, hO, rfl⟩)
      · refine r_topEq hr ?_
        obtain ⟨hO, hm⟩ := hO
        refine r_memEq hm ?_
        refine r_if_eq hC 38 dX11_isRf_31 (by decide) (fun _ => ?_) (fun h => absurd (by decide) h)
        refine r_iconst hC 0 dX11_isRf_38 (by decide) ?_
        exact r_zret hC rfl (by decide) dX11_isRf_39 (Or.inr ⟨rfl, hO, rfl⟩)
    · refine r_topEq hr ?_
      obtain ⟨hO, hm⟩ := hO
      refine r_memEq hm ?_
      refine r_if_eq hC 38 dX11_isRf_12 (by decide) (fun _ => ?_) (fun h => absurd (by decide) h)
      refine r_iconst hC 0 dX11_isRf_38 (by decide) ?_
      exact r_zret hC rfl (by decide) dX11_isRf_39 (Or.inr ⟨rfl, hO, rfl⟩)
set_option maxHeartbeats 4000000 in
set_option maxRecDepth 100000 in
theorem T11_isGoal {l : Launch} {G : mw_G} {p1 : Int32} {μ : mw_M} {QT : Prop} {QF : Prop}  (hO : P11_isGoal p1 QT QF) : mw_Mi l G kdM yX11_isGoal cX11_isGoal 1 (some .boolean) 1 25 [.int p1] μ (mw_bq (mw_pv μ QT) (mw_pv μ QF)) := by
  refine mw_enter [(0, .int p1)] RX11 (by decide) rfl (Nat.le_of_ble_eq_true rfl) rfl ?_
  intro p e s m args below meth c hC
  unfold P11_isGoal at hO
  refine r_iload_n hC 0 dX11_isGoal_0 rfl rfl ?_
  refine r_i2l hC dX11_isGoal_1 ?_
  refine r_ldc2 hC kc11_145 dX11_isGoal_2 ?_
  refine r_ldc2 hC kc11_180 dX11_isGoal_5 ?_
  refine r_callSi hC [.long (Int32.toInt64 p1), .long 100, .long 1200] (T11_within  hO) yv11_within ml11_106 ⟨Nat.le_of_ble_eq_true rfl, Nat.le_of_ble_eq_true rfl⟩ rfl rfl (Nat.le_of_ble_eq_true rfl) dX11_isGoal_8 (fun r1 μ2 hO => ?_)
  rcases hO with ⟨hr, hO⟩ | ⟨hr, hO⟩
  · refine r_topEq hr ?_
    obtain ⟨hO, hm⟩ := hO
    refine r_memEq hm ?_
    exact r_zret hC rfl (by decide) dX11_isGoal_11 (Or.inl ⟨rfl, hO, rfl⟩)
  · refine r_topEq hr ?_
    obtain ⟨hO, hm⟩ := hO
    refine r_memEq hm ?_
    exact r_zret hC rfl (by decide) dX11_isGoal_11 (Or.inr ⟨rfl, hO, rfl⟩)
set_option maxHeartbeats 4000000 in
set_option maxRecDepth 100000 in
theorem T11_run {l : Launch} {G : mw_G} {p1 : Int32} {p2 : Int32} {p3 : Int32} {p4 : Int32} {μ : mw_M} {Q : Int32 → mw_M → Prop}  (hO : P11_run p1 p2 p3 p4 μ Q) : mw_Mi l G kdM yX11_run cX11_run 5 (some .int) 71 1714 [.ref (mw_a G 0), .int p1, .int p2, .int p3, .int p4] μ (Q) := by
  refine mw_enter [(0, .ref (mw_a G 0)), (1, .int p1), (2, .int p2), (3, .int p3), (4, .int p4)] RX11 (by decide) rfl (Nat.le_of_ble_eq_true rfl) rfl ?_
  intro p e s m args below meth c hC
  unfold P11_run at hO
  refine r_aload_n hC 0 dX11_run_0 rfl rfl ?_
  refine r_iload_n hC 1 dX11_run_1 rfl rfl ?_
  refine r_callVi hC [.int p1] (T11_isRf  hO) yv11_isRf ml11_302 ob11 rfl ⟨Nat.le_of_ble_eq_true rfl, Nat.le_of_ble_eq_true rfl⟩ rfl rfl (Nat.le_of_ble_eq_true rfl) dX11_run_2 (fun r1 μ2 hO => ?_)
  rcases hO with ⟨hr, hO⟩ | ⟨hr, hO⟩
  · refine r_topEq hr ?_
    obtain ⟨hO, hm⟩ := hO
    refine r_memEq hm ?_
    refine r_if_eq hC 50 dX11_run_5 (by decide) (fun h => absurd h (by decide)) (fun _ => ?_)
    refine r_iload_n hC 2 dX11_run_8 rfl rfl ?_
    refine r_if_lt hC 50 dX11_run_9 (by decide) (fun h3 => ?_) (fun h3 => ?_)
    · have hO := hO.1 h3
      refine r_iconst hC (-1) dX11_run_50 (by decide) ?_
      exact r_iret hC rfl dX11_run_51 hO
    · have hO := hO.2 h3
      refine r_iload_n hC 2 dX11_run_12 rfl rfl ?_
      refine r_sipush hC 1000 dX11_run_13 (by decide) ?_
      refine r_idiv hC dX11_run_16 (by decide) ?_
      refine r_callSi hC [.int (p2 / 1000)] (T11_isGoal  hO) yv11_isGoal ml11_305 ⟨Nat.le_of_ble_eq_true rfl, Nat.le_of_ble_eq_true rfl⟩ rfl rfl (Nat.le_of_ble_eq_true rfl) dX11_run_17 (fun r4 μ5 hO => ?_)
      rcases hO with ⟨hr, hO⟩ | ⟨hr, hO⟩
      · refine r_topEq hr ?_
        obtain ⟨hO, hm⟩ := hO
        refine r_memEq hm ?_
        refine r_if_eq hC 50 dX11_run_20 (by decide) (fun h => absurd h (by decide)) (fun _ => ?_)
        refine r_iload_n hC 2 dX11_run_23 rfl rfl ?_
        refine r_sipush hC 1000 dX11_run_24 (by decide) ?_
        refine r_irem hC dX11_run_27 (by decide) ?_
        refine r_i2l hC dX11_run_28 ?_
        refine r_lconst hC 1 dX11_run_29 (by decide) ?_
        refine r_ldc2 hC kc11_308 dX11_run_30 ?_
        refine r_callSi hC [.long (Int32.toInt64 (mw_rem p2 1000)), .long 1, .long 200] (T11_within  hO) yv11_within ml11_106 ⟨Nat.le_of_ble_eq_true rfl, Nat.le_of_ble_eq_true rfl⟩ rfl rfl (Nat.le_of_ble_eq_true rfl) dX11_run_33 (fun r6 μ7 hO => ?_)
        rcases hO with ⟨hr, hO⟩ | ⟨hr, hO⟩
        · refine r_topEq hr ?_
          obtain ⟨hO, hm⟩ := hO
          refine r_memEq hm ?_
          refine r_if_eq hC 50 dX11_run_36 (by decide) (fun h => absurd h (by decide)) (fun _ => ?_)
          refine r_iload hC 4 dX11_run_39 rfl ?_
          refine r_i2l hC dX11_run_41 ?_
          refine r_lconst hC 0 dX11_run_42 (by decide) ?_
          refine r_lconst hC 1 dX11_run_43 (by decide) ?_
          refine r_callSi hC [.long (Int32.toInt64 p4), .long 0, .long 1] (T11_within  hO) yv11_within ml11_106 ⟨Nat.le_of_ble_eq_true rfl, Nat.le_of_ble_eq_true rfl⟩ rfl rfl (Nat.le_of_ble_eq_true rfl) dX11_run_44 (fun r8 μ9 hO => ?_)
          rcases hO with ⟨hr, hO⟩ | ⟨hr, hO⟩
          · refine r_topEq hr ?_
            obtain ⟨hO, hm⟩ := hO
            refine r_memEq hm ?_
            refine r_if_ne hC 52 dX11_run_47 (by decide) (fun _ => ?_) (fun h => absurd h (by decide))
            refine r_aload_n hC 0 dX11_run_52 rfl rfl ?_
            refine r_callVv hC [] (T11_keepsLoad  hO) yv11_keepsLoad ml11_310 ob11 rfl ⟨Nat.le_of_ble_eq_true rfl, Nat.le_of_ble_eq_true rfl⟩ rfl rfl (Nat.le_of_ble_eq_true rfl) dX11_run_53 (fun μ10 hO => ?_)
            refine r_aload_n hC 0 dX11_run_56 rfl rfl ?_
            refine r_iload_n hC 1 dX11_run_57 rfl rfl ?_
            refine r_bipush hC 10 dX11_run_58 (by decide) ?_
            refine r_idiv hC dX11_run_60 (by decide) ?_
            refine r_iload_n hC 1 dX11_run_61 rfl rfl ?_
            refine r_bipush hC 10 dX11_run_62 (by decide) ?_
            refine r_irem hC dX11_run_64 (by decide) ?_
            refine r_iload_n hC 2 dX11_run_65 rfl rfl ?_
            refine r_sipush hC 1000 dX11_run_66 (by decide) ?_
            refine r_idiv hC dX11_run_69 (by decide) ?_
            refine r_iload_n hC 2 dX11_run_70 rfl rfl ?_
            refine r_sipush hC 1000 dX11_run_71 (by decide) ?_
            refine r_irem hC dX11_run_74 (by decide) ?_
            refine r_iload_n hC 3 dX11_run_75 rfl rfl ?_
            refine r_iconst hC 1 dX11_run_76 (by decide) ?_
            refine r_callVv hC [.int (p1 / 10), .int (mw_rem p1 10), .int (p2 / 1000), .int (mw_rem p2 1000), .int p3, .int 1] (T11_goes  hO) yv11_goes ml11_313 ob11 rfl ⟨Nat.le_of_ble_eq_true rfl, Nat.le_of_ble_eq_true rfl⟩ rfl rfl (Nat.le_of_ble_eq_true rfl) dX11_run_77 (fun μ11 hO => ?_)
            refine r_aload_n hC 0 dX11_run_80 rfl rfl ?_
            refine r_iload_n hC 2 dX11_run_81 rfl rfl ?_
            refine r_sipush hC 1000 dX11_run_82 (by decide) ?_
            refine r_irem hC dX11_run_85 (by decide) ?_
            refine r_putI hC fl11_317 ob11 rfl rfl rfl dX11_run_86 ?_
            refine r_nmM (fun μ12 hμ12 => ?_)
            have hO := hO μ12 hμ12
            refine r_aload_n hC 0 dX11_run_89 rfl rfl ?_
            refine r_aload_n hC 0 dX11_run_90 rfl rfl ?_
            refine r_getI hC fl11_285 ob11 rfl dX11_run_91 ?_
            refine r_putI hC fl11_320 ob11 rfl rfl rfl dX11_run_94 ?_
            refine r_nmM (fun μ13 hμ13 => ?_)
            have hO := hO μ13 hμ13
            refine r_aload_n hC 0 dX11_run_97 rfl rfl ?_
            refine r_aload_n hC 0 dX11_run_98 rfl rfl ?_
            refine r_getI hC fl11_254 ob11 rfl dX11_run_99 ?_
            refine r_putI hC fl11_323 ob11 rfl rfl rfl dX11_run_102 ?_
            refine r_nmM (fun μ14 hμ14 => ?_)
            have hO := hO μ14 hμ14
            refine r_aload_n hC 0 dX11_run_105 rfl rfl ?_
            refine r_aload_n hC 0 dX11_run_106 rfl rfl ?_
            refine r_getI hC fl11_272 ob11 rfl dX11_run_107 ?_
            refine r_putI hC fl11_326 ob11 rfl rfl rfl dX11_run_110 ?_
            refine r_nmM (fun μ15 hμ15 => ?_)
            have hO := hO μ15 hμ15
            refine r_aload_n hC 0 dX11_run_113 rfl rfl ?_
            refine r_aload_n hC 0 dX11_run_114 rfl rfl ?_
            refine r_getI hC fl11_292 ob11 rfl dX11_run_115 ?_
            refine r_putI hC fl11_329 ob11 rfl rfl rfl dX11_run_118 ?_
            refine r_nmM (fun μ16 hμ16 => ?_)
            have hO := hO μ16 hμ16
            refine r_aload_n hC 0 dX11_run_121 rfl rfl ?_
            refine r_aload_n hC 0 dX11_run_122 rfl rfl ?_
            refine r_callVi hC [] (T11_allWet  hO) yv11_allWet ml11_173 ob11 rfl ⟨Nat.le_of_ble_eq_true rfl, Nat.le_of_ble_eq_true rfl⟩ rfl rfl (Nat.le_of_ble_eq_true rfl) dX11_run_123 (fun r17 μ18 hO => ?_)
            obtain ⟨hO, hm⟩ := hO
            refine r_memEq hm ?_
            refine r_putI hC fl11_332 ob11 rfl rfl rfl dX11_run_126 ?_
            refine r_nmM (fun μ19 hμ19 => ?_)
            have hO := hO μ19 hμ19
            refine r_aload_n hC 0 dX11_run_129 rfl rfl ?_
            refine r_aload_n hC 0 dX11_run_130 rfl rfl ?_
            refine r_getI hC fl11_295 ob11 rfl dX11_run_131 ?_
            refine r_putI hC fl11_335 ob11 rfl rfl rfl dX11_run_134 ?_
            refine r_nmM (fun μ20 hμ20 => ?_)
            have hO := hO μ20 hμ20
            refine r_aload_n hC 0 dX11_run_137 rfl rfl ?_
            refine r_aload_n hC 0 dX11_run_138 rfl rfl ?_
            refine r_getR hC 6 fl11_25 ob11 rfl dX11_run_139 ?_
            refine r_iconst hC 4 dX11_run_142 (by decide) ?_
            refine r_iald hC sh11_8 (vpc (by decide) : vp_in 4 5) 4 (by decide) dX11_run_143 ?_
            refine r_putI hC fl11_338 ob11 rfl rfl rfl dX11_run_144 ?_
            refine r_nmM (fun μ21 hμ21 => ?_)
            have hO := hO μ21 hμ21
            refine r_iload hC 4 dX11_run_147 rfl ?_
            refine r_if_ne hC 159 dX11_run_149 (by decide) (fun h22 => ?_) (fun h22 => ?_)
            · have hO := hO.2 h22
              refine r_aload_n hC 0 dX11_run_159 rfl rfl ?_
              refine r_iconst hC 0 dX11_run_160 (by decide) ?_
              refine r_putI hC fl11_93 ob11 rfl rfl rfl dX11_run_161 ?_
              refine r_nmM (fun μ23 hμ23 => ?_)
              have hO := hO μ23 hμ23
              refine r_aload_n hC 0 dX11_run_164 rfl rfl ?_
              refine r_iconst hC 0 dX11_run_165 (by decide) ?_
              refine r_putI hC fl11_96 ob11 rfl rfl rfl dX11_run_166 ?_
              refine r_nmM (fun μ24 hμ24 => ?_)
              have hO := hO μ24 hμ24
              refine r_aload_n hC 0 dX11_run_169 rfl rfl ?_
              refine r_getR hC 16 fl11_55 ob11 rfl dX11_run_170 ?_
              refine r_aload_n hC 0 dX11_run_173 rfl rfl ?_
              refine r_getI hC fl11_317 ob11 rfl dX11_run_174 ?_
              refine r_iconst hC 1 dX11_run_177 (by decide) ?_
              refine r_isub hC dX11_run_178 ?_
              obtain ⟨g25, hO⟩ := hO
              refine r_iald hC sh11_28 g25 (((μ24.1 0 41) - 1).toNatClampNeg) rfl dX11_run_179 ?_
              exact r_iret hC rfl dX11_run_180 hO
            · have hO := hO.1 h22
              refine r_aload_n hC 0 dX11_run_152 rfl rfl ?_
              refine r_callVv hC [] (T11_laysBack  hO) yv11_laysBack ml11_341 ob11 rfl ⟨Nat.le_of_ble_eq_true rfl, Nat.le_of_ble_eq_true rfl⟩ rfl rfl (Nat.le_of_ble_eq_true rfl) dX11_run_153 (fun μ26 hO => ?_)
              refine r_goto hC 169 dX11_run_156 (by decide) ?_
              refine r_aload_n hC 0 dX11_run_169 rfl rfl ?_
              refine r_getR hC 16 fl11_55 ob11 rfl dX11_run_170 ?_
              refine r_aload_n hC 0 dX11_run_173 rfl rfl ?_
              refine r_getI hC fl11_317 ob11 rfl dX11_run_174 ?_
              refine r_iconst hC 1 dX11_run_177 (by decide) ?_
              refine r_isub hC dX11_run_178 ?_
              obtain ⟨g27, hO⟩ := hO
              refine r_iald hC sh11_28 g27 (((μ26.1 0 41) - 1).toNatClampNeg) rfl dX11_run_179 ?_
              exact r_iret hC rfl dX11_run_180 hO
          · refine r_topEq hr ?_
            obtain ⟨hO, hm⟩ := hO
            refine r_memEq hm ?_
            refine r_if_ne hC 52 dX11_run_47 (by decide) (fun h => absurd (by decide) h) (fun _ => ?_)
            refine r_iconst hC (-1) dX11_run_50 (by decide) ?_
            exact r_iret hC rfl dX11_run_51 hO
        · refine r_topEq hr ?_
          obtain ⟨hO, hm⟩ := hO
          refine r_memEq hm ?_
          refine r_if_eq hC 50 dX11_run_36 (by decide) (fun _ => ?_) (fun h => absurd (by decide) h)
          refine r_iconst hC (-1) dX11_run_50 (by decide) ?_
          exact r_iret hC rfl dX11_run_51 hO
      · refine r_topEq hr ?_
        obtain ⟨hO, hm⟩ := hO
        refine r_memEq hm ?_
        refine r_if_eq hC 50 dX11_run_20 (by decide) (fun _ => ?_) (fun h => absurd (by decide) h)
        refine r_iconst hC (-1) dX11_run_50 (by decide) ?_
        exact r_iret hC rfl dX11_run_51 hO
  · refine r_topEq hr ?_
    obtain ⟨hO, hm⟩ := hO
    refine r_memEq hm ?_
    refine r_if_eq hC 50 dX11_run_5 (by decide) (fun _ => ?_) (fun h => absurd (by decide) h)
    refine r_iconst hC (-1) dX11_run_50 (by decide) ?_
    exact r_iret hC rfl dX11_run_51 hO
set_option maxHeartbeats 4000000 in
set_option maxRecDepth 100000 in
theorem T11_led {l : Launch} {G : mw_G} {p1 : Int32} {p2 : Int32} {μ : mw_M} {Q : Int32 → Prop}  (hO : P11_led p1 p2 μ Q) : mw_Mi l G kdM yX11_led cX11_led 3 (some .int) 1 25 [.ref (mw_a G 0), .int p1, .int p2] μ (mw_pq μ Q) := by
  refine mw_enter [(0, .ref (mw_a G 0)), (1, .int p1), (2, .int p2)] RX11 (by decide) rfl (Nat.le_of_ble_eq_true rfl) rfl ?_
  intro p e s m args below meth c hC
  unfold P11_led at hO
  refine r_aload_n hC 0 dX11_led_0 rfl rfl ?_
  refine r_getI hC fl11_317 ob11 rfl dX11_led_1 ?_
  refine r_if_eq hC 25 dX11_led_4 (by decide) (fun h1 => ?_) (fun h1 => ?_)
  · have hO := hO.1 h1
    refine r_ldc hC kc11_176 dX11_led_25 ?_
    exact r_iret hC rfl dX11_led_27 ⟨hO, rfl⟩
  · have hO := hO.2 h1
    refine r_iload_n hC 1 dX11_led_7 rfl rfl ?_
    refine r_i2l hC dX11_led_8 ?_
    refine r_ldc2 hC kc11_344 dX11_led_9 ?_
    refine r_aload_n hC 0 dX11_led_12 rfl rfl ?_
    refine r_getI hC fl11_317 ob11 rfl dX11_led_13 ?_
    refine r_iconst hC 1 dX11_led_16 (by decide) ?_
    refine r_isub hC dX11_led_17 ?_
    refine r_i2l hC dX11_led_18 ?_
    refine r_callSi hC [.long (Int32.toInt64 p1), .long (-1), .long (Int32.toInt64 ((μ.1 0 41) - 1))] (T11_within  hO) yv11_within ml11_106 ⟨Nat.le_of_ble_eq_true rfl, Nat.le_of_ble_eq_true rfl⟩ rfl rfl (Nat.le_of_ble_eq_true rfl) dX11_led_19 (fun r2 μ3 hO => ?_)
    rcases hO with ⟨hr, hO⟩ | ⟨hr, hO⟩
    · refine r_topEq hr ?_
      obtain ⟨hO, hm⟩ := hO
      refine r_memEq hm ?_
      refine r_if_ne hC 28 dX11_led_22 (by decide) (fun _ => ?_) (fun h => absurd h (by decide))
      refine r_iload_n hC 2 dX11_led_28 rfl rfl ?_
      by_cases h4 : p2 = 0
      · have hO := hO.1 h4
        refine r_tin hC 64 dX11_led_29 (by rw [h4]; decide) (by rw [h4]; decide) (by rw [h4] <;> rfl) (by decide) ?_
        refine r_iload_n hC 1 dX11_led_64 rfl rfl ?_
        refine r_if_ge hC 75 dX11_led_65 (by decide) (fun h5 => ?_) (fun h5 => ?_)
        · have hO := hO.1 h5
          refine r_aload_n hC 0 dX11_led_75 rfl rfl ?_
          refine r_getR hC 16 fl11_55 ob11 rfl dX11_led_76 ?_
          refine r_iload_n hC 1 dX11_led_79 rfl rfl ?_
          obtain ⟨g6, hO⟩ := hO
          refine r_iald hC sh11_28 g6 p1.toNatClampNeg rfl dX11_led_80 ?_
          exact r_iret hC rfl dX11_led_81 ⟨hO, rfl⟩
        · have hO := hO.2 h5
          refine r_aload_n hC 0 dX11_led_68 rfl rfl ?_
          refine r_getI hC fl11_317 ob11 rfl dX11_led_69 ?_
          refine r_goto hC 81 dX11_led_72 (by decide) ?_
          exact r_iret hC rfl dX11_led_81 ⟨hO, rfl⟩
      by_cases h7 : p2 = 1
      · have hO := hO.2.1 h7
        refine r_tin hC 82 dX11_led_29 (by rw [h7]; decide) (by rw [h7]; decide) (by rw [h7] <;> rfl) (by decide) ?_
        refine r_iload_n hC 1 dX11_led_82 rfl rfl ?_
        refine r_if_ge hC 93 dX11_led_83 (by decide) (fun h8 => ?_) (fun h8 => ?_)
        · have hO := hO.1 h8
          refine r_aload_n hC 0 dX11_led_93 rfl rfl ?_
          refine r_getR hC 17 fl11_58 ob11 rfl dX11_led_94 ?_
          refine r_iload_n hC 1 dX11_led_97 rfl rfl ?_
          obtain ⟨g9, hO⟩ := hO
          refine r_iald hC sh11_29 g9 p1.toNatClampNeg rfl dX11_led_98 ?_
          exact r_iret hC rfl dX11_led_99 ⟨hO, rfl⟩
        · have hO := hO.2 h8
          refine r_aload_n hC 0 dX11_led_86 rfl rfl ?_
          refine r_getI hC fl11_320 ob11 rfl dX11_led_87 ?_
          refine r_goto hC 99 dX11_led_90 (by decide) ?_
          exact r_iret hC rfl dX11_led_99 ⟨hO, rfl⟩
      by_cases h10 : p2 = 2
      · have hO := hO.2.2.1 h10
        refine r_tin hC 100 dX11_led_29 (by rw [h10]; decide) (by rw [h10]; decide) (by rw [h10] <;> rfl) (by decide) ?_
        refine r_iload_n hC 1 dX11_led_100 rfl rfl ?_
        refine r_if_ge hC 111 dX11_led_101 (by decide) (fun h11 => ?_) (fun h11 => ?_)
        · have hO := hO.1 h11
          refine r_aload_n hC 0 dX11_led_111 rfl rfl ?_
          refine r_getR hC 18 fl11_61 ob11 rfl dX11_led_112 ?_
          refine r_iload_n hC 1 dX11_led_115 rfl rfl ?_
          obtain ⟨g12, hO⟩ := hO
          refine r_iald hC sh11_30 g12 p1.toNatClampNeg rfl dX11_led_116 ?_
          exact r_iret hC rfl dX11_led_117 ⟨hO, rfl⟩
        · have hO := hO.2 h11
          refine r_aload_n hC 0 dX11_led_104 rfl rfl ?_
          refine r_getI hC fl11_323 ob11 rfl dX11_led_105 ?_
          refine r_goto hC 117 dX11_led_108 (by decide) ?_
          exact r_iret hC rfl dX11_led_117 ⟨hO, rfl⟩
      by_cases h13 : p2 = 3
      · have hO := hO.2.2.2.1 h13
        refine r_tin hC 118 dX11_led_29 (by rw [h13]; decide) (by rw [h13]; decide) (by rw [h13] <;> rfl) (by decide) ?_
        refine r_iload_n hC 1 dX11_led_118 rfl rfl ?_
        refine r_if_ge hC 129 dX11_led_119 (by decide) (fun h14 => ?_) (fun h14 => ?_)
        · have hO := hO.1 h14
          refine r_aload_n hC 0 dX11_led_129 rfl rfl ?_
          refine r_getR hC 19 fl11_64 ob11 rfl dX11_led_130 ?_
          refine r_iload_n hC 1 dX11_led_133 rfl rfl ?_
          obtain ⟨g15, hO⟩ := hO
          refine r_iald hC sh11_31 g15 p1.toNatClampNeg rfl dX11_led_134 ?_
          exact r_iret hC rfl dX11_led_135 ⟨hO, rfl⟩
        · have hO := hO.2 h14
          refine r_aload_n hC 0 dX11_led_122 rfl rfl ?_
          refine r_getI hC fl11_326 ob11 rfl dX11_led_123 ?_
          refine r_goto hC 135 dX11_led_126 (by decide) ?_
          exact r_iret hC rfl dX11_led_135 ⟨hO, rfl⟩
      by_cases h16 : p2 = 4
      · have hO := hO.2.2.2.2.1 h16
        refine r_tin hC 136 dX11_led_29 (by rw [h16]; decide) (by rw [h16]; decide) (by rw [h16] <;> rfl) (by decide) ?_
        refine r_iload_n hC 1 dX11_led_136 rfl rfl ?_
        refine r_if_ge hC 145 dX11_led_137 (by decide) (fun h17 => ?_) (fun h17 => ?_)
        · have hO := hO.1 h17
          refine r_aload_n hC 0 dX11_led_145 rfl rfl ?_
          refine r_getR hC 20 fl11_67 ob11 rfl dX11_led_146 ?_
          refine r_iload_n hC 1 dX11_led_149 rfl rfl ?_
          obtain ⟨g18, hO⟩ := hO
          refine r_iald hC sh11_32 g18 p1.toNatClampNeg rfl dX11_led_150 ?_
          exact r_iret hC rfl dX11_led_151 ⟨hO, rfl⟩
        · have hO := hO.2 h17
          refine r_ldc hC kc11_176 dX11_led_140 ?_
          refine r_goto hC 151 dX11_led_142 (by decide) ?_
          exact r_iret hC rfl dX11_led_151 ⟨hO, rfl⟩
      have hO := hO.2.2.2.2.2 h4 h7 h10 h13 h16
      refine r_tdef hC 152 dX11_led_29 (by decide) rfl (fun k hk => match k, hk with | 0, _ => Or.inr (mw_ne h4 rfl) | 1, _ => Or.inr (mw_ne h7 rfl) | 2, _ => Or.inr (mw_ne h10 rfl) | 3, _ => Or.inr (mw_ne h13 rfl) | 4, _ => Or.inr (mw_ne h16 rfl) | k + 5, h => absurd h (by show ¬ k + 5 < 5; omega)) ?_
      refine r_ldc hC kc11_176 dX11_led_152 ?_
      exact r_iret hC rfl dX11_led_154 ⟨hO, rfl⟩
    · refine r_topEq hr ?_
      obtain ⟨hO, hm⟩ := hO
      refine r_memEq hm ?_
      refine r_if_ne hC 28 dX11_led_22 (by decide) (fun h => absurd (by decide) h) (fun _ => ?_)
      refine r_ldc hC kc11_176 dX11_led_25 ?_
      exact r_iret hC rfl dX11_led_27 ⟨hO, rfl⟩
set_option maxHeartbeats 4000000 in
set_option maxRecDepth 100000 in
theorem T11_did {l : Launch} {G : mw_G} {p1 : Int32} {μ : mw_M} {Q : Int32 → Prop}  (hO : P11_did p1 μ Q) : mw_Mi l G kdM yX11_did cX11_did 2 (some .int) 1 20 [.ref (mw_a G 0), .int p1] μ (mw_pq μ Q) := by
  refine mw_enter [(0, .ref (mw_a G 0)), (1, .int p1)] RX11 (by decide) rfl (Nat.le_of_ble_eq_true rfl) rfl ?_
  intro p e s m args below meth c hC
  unfold P11_did at hO
  refine r_aload_n hC 0 dX11_did_0 rfl rfl ?_
  refine r_getI hC fl11_317 ob11 rfl dX11_did_1 ?_
  refine r_if_ne hC 10 dX11_did_4 (by decide) (fun h1 => ?_) (fun h1 => ?_)
  · have hO := hO.2 h1
    refine r_iload_n hC 1 dX11_did_10 rfl rfl ?_
    by_cases h2 : p1 = 0
    · have hO := hO.1 h2
      refine r_tin hC 44 dX11_did_11 (by rw [h2]; decide) (by rw [h2]; decide) (by rw [h2] <;> rfl) (by decide) ?_
      refine r_aload_n hC 0 dX11_did_44 rfl rfl ?_
      refine r_getI hC fl11_329 ob11 rfl dX11_did_45 ?_
      exact r_iret hC rfl dX11_did_48 ⟨hO, rfl⟩
    by_cases h3 : p1 = 1
    · have hO := hO.2.1 h3
      refine r_tin hC 49 dX11_did_11 (by rw [h3]; decide) (by rw [h3]; decide) (by rw [h3] <;> rfl) (by decide) ?_
      refine r_aload_n hC 0 dX11_did_49 rfl rfl ?_
      refine r_getI hC fl11_332 ob11 rfl dX11_did_50 ?_
      exact r_iret hC rfl dX11_did_53 ⟨hO, rfl⟩
    by_cases h4 : p1 = 2
    · have hO := hO.2.2.1 h4
      refine r_tin hC 54 dX11_did_11 (by rw [h4]; decide) (by rw [h4]; decide) (by rw [h4] <;> rfl) (by decide) ?_
      refine r_aload_n hC 0 dX11_did_54 rfl rfl ?_
      refine r_getR hC 19 fl11_64 ob11 rfl dX11_did_55 ?_
      refine r_aload_n hC 0 dX11_did_58 rfl rfl ?_
      refine r_getI hC fl11_317 ob11 rfl dX11_did_59 ?_
      refine r_iconst hC 1 dX11_did_62 (by decide) ?_
      refine r_isub hC dX11_did_63 ?_
      obtain ⟨g5, hO⟩ := hO
      refine r_iald hC sh11_31 g5 (((μ.1 0 41) - 1).toNatClampNeg) rfl dX11_did_64 ?_
      refine r_callSi hC [.int (μ.1 19 (((μ.1 0 41) - 1).toNatClampNeg))] (T11_size  hO) yv11_size ml11_161 ⟨Nat.le_of_ble_eq_true rfl, Nat.le_of_ble_eq_true rfl⟩ rfl rfl (Nat.le_of_ble_eq_true rfl) dX11_did_65 (fun r6 μ7 hO => ?_)
      obtain ⟨hO, hm⟩ := hO
      refine r_memEq hm ?_
      refine r_aload_n hC 0 dX11_did_68 rfl rfl ?_
      refine r_getR hC 20 fl11_67 ob11 rfl dX11_did_69 ?_
      refine r_aload_n hC 0 dX11_did_72 rfl rfl ?_
      refine r_getI hC fl11_317 ob11 rfl dX11_did_73 ?_
      refine r_iconst hC 1 dX11_did_76 (by decide) ?_
      refine r_isub hC dX11_did_77 ?_
      obtain ⟨g8, hO⟩ := hO
      refine r_iald hC sh11_32 g8 (((μ.1 0 41) - 1).toNatClampNeg) rfl dX11_did_78 ?_
      refine r_callSi hC [.int (μ.1 20 (((μ.1 0 41) - 1).toNatClampNeg))] (T11_size  hO) yv11_size ml11_161 ⟨Nat.le_of_ble_eq_true rfl, Nat.le_of_ble_eq_true rfl⟩ rfl rfl (Nat.le_of_ble_eq_true rfl) dX11_did_79 (fun r9 μ10 hO => ?_)
      obtain ⟨hO, hm⟩ := hO
      refine r_memEq hm ?_
      refine r_iadd hC dX11_did_82 ?_
      exact r_iret hC rfl dX11_did_83 ⟨hO, rfl⟩
    by_cases h11 : p1 = 3
    · have hO := hO.2.2.2.1 h11
      refine r_tin hC 84 dX11_did_11 (by rw [h11]; decide) (by rw [h11]; decide) (by rw [h11] <;> rfl) (by decide) ?_
      refine r_aload_n hC 0 dX11_did_84 rfl rfl ?_
      refine r_getI hC fl11_335 ob11 rfl dX11_did_85 ?_
      exact r_iret hC rfl dX11_did_88 ⟨hO, rfl⟩
    by_cases h12 : p1 = 4
    · have hO := hO.2.2.2.2.1 h12
      refine r_tin hC 89 dX11_did_11 (by rw [h12]; decide) (by rw [h12]; decide) (by rw [h12] <;> rfl) (by decide) ?_
      refine r_aload_n hC 0 dX11_did_89 rfl rfl ?_
      refine r_getI hC fl11_335 ob11 rfl dX11_did_90 ?_
      refine r_aload_n hC 0 dX11_did_93 rfl rfl ?_
      refine r_getI hC fl11_338 ob11 rfl dX11_did_94 ?_
      refine r_icmp_le hC 104 dX11_did_97 (by decide) (fun h13 => ?_) (fun h13 => ?_)
      · have hO := hO.1 h13
        refine r_iconst hC 0 dX11_did_104 (by decide) ?_
        exact r_iret hC rfl dX11_did_105 ⟨hO, rfl⟩
      · have hO := hO.2 h13
        refine r_iconst hC 1 dX11_did_100 (by decide) ?_
        refine r_goto hC 105 dX11_did_101 (by decide) ?_
        exact r_iret hC rfl dX11_did_105 ⟨hO, rfl⟩
    have hO := hO.2.2.2.2.2 h2 h3 h4 h11 h12
    refine r_tdef hC 106 dX11_did_11 (by decide) rfl (fun k hk => match k, hk with | 0, _ => Or.inr (mw_ne h2 rfl) | 1, _ => Or.inr (mw_ne h3 rfl) | 2, _ => Or.inr (mw_ne h4 rfl) | 3, _ => Or.inr (mw_ne h11 rfl) | 4, _ => Or.inr (mw_ne h12 rfl) | k + 5, h => absurd h (by show ¬ k + 5 < 5; omega)) ?_
    refine r_ldc hC kc11_176 dX11_did_106 ?_
    exact r_iret hC rfl dX11_did_108 ⟨hO, rfl⟩
  · have hO := hO.1 h1
    refine r_ldc hC kc11_176 dX11_did_7 ?_
    exact r_iret hC rfl dX11_did_9 ⟨hO, rfl⟩
set_option maxHeartbeats 4000000 in
set_option maxRecDepth 100000 in
theorem T11_fear {l : Launch} {G : mw_G} {p1 : Int32} {μ : mw_M} {Q : Int32 → Prop}  (hO : P11_fear p1 μ Q) : mw_Mi l G kdM yX11_fear cX11_fear 5 (some .int) 4 87 [.ref (mw_a G 0), .int p1] μ (mw_pq μ Q) := by
  refine mw_enter [(0, .ref (mw_a G 0)), (1, .int p1)] RX11 (by decide) rfl (Nat.le_of_ble_eq_true rfl) rfl ?_
  intro p e s m args below meth c hC
  unfold P11_fear at hO
  refine r_iload_n hC 1 dX11_fear_0 rfl rfl ?_
  refine r_i2l hC dX11_fear_1 ?_
  refine r_lconst hC 0 dX11_fear_2 (by decide) ?_
  refine r_lconst hC 1 dX11_fear_3 (by decide) ?_
  refine r_callSi hC [.long (Int32.toInt64 p1), .long 0, .long 1] (T11_within  hO) yv11_within ml11_106 ⟨Nat.le_of_ble_eq_true rfl, Nat.le_of_ble_eq_true rfl⟩ rfl rfl (Nat.le_of_ble_eq_true rfl) dX11_fear_4 (fun r1 μ2 hO => ?_)
  rcases hO with ⟨hr, hO⟩ | ⟨hr, hO⟩
  · refine r_topEq hr ?_
    obtain ⟨hO, hm⟩ := hO
    refine r_memEq hm ?_
    refine r_if_ne hC 12 dX11_fear_7 (by decide) (fun _ => ?_) (fun h => absurd h (by decide))
    refine r_aload_n hC 0 dX11_fear_12 rfl rfl ?_
    refine r_callVi hC [] (T11_lopsided  hO) yv11_lopsided ml11_167 ob11 rfl ⟨Nat.le_of_ble_eq_true rfl, Nat.le_of_ble_eq_true rfl⟩ rfl rfl (Nat.le_of_ble_eq_true rfl) dX11_fear_13 (fun r3 μ4 hO => ?_)
    obtain ⟨hO, hm⟩ := hO
    refine r_memEq hm ?_
    refine r_istore_n hC [(2, .int r3), (0, .ref (mw_a G 0)), (1, .int p1)] dX11_fear_16 rfl (by decide) rfl ?_
    refine r_bipush hC 10 dX11_fear_17 (by decide) ?_
    refine r_istore_n hC [(3, .int 10), (2, .int r3), (0, .ref (mw_a G 0)), (1, .int p1)] dX11_fear_19 rfl (by decide) rfl ?_
    refine r_bipush hC 20 dX11_fear_20 (by decide) ?_
    refine r_istore hC [(4, .int 20), (3, .int 10), (2, .int r3), (0, .ref (mw_a G 0)), (1, .int p1)] dX11_fear_22 (by decide) rfl ?_
    have hLn7 : ∀  (K1 : Int32 → Int32 → Prop) (hK1 : ∀ (v5 : Int32) (v6 : Int32), K1 v5 v6 → mw_W p l e (mw_rm 4 87) s m args below meth c G kdM 5 (MQ below (va_Qi (mw_pq μ Q) (mw_B G kdM) (mw_A G kdM)) args s 0 0 (mw_A G kdM)) 61 [(4, .int v5), (3, .int v6), (2, .int r3), (0, .ref (mw_a G 0)), (1, .int p1)] [] μ) (n7 : Nat) (v5 : Int32) (v6 : Int32), L11_fear_24 r3 p1 μ Q K1 n7 v5 v6 → mw_W p l e (mw_rm 4 87) s m args below meth c G kdM 5 (MQ below (va_Qi (mw_pq μ Q) (mw_B G kdM) (mw_A G kdM)) args s 0 0 (mw_A G kdM)) 24 [(4, .int v5), (3, .int v6), (2, .int r3), (0, .ref (mw_a G 0)), (1, .int p1)] [] μ := by
      intro  K1 hK1 n7
      induction n7 with
      | zero => intro v5 v6 hO; exact False.elim hO
      | succ n7 ihn7 =>
        intro v5 v6 hO
        refine r_iload hC 0 dX11_fear_24 rfl ?_
        refine r_sipush hC 1200 dX11_fear_26 (by decide) ?_
        refine r_icmp_gt hC 61 dX11_fear_29 (by decide) (fun h8 => ?_) (fun h8 => ?_)
        · have hO := hO.1 h8
          refine r_lv hC [(4, .int v5), (3, .int v6), (2, .int r3), (0, .ref (mw_a G 0)), (1, .int p1)] [0, 1, 2, 3, 4] rfl ?_
          exact hK1 v5 v6 hO
        · have hO := hO.2 h8
          refine r_aload_n hC 3 dX11_fear_32 rfl rfl ?_
          refine r_iload_n hC 2 dX11_fear_33 rfl rfl ?_
          refine r_iload hC 0 dX11_fear_34 rfl ?_
          refine r_callVi hC [.int r3, .int v5] (T11_shakeOf  hO) yv11_shakeOf ml11_182 ob11 rfl ⟨Nat.le_of_ble_eq_true rfl, Nat.le_of_ble_eq_true rfl⟩ rfl rfl (Nat.le_of_ble_eq_true rfl) dX11_fear_36 (fun r9 μ10 hO => ?_)
          obtain ⟨hO, hm⟩ := hO
          refine r_memEq hm ?_
          refine r_aload_n hC 3 dX11_fear_39 rfl rfl ?_
          refine r_iload_n hC 2 dX11_fear_40 rfl rfl ?_
          refine r_iload_n hC 1 dX11_fear_41 rfl rfl ?_
          refine r_callVi hC [.int r3, .int v6] (T11_shakeOf  hO) yv11_shakeOf ml11_182 ob11 rfl ⟨Nat.le_of_ble_eq_true rfl, Nat.le_of_ble_eq_true rfl⟩ rfl rfl (Nat.le_of_ble_eq_true rfl) dX11_fear_42 (fun r11 μ12 hO => ?_)
          obtain ⟨hO, hm⟩ := hO
          refine r_memEq hm ?_
          refine r_icmp_le hC 53 dX11_fear_45 (by decide) (fun h13 => ?_) (fun h13 => ?_)
          · have hO := hO.1 h13
            refine r_iload_n hC 1 dX11_fear_53 rfl rfl ?_
            refine r_istore_n hC [(3, .int v6), (4, .int v5), (2, .int r3), (0, .ref (mw_a G 0)), (1, .int p1)] dX11_fear_54 rfl (by decide) rfl ?_
            obtain ⟨x14, hx14⟩ : ∃ y : Int32, y = v5 + 10 := ⟨_, rfl⟩
            have hO := hO x14 hx14
            refine r_iinc hC x14 1 [(4, .int x14), (3, .int v6), (2, .int r3), (0, .ref (mw_a G 0)), (1, .int p1)] dX11_fear_55 rfl (by rw [hx14]; rfl) (by decide) rfl ?_
            refine r_goto hC 24 dX11_fear_58 (by decide) ?_
            refine r_lv hC [(4, .int x14), (3, .int v6), (2, .int r3), (0, .ref (mw_a G 0)), (1, .int p1)] [0, 1, 2, 3, 4] rfl ?_
            exact ihn7 x14 v6 hO
          · have hO := hO.2 h13
            refine r_iload hC 0 dX11_fear_48 rfl ?_
            refine r_goto hC 54 dX11_fear_50 (by decide) ?_
            refine r_istore_n hC [(3, .int v5), (4, .int v5), (2, .int r3), (0, .ref (mw_a G 0)), (1, .int p1)] dX11_fear_54 rfl (by decide) rfl ?_
            obtain ⟨x15, hx15⟩ : ∃ y : Int32, y = v5 + 10 := ⟨_, rfl⟩
            have hO := hO x15 hx15
            refine r_iinc hC x15 1 [(4, .int x15), (3, .int v5), (2, .int r3), (0, .ref (mw_a G 0)), (1, .int p1)] dX11_fear_55 rfl (by rw [hx15]; rfl) (by decide) rfl ?_
            refine r_goto hC 24 dX11_fear_58 (by decide) ?_
            refine r_lv hC [(4, .int x15), (3, .int v5), (2, .int r3), (0, .ref (mw_a G 0)), (1, .int p1)] [0, 1, 2, 3, 4] rfl ?_
            exact ihn7 x15 v5 hO
    obtain ⟨n7, hO⟩ := hO
    refine hLn7  _ (fun v5 v6 hO => ?_) n7 _ _ hO
    refine r_iload_n hC 4 dX11_fear_61 rfl rfl ?_
    refine r_if_ne hC 69 dX11_fear_62 (by decide) (fun h16 => ?_) (fun h16 => ?_)
    · have hO := hO.2 h16
      refine r_aload_n hC 3 dX11_fear_69 rfl rfl ?_
      refine r_iload_n hC 2 dX11_fear_70 rfl rfl ?_
      refine r_iload_n hC 1 dX11_fear_71 rfl rfl ?_
      refine r_callVi hC [.int r3, .int v6] (T11_shakeOf  hO) yv11_shakeOf ml11_182 ob11 rfl ⟨Nat.le_of_ble_eq_true rfl, Nat.le_of_ble_eq_true rfl⟩ rfl rfl (Nat.le_of_ble_eq_true rfl) dX11_fear_72 (fun r17 μ18 hO => ?_)
      obtain ⟨hO, hm⟩ := hO
      refine r_memEq hm ?_
      exact r_iret hC rfl dX11_fear_75 ⟨hO, rfl⟩
    · have hO := hO.1 h16
      refine r_iload_n hC 1 dX11_fear_65 rfl rfl ?_
      refine r_goto hC 75 dX11_fear_66 (by decide) ?_
      exact r_iret hC rfl dX11_fear_75 ⟨hO, rfl⟩
  · refine r_topEq hr ?_
    obtain ⟨hO, hm⟩ := hO
    refine r_memEq hm ?_
    refine r_if_ne hC 12 dX11_fear_7 (by decide) (fun h => absurd (by decide) h) (fun _ => ?_)
    refine r_iconst hC (-1) dX11_fear_10 (by decide) ?_
    exact r_iret hC rfl dX11_fear_11 ⟨hO, rfl⟩
set_option maxHeartbeats 4000000 in
set_option maxRecDepth 100000 in
theorem T11_may {l : Launch} {G : mw_G} {p1 : Int32} {p2 : Int32} {μ : mw_M} {Q : Int32 → Prop}  (hO : P11_may p1 p2 μ Q) : mw_Mi l G kdM yX11_may cX11_may 5 (some .int) 2 46 [.ref (mw_a G 0), .int p1, .int p2] μ (mw_pq μ Q) := by
  refine mw_enter [(0, .ref (mw_a G 0)), (1, .int p1), (2, .int p2)] RX11 (by decide) rfl (Nat.le_of_ble_eq_true rfl) rfl ?_
  intro p e s m args below meth c hC
  unfold P11_may at hO
  refine r_iload_n hC 1 dX11_may_0 rfl rfl ?_
  refine r_i2l hC dX11_may_1 ?_
  refine r_lconst hC 0 dX11_may_2 (by decide) ?_
  refine r_aload_n hC 0 dX11_may_3 rfl rfl ?_
  refine r_getI hC fl11_151 ob11 rfl dX11_may_4 ?_
  refine r_iconst hC 1 dX11_may_7 (by decide) ?_
  refine r_isub hC dX11_may_8 ?_
  refine r_i2l hC dX11_may_9 ?_
  refine r_callSi hC [.long (Int32.toInt64 p1), .long 0, .long (Int32.toInt64 ((μ.1 0 9) - 1))] (T11_within  hO) yv11_within ml11_106 ⟨Nat.le_of_ble_eq_true rfl, Nat.le_of_ble_eq_true rfl⟩ rfl rfl (Nat.le_of_ble_eq_true rfl) dX11_may_10 (fun r1 μ2 hO => ?_)
  rcases hO with ⟨hr, hO⟩ | ⟨hr, hO⟩
  · refine r_topEq hr ?_
    obtain ⟨hO, hm⟩ := hO
    refine r_memEq hm ?_
    refine r_if_eq hC 23 dX11_may_13 (by decide) (fun h => absurd h (by decide)) (fun _ => ?_)
    refine r_iload_n hC 2 dX11_may_16 rfl rfl ?_
    refine r_callSi hC [.int p2] (T11_isGoal  hO) yv11_isGoal ml11_305 ⟨Nat.le_of_ble_eq_true rfl, Nat.le_of_ble_eq_true rfl⟩ rfl rfl (Nat.le_of_ble_eq_true rfl) dX11_may_17 (fun r3 μ4 hO => ?_)
    rcases hO with ⟨hr, hO⟩ | ⟨hr, hO⟩
    · refine r_topEq hr ?_
      obtain ⟨hO, hm⟩ := hO
      refine r_memEq hm ?_
      refine r_if_ne hC 25 dX11_may_20 (by decide) (fun _ => ?_) (fun h => absurd h (by decide))
      refine r_iconst hC 0 dX11_may_25 (by decide) ?_
      refine r_istore_n hC [(3, .int 0), (0, .ref (mw_a G 0)), (1, .int p1), (2, .int p2)] dX11_may_26 rfl (by decide) rfl ?_
      have hLn6 : ∀  (K1 : Int32 → Prop) (hK1 : ∀ (v5 : Int32), K1 v5 → mw_W p l e (mw_rm 2 46) s m args below meth c G kdM 5 (MQ below (va_Qi (mw_pq μ Q) (mw_B G kdM) (mw_A G kdM)) args s 0 0 (mw_A G kdM)) 60 [(3, .int v5), (0, .ref (mw_a G 0)), (1, .int p1), (2, .int p2)] [] μ) (n6 : Nat) (v5 : Int32), L11_may_27 p1 p2 μ Q K1 n6 v5 → mw_W p l e (mw_rm 2 46) s m args below meth c G kdM 5 (MQ below (va_Qi (mw_pq μ Q) (mw_B G kdM) (mw_A G kdM)) args s 0 0 (mw_A G kdM)) 27 [(3, .int v5), (0, .ref (mw_a G 0)), (1, .int p1), (2, .int p2)] [] μ := by
        intro  K1 hK1 n6
        induction n6 with
        | zero => intro v5 hO; exact False.elim hO
        | succ n6 ihn6 =>
          intro v5 hO
          refine r_iload_n hC 0 dX11_may_27 rfl rfl ?_
          refine r_sipush hC 9999 dX11_may_28 (by decide) ?_
          refine r_icmp_gt hC 76 dX11_may_31 (by decide) (fun h7 => ?_) (fun h7 => ?_)
          · have hO := hO.1 h7
            refine r_sipush hC 9999 dX11_may_76 (by decide) ?_
            exact r_iret hC rfl dX11_may_79 ⟨hO, rfl⟩
          · have hO := hO.2 h7
            refine r_bipush hC 10 dX11_may_34 (by decide) ?_
            refine r_istore hC [(4, .int 10), (3, .int v5), (0, .ref (mw_a G 0)), (1, .int p1), (2, .int p2)] dX11_may_36 (by decide) rfl ?_
            have hLn9 : ∀  (K1 : Int32 → Prop) (hK1 : ∀ (v8 : Int32), K1 v8 → mw_W p l e (mw_rm 2 46) s m args below meth c G kdM 5 (MQ below (va_Qi (mw_pq μ Q) (mw_B G kdM) (mw_A G kdM)) args s 0 0 (mw_A G kdM)) 70 [(4, .int v8), (3, .int v5), (0, .ref (mw_a G 0)), (1, .int p1), (2, .int p2)] [] μ) (K2 : Int32 → Prop) (hK2 : ∀ (v8 : Int32), K2 v8 → mw_W p l e (mw_rm 2 46) s m args below meth c G kdM 5 (MQ below (va_Qi (mw_pq μ Q) (mw_B G kdM) (mw_A G kdM)) args s 0 0 (mw_A G kdM)) 60 [(4, .int v8), (3, .int v5), (0, .ref (mw_a G 0)), (1, .int p1), (2, .int p2)] [] μ) (n9 : Nat) (v8 : Int32), L11_may_38 v5 p1 p2 μ Q K1 K2 n9 v8 → mw_W p l e (mw_rm 2 46) s m args below meth c G kdM 5 (MQ below (va_Qi (mw_pq μ Q) (mw_B G kdM) (mw_A G kdM)) args s 0 0 (mw_A G kdM)) 38 [(4, .int v8), (3, .int v5), (0, .ref (mw_a G 0)), (1, .int p1), (2, .int p2)] [] μ := by
              intro  K1 hK1 K2 hK2 n9
              induction n9 with
              | zero => intro v8 hO; exact False.elim hO
              | succ n9 ihn9 =>
                intro v8 hO
                refine r_iload hC 0 dX11_may_38 rfl ?_
                refine r_iload_n hC 4 dX11_may_40 rfl rfl ?_
                refine r_icmp_gt hC 70 dX11_may_41 (by decide) (fun h10 => ?_) (fun h10 => ?_)
                · have hO := hO.1 h10
                  refine r_lv hC [(4, .int v8), (3, .int v5), (0, .ref (mw_a G 0)), (1, .int p1), (2, .int p2)] [0, 1, 2, 3, 4] rfl ?_
                  exact hK1 v8 hO
                · have hO := hO.2 h10
                  refine r_aload_n hC 2 dX11_may_44 rfl rfl ?_
                  refine r_iload_n hC 1 dX11_may_45 rfl rfl ?_
                  refine r_iload hC 0 dX11_may_46 rfl ?_
                  refine r_callVi hC [.int v5, .int v8] (T11_shakeOf  hO) yv11_shakeOf ml11_182 ob11 rfl ⟨Nat.le_of_ble_eq_true rfl, Nat.le_of_ble_eq_true rfl⟩ rfl rfl (Nat.le_of_ble_eq_true rfl) dX11_may_48 (fun r11 μ12 hO => ?_)
                  obtain ⟨hO, hm⟩ := hO
                  refine r_memEq hm ?_
                  refine r_aload_n hC 2 dX11_may_51 rfl rfl ?_
                  refine r_getR hC 7 fl11_28 ob11 rfl dX11_may_52 ?_
                  refine r_iload_n hC 3 dX11_may_55 rfl rfl ?_
                  obtain ⟨g13, hO⟩ := hO
                  refine r_iald hC sh11_10 g13 p1.toNatClampNeg rfl dX11_may_56 ?_
                  refine r_icmp_le hC 64 dX11_may_57 (by decide) (fun h14 => ?_) (fun h14 => ?_)
                  · have hO := hO.1 h14
                    obtain ⟨x15, hx15⟩ : ∃ y : Int32, y = v8 + 10 := ⟨_, rfl⟩
                    have hO := hO x15 hx15
                    refine r_iinc hC x15 0 [(4, .int x15), (3, .int v5), (0, .ref (mw_a G 0)), (1, .int p1), (2, .int p2)] dX11_may_64 rfl (by rw [hx15]; rfl) (by decide) rfl ?_
                    refine r_goto hC 38 dX11_may_67 (by decide) ?_
                    refine r_lv hC [(4, .int x15), (3, .int v5), (0, .ref (mw_a G 0)), (1, .int p1), (2, .int p2)] [0, 1, 2, 3, 4] rfl ?_
                    exact ihn9 x15 hO
                  · have hO := hO.2 h14
                    refine r_lv hC [(4, .int v8), (3, .int v5), (0, .ref (mw_a G 0)), (1, .int p1), (2, .int p2)] [0, 1, 2, 3, 4] rfl ?_
                    exact hK2 v8 hO
            obtain ⟨n9, hO⟩ := hO
            refine hLn9  _ (fun v8 hO => ?_) _ (fun v8 hO => ?_) n9 _ hO
            · skip
              obtain ⟨x16, hx16⟩ : ∃ y : Int32, y = v5 + 1 := ⟨_, rfl⟩
              have hO := hO x16 hx16
              refine r_iinc hC x16 1 [(3, .int x16), (4, .int v8), (0, .ref (mw_a G 0)), (1, .int p1), (2, .int p2)] dX11_may_70 rfl (by rw [hx16]; rfl) (by decide) rfl ?_
              refine r_goto hC 27 dX11_may_73 (by decide) ?_
              refine r_lv hC [(3, .int x16), (0, .ref (mw_a G 0)), (1, .int p1), (2, .int p2)] [0, 2, 3, 4] rfl ?_
              exact ihn6 x16 hO
            · skip
              refine r_lv hC [(3, .int v5), (0, .ref (mw_a G 0)), (1, .int p1), (2, .int p2)] [1, 2, 3, 4] rfl ?_
              exact hK1 v5 hO
      obtain ⟨n6, hO⟩ := hO
      refine hLn6  _ (fun v5 hO => ?_) n6 _ hO
      refine r_iload_n hC 0 dX11_may_60 rfl rfl ?_
      refine r_iconst hC 1 dX11_may_61 (by decide) ?_
      refine r_isub hC dX11_may_62 ?_
      exact r_iret hC rfl dX11_may_63 ⟨hO, rfl⟩
    · refine r_topEq hr ?_
      obtain ⟨hO, hm⟩ := hO
      refine r_memEq hm ?_
      refine r_if_ne hC 25 dX11_may_20 (by decide) (fun h => absurd (by decide) h) (fun _ => ?_)
      refine r_iconst hC (-1) dX11_may_23 (by decide) ?_
      exact r_iret hC rfl dX11_may_24 ⟨hO, rfl⟩
  · refine r_topEq hr ?_
    obtain ⟨hO, hm⟩ := hO
    refine r_memEq hm ?_
    refine r_if_eq hC 23 dX11_may_13 (by decide) (fun _ => ?_) (fun h => absurd (by decide) h)
    refine r_iconst hC (-1) dX11_may_23 (by decide) ?_
    exact r_iret hC rfl dX11_may_24 ⟨hO, rfl⟩
set_option maxHeartbeats 4000000 in
set_option maxRecDepth 100000 in
theorem T11_weight {l : Launch} {G : mw_G} {p1 : Int32} {μ : mw_M} {Q : Int32 → mw_M → Prop}  (hO : P11_weight p1 μ Q) : mw_Mi l G kdM yX11_weight cX11_weight 8 (some .int) 4 87 [.ref (mw_a G 0), .int p1] μ (Q) := by
  refine mw_enter [(0, .ref (mw_a G 0)), (1, .int p1)] RX11 (by decide) rfl (Nat.le_of_ble_eq_true rfl) rfl ?_
  intro p e s m args below meth c hC
  unfold P11_weight at hO
  refine r_iload_n hC 1 dX11_weight_0 rfl rfl ?_
  refine r_i2l hC dX11_weight_1 ?_
  refine r_lconst hC 0 dX11_weight_2 (by decide) ?_
  refine r_lconst hC 1 dX11_weight_3 (by decide) ?_
  refine r_callSi hC [.long (Int32.toInt64 p1), .long 0, .long 1] (T11_within  hO) yv11_within ml11_106 ⟨Nat.le_of_ble_eq_true rfl, Nat.le_of_ble_eq_true rfl⟩ rfl rfl (Nat.le_of_ble_eq_true rfl) dX11_weight_4 (fun r1 μ2 hO => ?_)
  rcases hO with ⟨hr, hO⟩ | ⟨hr, hO⟩
  · refine r_topEq hr ?_
    obtain ⟨hO, hm⟩ := hO
    refine r_memEq hm ?_
    refine r_if_ne hC 12 dX11_weight_7 (by decide) (fun _ => ?_) (fun h => absurd h (by decide))
    refine r_aload_n hC 0 dX11_weight_12 rfl rfl ?_
    refine r_getR hC 1 fl11_9 ob11 rfl dX11_weight_13 ?_
    refine r_bipush hC 36 dX11_weight_16 (by decide) ?_
    refine r_iald hC sh11_0 (vpc (by decide) : vp_in 36 37) 36 (by decide) dX11_weight_18 ?_
    refine r_nmI (fun x3 hx3 => ?_)
    have hO := hO x3 hx3
    refine r_istore_n hC [(2, .int x3), (0, .ref (mw_a G 0)), (1, .int p1)] dX11_weight_19 rfl (by decide) rfl ?_
    refine r_iconst hC (-1) dX11_weight_20 (by decide) ?_
    refine r_istore_n hC [(3, .int (-1)), (2, .int x3), (0, .ref (mw_a G 0)), (1, .int p1)] dX11_weight_21 rfl (by decide) rfl ?_
    refine r_iconst hC 0 dX11_weight_22 (by decide) ?_
    refine r_istore hC [(4, .int 0), (3, .int (-1)), (2, .int x3), (0, .ref (mw_a G 0)), (1, .int p1)] dX11_weight_23 (by decide) rfl ?_
    refine r_iconst hC 0 dX11_weight_25 (by decide) ?_
    refine r_istore hC [(5, .int 0), (4, .int 0), (3, .int (-1)), (2, .int x3), (0, .ref (mw_a G 0)), (1, .int p1)] dX11_weight_26 (by decide) rfl ?_
    have hLn8 : ∀  (K1 : Int32 → Int32 → Int32 → mw_M → Prop) (hK1 : ∀ (v4 : Int32) (v5 : Int32) (v6 : Int32) (μ7 : mw_M), K1 v4 v5 v6 μ7 → mw_W p l e (mw_rm 4 87) s m args below meth c G kdM 8 (MQ below (va_Qi (Q) (mw_B G kdM) (mw_A G kdM)) args s 0 0 (mw_A G kdM)) 101 [(5, .int v4), (4, .int v5), (3, .int v6), (2, .int x3), (0, .ref (mw_a G 0)), (1, .int p1)] [] μ7) (n8 : Nat) (v4 : Int32) (v5 : Int32) (v6 : Int32) (μ7 : mw_M), L11_weight_28 x3 p1 Q K1 n8 v4 v5 v6 μ7 → mw_W p l e (mw_rm 4 87) s m args below meth c G kdM 8 (MQ below (va_Qi (Q) (mw_B G kdM) (mw_A G kdM)) args s 0 0 (mw_A G kdM)) 28 [(5, .int v4), (4, .int v5), (3, .int v6), (2, .int x3), (0, .ref (mw_a G 0)), (1, .int p1)] [] μ7 := by
      intro  K1 hK1 n8
      induction n8 with
      | zero => intro v4 v5 v6 μ7 hO; exact False.elim hO
      | succ n8 ihn8 =>
        intro v4 v5 v6 μ7 hO
        refine r_iload hC 0 dX11_weight_28 rfl ?_
        refine r_bipush hC 99 dX11_weight_30 (by decide) ?_
        refine r_icmp_gt hC 101 dX11_weight_32 (by decide) (fun h9 => ?_) (fun h9 => ?_)
        · have hO := hO.1 h9
          refine r_lv hC [(5, .int v4), (4, .int v5), (3, .int v6), (2, .int x3), (0, .ref (mw_a G 0)), (1, .int p1)] [0, 1, 2, 3, 4, 5] rfl ?_
          exact hK1 v4 v5 v6 μ7 hO
        · have hO := hO.2 h9
          refine r_iconst hC 0 dX11_weight_35 (by decide) ?_
          refine r_istore hC [(6, .int 0), (5, .int v4), (4, .int v5), (3, .int v6), (2, .int x3), (0, .ref (mw_a G 0)), (1, .int p1)] dX11_weight_36 (by decide) rfl ?_
          have hLn14 : ∀  (K1 : Int32 → Int32 → Int32 → mw_M → Prop) (hK1 : ∀ (v10 : Int32) (v11 : Int32) (v12 : Int32) (μ13 : mw_M), K1 v10 v11 v12 μ13 → mw_W p l e (mw_rm 4 87) s m args below meth c G kdM 8 (MQ below (va_Qi (Q) (mw_B G kdM) (mw_A G kdM)) args s 0 0 (mw_A G kdM)) 95 [(6, .int v10), (5, .int v4), (4, .int v11), (3, .int v12), (2, .int x3), (0, .ref (mw_a G 0)), (1, .int p1)] [] μ13) (n14 : Nat) (v10 : Int32) (v11 : Int32) (v12 : Int32) (μ13 : mw_M), L11_weight_38 v4 x3 p1 Q K1 n14 v10 v11 v12 μ13 → mw_W p l e (mw_rm 4 87) s m args below meth c G kdM 8 (MQ below (va_Qi (Q) (mw_B G kdM) (mw_A G kdM)) args s 0 0 (mw_A G kdM)) 38 [(6, .int v10), (5, .int v4), (4, .int v11), (3, .int v12), (2, .int x3), (0, .ref (mw_a G 0)), (1, .int p1)] [] μ13 := by
            intro  K1 hK1 n14
            induction n14 with
            | zero => intro v10 v11 v12 μ13 hO; exact False.elim hO
            | succ n14 ihn14 =>
              intro v10 v11 v12 μ13 hO
              refine r_iload hC 0 dX11_weight_38 rfl ?_
              refine r_bipush hC 12 dX11_weight_40 (by decide) ?_
              refine r_icmp_ge hC 95 dX11_weight_42 (by decide) (fun h15 => ?_) (fun h15 => ?_)
              · have hO := hO.1 h15
                refine r_lv hC [(6, .int v10), (5, .int v4), (4, .int v11), (3, .int v12), (2, .int x3), (0, .ref (mw_a G 0)), (1, .int p1)] [0, 1, 2, 3, 4, 5, 6] rfl ?_
                exact hK1 v10 v11 v12 μ13 hO
              · have hO := hO.2 h15
                refine r_aload_n hC 5 dX11_weight_45 rfl rfl ?_
                refine r_getR hC 1 fl11_9 ob11 rfl dX11_weight_46 ?_
                refine r_bipush hC 36 dX11_weight_49 (by decide) ?_
                refine r_bipush hC 100 dX11_weight_51 (by decide) ?_
                refine r_iload hC 1 dX11_weight_53 rfl ?_
                refine r_imul hC dX11_weight_55 ?_
                refine r_iload hC 0 dX11_weight_56 rfl ?_
                refine r_iadd hC dX11_weight_58 ?_
                refine r_iast hC sh11_0 (vpc (by decide) : vp_in 36 37) 36 (by decide) dX11_weight_59 ?_
                refine r_nmM (fun μ16 hμ16 => ?_)
                have hO := hO μ16 hμ16
                refine r_aload_n hC 5 dX11_weight_60 rfl rfl ?_
                refine r_callVi hC [] (T11_lopsided  hO) yv11_lopsided ml11_167 ob11 rfl ⟨Nat.le_of_ble_eq_true rfl, Nat.le_of_ble_eq_true rfl⟩ rfl rfl (Nat.le_of_ble_eq_true rfl) dX11_weight_61 (fun r17 μ18 hO => ?_)
                obtain ⟨hO, hm⟩ := hO
                refine r_memEq hm ?_
                refine r_istore hC [(7, .int r17), (6, .int v10), (5, .int v4), (4, .int v11), (3, .int v12), (2, .int x3), (0, .ref (mw_a G 0)), (1, .int p1)] dX11_weight_64 (by decide) rfl ?_
                refine r_iload_n hC 4 dX11_weight_66 rfl rfl ?_
                refine r_if_lt hC 77 dX11_weight_67 (by decide) (fun h19 => ?_) (fun h19 => ?_)
                · have hO := hO.1 h19
                  refine r_aload_n hC 6 dX11_weight_77 rfl rfl ?_
                  refine r_getR hC 1 fl11_9 ob11 rfl dX11_weight_78 ?_
                  refine r_bipush hC 36 dX11_weight_81 (by decide) ?_
                  refine r_iald hC sh11_0 (vpc (by decide) : vp_in 36 37) 36 (by decide) dX11_weight_83 ?_
                  refine r_nmI (fun x20 hx20 => ?_)
                  have hO := hO x20 hx20
                  refine r_istore_n hC [(3, .int x20), (7, .int r17), (6, .int v10), (5, .int v4), (4, .int v11), (2, .int x3), (0, .ref (mw_a G 0)), (1, .int p1)] dX11_weight_84 rfl (by decide) rfl ?_
                  refine r_iload hC 1 dX11_weight_85 rfl ?_
                  refine r_istore hC [(4, .int r17), (3, .int x20), (7, .int r17), (6, .int v10), (5, .int v4), (2, .int x3), (0, .ref (mw_a G 0)), (1, .int p1)] dX11_weight_87 (by decide) rfl ?_
                  obtain ⟨x21, hx21⟩ : ∃ y : Int32, y = v10 + 1 := ⟨_, rfl⟩
                  have hO := hO x21 hx21
                  refine r_iinc hC x21 3 [(6, .int x21), (4, .int r17), (3, .int x20), (7, .int r17), (5, .int v4), (2, .int x3), (0, .ref (mw_a G 0)), (1, .int p1)] dX11_weight_89 rfl (by rw [hx21]; rfl) (by decide) rfl ?_
                  refine r_goto hC 38 dX11_weight_92 (by decide) ?_
                  refine r_lv hC [(6, .int x21), (5, .int v4), (4, .int r17), (3, .int x20), (2, .int x3), (0, .ref (mw_a G 0)), (1, .int p1)] [0, 4, 1, 2, 5, 6, 7] rfl ?_
                  exact ihn14 x21 r17 x20 μ16 hO
                · have hO := hO.2 h19
                  refine r_iload hC 0 dX11_weight_70 rfl ?_
                  refine r_iload hC 3 dX11_weight_72 rfl ?_
                  refine r_icmp_ge hC 89 dX11_weight_74 (by decide) (fun h22 => ?_) (fun h22 => ?_)
                  · have hO := hO.1 h22
                    obtain ⟨x23, hx23⟩ : ∃ y : Int32, y = v10 + 1 := ⟨_, rfl⟩
                    have hO := hO x23 hx23
                    refine r_iinc hC x23 1 [(6, .int x23), (7, .int r17), (5, .int v4), (4, .int v11), (3, .int v12), (2, .int x3), (0, .ref (mw_a G 0)), (1, .int p1)] dX11_weight_89 rfl (by rw [hx23]; rfl) (by decide) rfl ?_
                    refine r_goto hC 38 dX11_weight_92 (by decide) ?_
                    refine r_lv hC [(6, .int x23), (5, .int v4), (4, .int v11), (3, .int v12), (2, .int x3), (0, .ref (mw_a G 0)), (1, .int p1)] [0, 2, 3, 4, 5, 6, 7] rfl ?_
                    exact ihn14 x23 v11 v12 μ16 hO
                  · have hO := hO.2 h22
                    refine r_aload_n hC 6 dX11_weight_77 rfl rfl ?_
                    refine r_getR hC 1 fl11_9 ob11 rfl dX11_weight_78 ?_
                    refine r_bipush hC 36 dX11_weight_81 (by decide) ?_
                    refine r_iald hC sh11_0 (vpc (by decide) : vp_in 36 37) 36 (by decide) dX11_weight_83 ?_
                    refine r_nmI (fun x24 hx24 => ?_)
                    have hO := hO x24 hx24
                    refine r_istore_n hC [(3, .int x24), (7, .int r17), (6, .int v10), (5, .int v4), (4, .int v11), (2, .int x3), (0, .ref (mw_a G 0)), (1, .int p1)] dX11_weight_84 rfl (by decide) rfl ?_
                    refine r_iload hC 1 dX11_weight_85 rfl ?_
                    refine r_istore hC [(4, .int r17), (3, .int x24), (7, .int r17), (6, .int v10), (5, .int v4), (2, .int x3), (0, .ref (mw_a G 0)), (1, .int p1)] dX11_weight_87 (by decide) rfl ?_
                    obtain ⟨x25, hx25⟩ : ∃ y : Int32, y = v10 + 1 := ⟨_, rfl⟩
                    have hO := hO x25 hx25
                    refine r_iinc hC x25 3 [(6, .int x25), (4, .int r17), (3, .int x24), (7, .int r17), (5, .int v4), (2, .int x3), (0, .ref (mw_a G 0)), (1, .int p1)] dX11_weight_89 rfl (by rw [hx25]; rfl) (by decide) rfl ?_
                    refine r_goto hC 38 dX11_weight_92 (by decide) ?_
                    refine r_lv hC [(6, .int x25), (5, .int v4), (4, .int r17), (3, .int x24), (2, .int x3), (0, .ref (mw_a G 0)), (1, .int p1)] [0, 4, 1, 2, 5, 6, 7] rfl ?_
                    exact ihn14 x25 r17 x24 μ16 hO
          obtain ⟨n14, hO⟩ := hO
          refine hLn14  _ (fun v10 v11 v12 μ13 hO => ?_) n14 _ _ _ _ hO
          obtain ⟨x26, hx26⟩ : ∃ y : Int32, y = v4 + 1 := ⟨_, rfl⟩
          have hO := hO x26 hx26
          refine r_iinc hC x26 1 [(5, .int x26), (6, .int v10), (4, .int v11), (3, .int v12), (2, .int x3), (0, .ref (mw_a G 0)), (1, .int p1)] dX11_weight_95 rfl (by rw [hx26]; rfl) (by decide) rfl ?_
          refine r_goto hC 28 dX11_weight_98 (by decide) ?_
          refine r_lv hC [(5, .int x26), (4, .int v11), (3, .int v12), (2, .int x3), (0, .ref (mw_a G 0)), (1, .int p1)] [0, 2, 3, 4, 5, 6] rfl ?_
          exact ihn8 x26 v11 v12 μ13 hO
    obtain ⟨n8, hO⟩ := hO
    refine hLn8  _ (fun v4 v5 v6 μ7 hO => ?_) n8 _ _ _ _ hO
    refine r_aload_n hC 4 dX11_weight_101 rfl rfl ?_
    refine r_getR hC 1 fl11_9 ob11 rfl dX11_weight_102 ?_
    refine r_bipush hC 36 dX11_weight_105 (by decide) ?_
    refine r_iload_n hC 3 dX11_weight_107 rfl rfl ?_
    refine r_iast hC sh11_0 (vpc (by decide) : vp_in 36 37) 36 (by decide) dX11_weight_108 ?_
    refine r_nmM (fun μ27 hμ27 => ?_)
    have hO := hO μ27 hμ27
    refine r_iload_n hC 5 dX11_weight_109 rfl rfl ?_
    refine r_if_ne hC 117 dX11_weight_110 (by decide) (fun h28 => ?_) (fun h28 => ?_)
    · have hO := hO.2 h28
      refine r_iload hC 1 dX11_weight_117 rfl ?_
      exact r_iret hC rfl dX11_weight_119 hO
    · have hO := hO.1 h28
      refine r_iload_n hC 2 dX11_weight_113 rfl rfl ?_
      refine r_goto hC 119 dX11_weight_114 (by decide) ?_
      exact r_iret hC rfl dX11_weight_119 hO
  · refine r_topEq hr ?_
    obtain ⟨hO, hm⟩ := hO
    refine r_memEq hm ?_
    refine r_if_ne hC 12 dX11_weight_7 (by decide) (fun h => absurd (by decide) h) (fun _ => ?_)
    refine r_iconst hC (-1) dX11_weight_10 (by decide) ?_
    exact r_iret hC rfl dX11_weight_11 hO
set_option maxHeartbeats 4000000 in
set_option maxRecDepth 100000 in
theorem T11_spread {l : Launch} {G : mw_G} {p1 : Int32} {p2 : Int32} {p3 : Int32} {μ : mw_M} {Q : Int32 → mw_M → Prop}  (hO : P11_spread p1 p2 p3 μ Q) : mw_Mi l G kdM yX11_spread cX11_spread 9 (some .int) 4 87 [.ref (mw_a G 0), .int p1, .int p2, .int p3] μ (Q) := by
  refine mw_enter [(0, .ref (mw_a G 0)), (1, .int p1), (2, .int p2), (3, .int p3)] RX11 (by decide) rfl (Nat.le_of_ble_eq_true rfl) rfl ?_
  intro p e s m args below meth c hC
  unfold P11_spread at hO
  refine r_iload_n hC 1 dX11_spread_0 rfl rfl ?_
  refine r_i2l hC dX11_spread_1 ?_
  refine r_lconst hC 1 dX11_spread_2 (by decide) ?_
  refine r_ldc2 hC kc11_110 dX11_spread_3 ?_
  refine r_callSi hC [.long (Int32.toInt64 p1), .long 1, .long 50] (T11_within  hO) yv11_within ml11_106 ⟨Nat.le_of_ble_eq_true rfl, Nat.le_of_ble_eq_true rfl⟩ rfl rfl (Nat.le_of_ble_eq_true rfl) dX11_spread_6 (fun r1 μ2 hO => ?_)
  rcases hO with ⟨hr, hO⟩ | ⟨hr, hO⟩
  · refine r_topEq hr ?_
    obtain ⟨hO, hm⟩ := hO
    refine r_memEq hm ?_
    refine r_if_eq hC 24 dX11_spread_9 (by decide) (fun h => absurd h (by decide)) (fun _ => ?_)
    refine r_iload_n hC 3 dX11_spread_12 rfl rfl ?_
    refine r_i2l hC dX11_spread_13 ?_
    refine r_lconst hC 0 dX11_spread_14 (by decide) ?_
    refine r_ldc2 hC kc11_135 dX11_spread_15 ?_
    refine r_callSi hC [.long (Int32.toInt64 p3), .long 0, .long 2] (T11_within  hO) yv11_within ml11_106 ⟨Nat.le_of_ble_eq_true rfl, Nat.le_of_ble_eq_true rfl⟩ rfl rfl (Nat.le_of_ble_eq_true rfl) dX11_spread_18 (fun r3 μ4 hO => ?_)
    rcases hO with ⟨hr, hO⟩ | ⟨hr, hO⟩
    · refine r_topEq hr ?_
      obtain ⟨hO, hm⟩ := hO
      refine r_memEq hm ?_
      refine r_if_ne hC 26 dX11_spread_21 (by decide) (fun _ => ?_) (fun h => absurd h (by decide))
      refine r_aload_n hC 0 dX11_spread_26 rfl rfl ?_
      refine r_callVv hC [] (T11_keepsLoad  hO) yv11_keepsLoad ml11_310 ob11 rfl ⟨Nat.le_of_ble_eq_true rfl, Nat.le_of_ble_eq_true rfl⟩ rfl rfl (Nat.le_of_ble_eq_true rfl) dX11_spread_27 (fun μ5 hO => ?_)
      refine r_aload_n hC 0 dX11_spread_30 rfl rfl ?_
      refine r_iload_n hC 2 dX11_spread_31 rfl rfl ?_
      refine r_putI hC fl11_247 ob11 rfl rfl rfl dX11_spread_32 ?_
      refine r_nmM (fun μ6 hμ6 => ?_)
      have hO := hO μ6 hμ6
      refine r_iconst hC (-1) dX11_spread_35 (by decide) ?_
      refine r_istore hC [(4, .int (-1)), (0, .ref (mw_a G 0)), (1, .int p1), (2, .int p2), (3, .int p3)] dX11_spread_36 (by decide) rfl ?_
      refine r_iconst hC 0 dX11_spread_38 (by decide) ?_
      refine r_istore hC [(5, .int 0), (4, .int (-1)), (0, .ref (mw_a G 0)), (1, .int p1), (2, .int p2), (3, .int p3)] dX11_spread_39 (by decide) rfl ?_
      refine r_iconst hC 0 dX11_spread_41 (by decide) ?_
      refine r_istore hC [(6, .int 0), (5, .int 0), (4, .int (-1)), (0, .ref (mw_a G 0)), (1, .int p1), (2, .int p2), (3, .int p3)] dX11_spread_42 (by decide) rfl ?_
      refine r_iconst hC 0 dX11_spread_44 (by decide) ?_
      refine r_istore hC [(7, .int 0), (6, .int 0), (5, .int 0), (4, .int (-1)), (0, .ref (mw_a G 0)), (1, .int p1), (2, .int p2), (3, .int p3)] dX11_spread_45 (by decide) rfl ?_
      have hLn12 : ∀  (K1 : Int32 → Int32 → Int32 → Int32 → mw_M → Prop) (hK1 : ∀ (v7 : Int32) (v8 : Int32) (v9 : Int32) (v10 : Int32) (μ11 : mw_M), K1 v7 v8 v9 v10 μ11 → mw_W p l e (mw_rm 4 87) s m args below meth c G kdM 9 (MQ below (va_Qi (Q) (mw_B G kdM) (mw_A G kdM)) args s 0 0 (mw_A G kdM)) 96 [(7, .int v7), (6, .int v8), (5, .int v9), (4, .int v10), (0, .ref (mw_a G 0)), (1, .int p1), (2, .int p2), (3, .int p3)] [] μ11) (n12 : Nat) (v7 : Int32) (v8 : Int32) (v9 : Int32) (v10 : Int32) (μ11 : mw_M), L11_spread_47 p1 p2 p3 Q K1 n12 v7 v8 v9 v10 μ11 → mw_W p l e (mw_rm 4 87) s m args below meth c G kdM 9 (MQ below (va_Qi (Q) (mw_B G kdM) (mw_A G kdM)) args s 0 0 (mw_A G kdM)) 47 [(7, .int v7), (6, .int v8), (5, .int v9), (4, .int v10), (0, .ref (mw_a G 0)), (1, .int p1), (2, .int p2), (3, .int p3)] [] μ11 := by
        intro  K1 hK1 n12
        induction n12 with
        | zero => intro v7 v8 v9 v10 μ11 hO; exact False.elim hO
        | succ n12 ihn12 =>
          intro v7 v8 v9 v10 μ11 hO
          refine r_iload hC 0 dX11_spread_47 rfl ?_
          refine r_iload_n hC 5 dX11_spread_49 rfl rfl ?_
          refine r_icmp_ge hC 96 dX11_spread_50 (by decide) (fun h13 => ?_) (fun h13 => ?_)
          · have hO := hO.1 h13
            refine r_lv hC [(7, .int v7), (6, .int v8), (5, .int v9), (4, .int v10), (0, .ref (mw_a G 0)), (1, .int p1), (2, .int p2), (3, .int p3)] [0, 1, 2, 3, 4, 5, 6, 7] rfl ?_
            exact hK1 v7 v8 v9 v10 μ11 hO
          · have hO := hO.2 h13
            refine r_aload_n hC 4 dX11_spread_53 rfl rfl ?_
            refine r_callVv hC [] (T11_tumbles  hO) yv11_tumbles ml11_279 ob11 rfl ⟨Nat.le_of_ble_eq_true rfl, Nat.le_of_ble_eq_true rfl⟩ rfl rfl (Nat.le_of_ble_eq_true rfl) dX11_spread_54 (fun μ14 hO => ?_)
            refine r_aload_n hC 4 dX11_spread_57 rfl rfl ?_
            refine r_callVi hC [] (T11_lopsided  hO) yv11_lopsided ml11_167 ob11 rfl ⟨Nat.le_of_ble_eq_true rfl, Nat.le_of_ble_eq_true rfl⟩ rfl rfl (Nat.le_of_ble_eq_true rfl) dX11_spread_58 (fun r15 μ16 hO => ?_)
            obtain ⟨hO, hm⟩ := hO
            refine r_memEq hm ?_
            refine r_istore hC [(8, .int r15), (7, .int v7), (6, .int v8), (5, .int v9), (4, .int v10), (0, .ref (mw_a G 0)), (1, .int p1), (2, .int p2), (3, .int p3)] dX11_spread_61 (by decide) rfl ?_
            refine r_iload hC 2 dX11_spread_63 rfl ?_
            refine r_iload hC 0 dX11_spread_65 rfl ?_
            refine r_iadd hC dX11_spread_67 ?_
            refine r_nmI (fun x17 hx17 => ?_)
            have hO := hO x17 hx17
            refine r_istore hC [(6, .int x17), (8, .int r15), (7, .int v7), (5, .int v9), (4, .int v10), (0, .ref (mw_a G 0)), (1, .int p1), (2, .int p2), (3, .int p3)] dX11_spread_68 (by decide) rfl ?_
            refine r_iload hC 4 dX11_spread_70 rfl ?_
            refine r_if_lt hC 82 dX11_spread_72 (by decide) (fun h18 => ?_) (fun h18 => ?_)
            · have hO := hO.1 h18
              refine r_iload hC 2 dX11_spread_82 rfl ?_
              refine r_istore hC [(4, .int v7), (6, .int x17), (8, .int r15), (7, .int v7), (5, .int v9), (0, .ref (mw_a G 0)), (1, .int p1), (2, .int p2), (3, .int p3)] dX11_spread_84 (by decide) rfl ?_
              refine r_iload hC 2 dX11_spread_86 rfl ?_
              refine r_istore hC [(5, .int r15), (4, .int v7), (6, .int x17), (8, .int r15), (7, .int v7), (0, .ref (mw_a G 0)), (1, .int p1), (2, .int p2), (3, .int p3)] dX11_spread_88 (by decide) rfl ?_
              obtain ⟨x19, hx19⟩ : ∃ y : Int32, y = v7 + 1 := ⟨_, rfl⟩
              have hO := hO x19 hx19
              refine r_iinc hC x19 4 [(7, .int x19), (5, .int r15), (4, .int v7), (6, .int x17), (8, .int r15), (0, .ref (mw_a G 0)), (1, .int p1), (2, .int p2), (3, .int p3)] dX11_spread_90 rfl (by rw [hx19]; rfl) (by decide) rfl ?_
              refine r_goto hC 47 dX11_spread_93 (by decide) ?_
              refine r_lv hC [(7, .int x19), (6, .int x17), (5, .int r15), (4, .int v7), (0, .ref (mw_a G 0)), (1, .int p1), (2, .int p2), (3, .int p3)] [0, 3, 1, 2, 5, 6, 7, 8] rfl ?_
              exact ihn12 x19 x17 r15 v7 μ14 hO
            · have hO := hO.2 h18
              refine r_iload hC 1 dX11_spread_75 rfl ?_
              refine r_iload hC 3 dX11_spread_77 rfl ?_
              refine r_icmp_ge hC 90 dX11_spread_79 (by decide) (fun h20 => ?_) (fun h20 => ?_)
              · have hO := hO.1 h20
                obtain ⟨x21, hx21⟩ : ∃ y : Int32, y = v7 + 1 := ⟨_, rfl⟩
                have hO := hO x21 hx21
                refine r_iinc hC x21 2 [(7, .int x21), (6, .int x17), (8, .int r15), (5, .int v9), (4, .int v10), (0, .ref (mw_a G 0)), (1, .int p1), (2, .int p2), (3, .int p3)] dX11_spread_90 rfl (by rw [hx21]; rfl) (by decide) rfl ?_
                refine r_goto hC 47 dX11_spread_93 (by decide) ?_
                refine r_lv hC [(7, .int x21), (6, .int x17), (5, .int v9), (4, .int v10), (0, .ref (mw_a G 0)), (1, .int p1), (2, .int p2), (3, .int p3)] [0, 1, 3, 4, 5, 6, 7, 8] rfl ?_
                exact ihn12 x21 x17 v9 v10 μ14 hO
              · have hO := hO.2 h20
                refine r_iload hC 2 dX11_spread_82 rfl ?_
                refine r_istore hC [(4, .int v7), (6, .int x17), (8, .int r15), (7, .int v7), (5, .int v9), (0, .ref (mw_a G 0)), (1, .int p1), (2, .int p2), (3, .int p3)] dX11_spread_84 (by decide) rfl ?_
                refine r_iload hC 2 dX11_spread_86 rfl ?_
                refine r_istore hC [(5, .int r15), (4, .int v7), (6, .int x17), (8, .int r15), (7, .int v7), (0, .ref (mw_a G 0)), (1, .int p1), (2, .int p2), (3, .int p3)] dX11_spread_88 (by decide) rfl ?_
                obtain ⟨x22, hx22⟩ : ∃ y : Int32, y = v7 + 1 := ⟨_, rfl⟩
                have hO := hO x22 hx22
                refine r_iinc hC x22 4 [(7, .int x22), (5, .int r15), (4, .int v7), (6, .int x17), (8, .int r15), (0, .ref (mw_a G 0)), (1, .int p1), (2, .int p2), (3, .int p3)] dX11_spread_90 rfl (by rw [hx22]; rfl) (by decide) rfl ?_
                refine r_goto hC 47 dX11_spread_93 (by decide) ?_
                refine r_lv hC [(7, .int x22), (6, .int x17), (5, .int r15), (4, .int v7), (0, .ref (mw_a G 0)), (1, .int p1), (2, .int p2), (3, .int p3)] [0, 3, 1, 2, 5, 6, 7, 8] rfl ?_
                exact ihn12 x22 x17 r15 v7 μ14 hO
      obtain ⟨n12, hO⟩ := hO
      refine hLn12  _ (fun v7 v8 v9 v10 μ11 hO => ?_) n12 _ _ _ _ _ hO
      refine r_aload_n hC 4 dX11_spread_96 rfl rfl ?_
      refine r_callVv hC [] (T11_laysBack  hO) yv11_laysBack ml11_341 ob11 rfl ⟨Nat.le_of_ble_eq_true rfl, Nat.le_of_ble_eq_true rfl⟩ rfl rfl (Nat.le_of_ble_eq_true rfl) dX11_spread_97 (fun μ23 hO => ?_)
      refine r_iload_n hC 7 dX11_spread_100 rfl rfl ?_
      refine r_if_ne hC 109 dX11_spread_101 (by decide) (fun h24 => ?_) (fun h24 => ?_)
      · have hO := hO.2 h24
        refine r_iload_n hC 7 dX11_spread_109 rfl rfl ?_
        refine r_iconst hC 1 dX11_spread_110 (by decide) ?_
        refine r_icmp_ne hC 119 dX11_spread_111 (by decide) (fun h25 => ?_) (fun h25 => ?_)
        · have hO := hO.2 h25
          refine r_iload hC 1 dX11_spread_119 rfl ?_
          refine r_iload_n hC 5 dX11_spread_121 rfl rfl ?_
          obtain ⟨g26, hO⟩ := hO
          refine r_idiv hC dX11_spread_122 g26 ?_
          exact r_iret hC rfl dX11_spread_123 hO
        · have hO := hO.1 h25
          refine r_iload hC 2 dX11_spread_114 rfl ?_
          refine r_goto hC 123 dX11_spread_116 (by decide) ?_
          exact r_iret hC rfl dX11_spread_123 hO
      · have hO := hO.1 h24
        refine r_iload hC 3 dX11_spread_104 rfl ?_
        refine r_goto hC 123 dX11_spread_106 (by decide) ?_
        exact r_iret hC rfl dX11_spread_123 hO
    · refine r_topEq hr ?_
      obtain ⟨hO, hm⟩ := hO
      refine r_memEq hm ?_
      refine r_if_ne hC 26 dX11_spread_21 (by decide) (fun h => absurd (by decide) h) (fun _ => ?_)
      refine r_iconst hC (-1) dX11_spread_24 (by decide) ?_
      exact r_iret hC rfl dX11_spread_25 hO
  · refine r_topEq hr ?_
    obtain ⟨hO, hm⟩ := hO
    refine r_memEq hm ?_
    refine r_if_eq hC 24 dX11_spread_9 (by decide) (fun _ => ?_) (fun h => absurd (by decide) h)
    refine r_iconst hC (-1) dX11_spread_24 (by decide) ?_
    exact r_iret hC rfl dX11_spread_25 hO
