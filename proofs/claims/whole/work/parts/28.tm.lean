set_option maxHeartbeats 4000000 in
set_option maxRecDepth 100000 in
theorem T11_findLoads {l : Launch} {G : mw_G} {p1 : Int32} {p2 : Int32} {p3 : Int32} {p4 : Int32} {p5 : Int32} {μ : mw_M} {Q : mw_M → Prop}  (hO : P11_findLoads p1 p2 p3 p4 p5 μ Q) : mw_Mv l G kdM yX11_findLoads cX11_findLoads 7 none 71 1714 [.ref (mw_a G 0), .int p1, .int p2, .int p3, .int p4, .int p5] μ (Q) := by
  refine mw_enter [(0, .ref (mw_a G 0)), (1, .int p1), (2, .int p2), (3, .int p3), (4, .int p4), (5, .int p5)] RX11 (by decide) rfl (Nat.le_of_ble_eq_true rfl) rfl ?_
  intro p e s m args below meth c hC
  unfold P11_findLoads at hO
  refine r_aload_n hC 0 dX11_findLoads_0 rfl rfl ?_
  refine r_iconst hC 0 dX11_findLoads_1 (by decide) ?_
  refine r_putI hC fl11_346 ob11 rfl rfl rfl dX11_findLoads_2 ?_
  refine r_nmM (fun μ1 hμ1 => ?_)
  have hO := hO μ1 hμ1
  refine r_aload_n hC 0 dX11_findLoads_5 rfl rfl ?_
  refine r_iconst hC 0 dX11_findLoads_6 (by decide) ?_
  refine r_putI hC fl11_349 ob11 rfl rfl rfl dX11_findLoads_7 ?_
  refine r_nmM (fun μ2 hμ2 => ?_)
  have hO := hO μ2 hμ2
  refine r_aload_n hC 0 dX11_findLoads_10 rfl rfl ?_
  refine r_iconst hC 0 dX11_findLoads_11 (by decide) ?_
  refine r_putI hC fl11_352 ob11 rfl rfl rfl dX11_findLoads_12 ?_
  refine r_nmM (fun μ3 hμ3 => ?_)
  have hO := hO μ3 hμ3
  refine r_aload_n hC 0 dX11_findLoads_15 rfl rfl ?_
  refine r_iconst hC 0 dX11_findLoads_16 (by decide) ?_
  refine r_putI hC fl11_355 ob11 rfl rfl rfl dX11_findLoads_17 ?_
  refine r_nmM (fun μ4 hμ4 => ?_)
  have hO := hO μ4 hμ4
  refine r_aload_n hC 0 dX11_findLoads_20 rfl rfl ?_
  refine r_callVv hC [] (T11_keepsLoad  hO) yv11_keepsLoad ml11_310 ob11 rfl ⟨Nat.le_of_ble_eq_true rfl, Nat.le_of_ble_eq_true rfl⟩ rfl rfl (Nat.le_of_ble_eq_true rfl) dX11_findLoads_21 (fun μ5 hO => ?_)
  refine r_iconst hC 0 dX11_findLoads_24 (by decide) ?_
  refine r_istore hC [(6, .int 0), (0, .ref (mw_a G 0)), (1, .int p1), (2, .int p2), (3, .int p3), (4, .int p4), (5, .int p5)] dX11_findLoads_25 (by decide) rfl ?_
  have hLn8 : ∀  (K1 : Int32 → mw_M → Prop) (hK1 : ∀ (v6 : Int32) (μ7 : mw_M), K1 v6 μ7 → mw_W p l e (mw_rm 71 1714) s m args below meth c G kdM 7 (MQ below (va_Qv (Q) (mw_B G kdM) (mw_A G kdM)) args s 0 0 (mw_A G kdM)) 144 [(6, .int v6), (0, .ref (mw_a G 0)), (1, .int p1), (2, .int p2), (3, .int p3), (4, .int p4), (5, .int p5)] [] μ7) (n8 : Nat) (v6 : Int32) (μ7 : mw_M), L11_findLoads_27 p1 p2 p3 p4 p5 Q K1 n8 v6 μ7 → mw_W p l e (mw_rm 71 1714) s m args below meth c G kdM 7 (MQ below (va_Qv (Q) (mw_B G kdM) (mw_A G kdM)) args s 0 0 (mw_A G kdM)) 27 [(6, .int v6), (0, .ref (mw_a G 0)), (1, .int p1), (2, .int p2), (3, .int p3), (4, .int p4), (5, .int p5)] [] μ7 := by
    intro  K1 hK1 n8
    induction n8 with
    | zero => intro v6 μ7 hO; exact False.elim hO
    | succ n8 ihn8 =>
      intro v6 μ7 hO
      refine r_iload hC 0 dX11_findLoads_27 rfl ?_
      refine r_iload hC 5 dX11_findLoads_29 rfl ?_
      refine r_icmp_ge hC 144 dX11_findLoads_31 (by decide) (fun h9 => ?_) (fun h9 => ?_)
      · have hO := hO.1 h9
        refine r_lv hC [(6, .int v6), (0, .ref (mw_a G 0)), (1, .int p1), (2, .int p2), (3, .int p3), (4, .int p4), (5, .int p5)] [0, 1, 2, 3, 4, 5, 6] rfl ?_
        exact hK1 v6 μ7 hO
      · have hO := hO.2 h9
        refine r_aload_n hC 1 dX11_findLoads_34 rfl rfl ?_
        refine r_iload_n hC 2 dX11_findLoads_35 rfl rfl ?_
        refine r_iload_n hC 3 dX11_findLoads_36 rfl rfl ?_
        refine r_iload_n hC 4 dX11_findLoads_37 rfl rfl ?_
        refine r_bipush hC 60 dX11_findLoads_38 (by decide) ?_
        refine r_iload hC 6 dX11_findLoads_40 rfl ?_
        refine r_iload hC 0 dX11_findLoads_42 rfl ?_
        refine r_iadd hC dX11_findLoads_44 ?_
        refine r_iconst hC 0 dX11_findLoads_45 (by decide) ?_
        refine r_callVv hC [.int p1, .int p2, .int p3, .int 60, .int (p5 + v6), .int 0] (T11_goes  hO) yv11_goes ml11_313 ob11 rfl ⟨Nat.le_of_ble_eq_true rfl, Nat.le_of_ble_eq_true rfl⟩ rfl rfl (Nat.le_of_ble_eq_true rfl) dX11_findLoads_46 (fun μ10 hO => ?_)
        refine r_aload_n hC 1 dX11_findLoads_49 rfl rfl ?_
        refine r_dup hC dX11_findLoads_50 rfl ?_
        refine r_getI hC fl11_346 ob11 rfl dX11_findLoads_51 ?_
        refine r_aload_n hC 1 dX11_findLoads_54 rfl rfl ?_
        refine r_getI hC fl11_292 ob11 rfl dX11_findLoads_55 ?_
        refine r_if_lt hC 65 dX11_findLoads_58 (by decide) (fun h11 => ?_) (fun h11 => ?_)
        · have hO := hO.1 h11
          refine r_iconst hC 0 dX11_findLoads_65 (by decide) ?_
          refine r_iadd hC dX11_findLoads_66 ?_
          refine r_putI hC fl11_346 ob11 rfl rfl rfl dX11_findLoads_67 ?_
          refine r_nmM (fun μ12 hμ12 => ?_)
          have hO := hO μ12 hμ12
          refine r_aload_n hC 1 dX11_findLoads_70 rfl rfl ?_
          refine r_dup hC dX11_findLoads_71 rfl ?_
          refine r_getI hC fl11_349 ob11 rfl dX11_findLoads_72 ?_
          refine r_aload_n hC 1 dX11_findLoads_75 rfl rfl ?_
          refine r_callVi hC [] (T11_allWet  hO) yv11_allWet ml11_173 ob11 rfl ⟨Nat.le_of_ble_eq_true rfl, Nat.le_of_ble_eq_true rfl⟩ rfl rfl (Nat.le_of_ble_eq_true rfl) dX11_findLoads_76 (fun r13 μ14 hO => ?_)
          obtain ⟨hO, hm⟩ := hO
          refine r_memEq hm ?_
          refine r_iadd hC dX11_findLoads_79 ?_
          refine r_putI hC fl11_349 ob11 rfl rfl rfl dX11_findLoads_80 ?_
          refine r_nmM (fun μ15 hμ15 => ?_)
          have hO := hO μ15 hμ15
          refine r_aload_n hC 1 dX11_findLoads_83 rfl rfl ?_
          refine r_dup hC dX11_findLoads_84 rfl ?_
          refine r_getI hC fl11_352 ob11 rfl dX11_findLoads_85 ?_
          refine r_aload_n hC 1 dX11_findLoads_88 rfl rfl ?_
          refine r_getI hC fl11_257 ob11 rfl dX11_findLoads_89 ?_
          refine r_callSi hC [.int (μ15.1 0 39)] (T11_size  hO) yv11_size ml11_161 ⟨Nat.le_of_ble_eq_true rfl, Nat.le_of_ble_eq_true rfl⟩ rfl rfl (Nat.le_of_ble_eq_true rfl) dX11_findLoads_92 (fun r16 μ17 hO => ?_)
          obtain ⟨hO, hm⟩ := hO
          refine r_memEq hm ?_
          refine r_aload_n hC 1 dX11_findLoads_95 rfl rfl ?_
          refine r_getI hC fl11_263 ob11 rfl dX11_findLoads_96 ?_
          refine r_callSi hC [.int (μ15.1 0 40)] (T11_size  hO) yv11_size ml11_161 ⟨Nat.le_of_ble_eq_true rfl, Nat.le_of_ble_eq_true rfl⟩ rfl rfl (Nat.le_of_ble_eq_true rfl) dX11_findLoads_99 (fun r18 μ19 hO => ?_)
          obtain ⟨hO, hm⟩ := hO
          refine r_memEq hm ?_
          refine r_iadd hC dX11_findLoads_102 ?_
          refine r_iadd hC dX11_findLoads_103 ?_
          refine r_putI hC fl11_352 ob11 rfl rfl rfl dX11_findLoads_104 ?_
          refine r_nmM (fun μ20 hμ20 => ?_)
          have hO := hO μ20 hμ20
          refine r_aload_n hC 1 dX11_findLoads_107 rfl rfl ?_
          refine r_dup hC dX11_findLoads_108 rfl ?_
          refine r_getI hC fl11_355 ob11 rfl dX11_findLoads_109 ?_
          refine r_aload_n hC 1 dX11_findLoads_112 rfl rfl ?_
          refine r_getI hC fl11_295 ob11 rfl dX11_findLoads_113 ?_
          refine r_aload_n hC 1 dX11_findLoads_116 rfl rfl ?_
          refine r_getR hC 6 fl11_25 ob11 rfl dX11_findLoads_117 ?_
          refine r_iconst hC 4 dX11_findLoads_120 (by decide) ?_
          refine r_iald hC sh11_8 (vpc (by decide) : vp_in 4 5) 4 (by decide) dX11_findLoads_121 ?_
          refine r_icmp_le hC 129 dX11_findLoads_122 (by decide) (fun h21 => ?_) (fun h21 => ?_)
          · have hO := hO.1 h21
            refine r_iconst hC 0 dX11_findLoads_129 (by decide) ?_
            refine r_iadd hC dX11_findLoads_130 ?_
            refine r_putI hC fl11_355 ob11 rfl rfl rfl dX11_findLoads_131 ?_
            refine r_nmM (fun μ22 hμ22 => ?_)
            have hO := hO μ22 hμ22
            refine r_aload_n hC 1 dX11_findLoads_134 rfl rfl ?_
            refine r_callVv hC [] (T11_laysBack  hO) yv11_laysBack ml11_341 ob11 rfl ⟨Nat.le_of_ble_eq_true rfl, Nat.le_of_ble_eq_true rfl⟩ rfl rfl (Nat.le_of_ble_eq_true rfl) dX11_findLoads_135 (fun μ23 hO => ?_)
            obtain ⟨x24, hx24⟩ : ∃ y : Int32, y = v6 + 1 := ⟨_, rfl⟩
            have hO := hO x24 hx24
            refine r_iinc hC x24 0 [(6, .int x24), (0, .ref (mw_a G 0)), (1, .int p1), (2, .int p2), (3, .int p3), (4, .int p4), (5, .int p5)] dX11_findLoads_138 rfl (by rw [hx24]; rfl) (by decide) rfl ?_
            refine r_goto hC 27 dX11_findLoads_141 (by decide) ?_
            refine r_lv hC [(6, .int x24), (0, .ref (mw_a G 0)), (1, .int p1), (2, .int p2), (3, .int p3), (4, .int p4), (5, .int p5)] [0, 1, 2, 3, 4, 5, 6] rfl ?_
            exact ihn8 x24 μ23 hO
          · have hO := hO.2 h21
            refine r_iconst hC 1 dX11_findLoads_125 (by decide) ?_
            refine r_goto hC 130 dX11_findLoads_126 (by decide) ?_
            refine r_iadd hC dX11_findLoads_130 ?_
            refine r_putI hC fl11_355 ob11 rfl rfl rfl dX11_findLoads_131 ?_
            refine r_nmM (fun μ25 hμ25 => ?_)
            have hO := hO μ25 hμ25
            refine r_aload_n hC 1 dX11_findLoads_134 rfl rfl ?_
            refine r_callVv hC [] (T11_laysBack  hO) yv11_laysBack ml11_341 ob11 rfl ⟨Nat.le_of_ble_eq_true rfl, Nat.le_of_ble_eq_true rfl⟩ rfl rfl (Nat.le_of_ble_eq_true rfl) dX11_findLoads_135 (fun μ26 hO => ?_)
            obtain ⟨x27, hx27⟩ : ∃ y : Int32, y = v6 + 1 := ⟨_, rfl⟩
            have hO := hO x27 hx27
            refine r_iinc hC x27 0 [(6, .int x27), (0, .ref (mw_a G 0)), (1, .int p1), (2, .int p2), (3, .int p3), (4, .int p4), (5, .int p5)] dX11_findLoads_138 rfl (by rw [hx27]; rfl) (by decide) rfl ?_
            refine r_goto hC 27 dX11_findLoads_141 (by decide) ?_
            refine r_lv hC [(6, .int x27), (0, .ref (mw_a G 0)), (1, .int p1), (2, .int p2), (3, .int p3), (4, .int p4), (5, .int p5)] [0, 1, 2, 3, 4, 5, 6] rfl ?_
            exact ihn8 x27 μ26 hO
        · have hO := hO.2 h11
          refine r_iconst hC 1 dX11_findLoads_61 (by decide) ?_
          refine r_goto hC 66 dX11_findLoads_62 (by decide) ?_
          refine r_iadd hC dX11_findLoads_66 ?_
          refine r_putI hC fl11_346 ob11 rfl rfl rfl dX11_findLoads_67 ?_
          refine r_nmM (fun μ28 hμ28 => ?_)
          have hO := hO μ28 hμ28
          refine r_aload_n hC 1 dX11_findLoads_70 rfl rfl ?_
          refine r_dup hC dX11_findLoads_71 rfl ?_
          refine r_getI hC fl11_349 ob11 rfl dX11_findLoads_72 ?_
          refine r_aload_n hC 1 dX11_findLoads_75 rfl rfl ?_
          refine r_callVi hC [] (T11_allWet  hO) yv11_allWet ml11_173 ob11 rfl ⟨Nat.le_of_ble_eq_true rfl, Nat.le_of_ble_eq_true rfl⟩ rfl rfl (Nat.le_of_ble_eq_true rfl) dX11_findLoads_76 (fun r29 μ30 hO => ?_)
          obtain ⟨hO, hm⟩ := hO
          refine r_memEq hm ?_
          refine r_iadd hC dX11_findLoads_79 ?_
          refine r_putI hC fl11_349 ob11 rfl rfl rfl dX11_findLoads_80 ?_
          refine r_nmM (fun μ31 hμ31 => ?_)
          have hO := hO μ31 hμ31
          refine r_aload_n hC 1 dX11_findLoads_83 rfl rfl ?_
          refine r_dup hC dX11_findLoads_84 rfl ?_
          refine r_getI hC fl11_352 ob11 rfl dX11_findLoads_85 ?_
          refine r_aload_n hC 1 dX11_findLoads_88 rfl rfl ?_
          refine r_getI hC fl11_257 ob11 rfl dX11_findLoads_89 ?_
          refine r_callSi hC [.int (μ31.1 0 39)] (T11_size  hO) yv11_size ml11_161 ⟨Nat.le_of_ble_eq_true rfl, Nat.le_of_ble_eq_true rfl⟩ rfl rfl (Nat.le_of_ble_eq_true rfl) dX11_findLoads_92 (fun r32 μ33 hO => ?_)
          obtain ⟨hO, hm⟩ := hO
          refine r_memEq hm ?_
          refine r_aload_n hC 1 dX11_findLoads_95 rfl rfl ?_
          refine r_getI hC fl11_263 ob11 rfl dX11_findLoads_96 ?_
          refine r_callSi hC [.int (μ31.1 0 40)] (T11_size  hO) yv11_size ml11_161 ⟨Nat.le_of_ble_eq_true rfl, Nat.le_of_ble_eq_true rfl⟩ rfl rfl (Nat.le_of_ble_eq_true rfl) dX11_findLoads_99 (fun r34 μ35 hO => ?_)
          obtain ⟨hO, hm⟩ := hO
          refine r_memEq hm ?_
          refine r_iadd hC dX11_findLoads_102 ?_
          refine r_iadd hC dX11_findLoads_103 ?_
          refine r_putI hC fl11_352 ob11 rfl rfl rfl dX11_findLoads_104 ?_
          refine r_nmM (fun μ36 hμ36 => ?_)
          have hO := hO μ36 hμ36
          refine r_aload_n hC 1 dX11_findLoads_107 rfl rfl ?_
          refine r_dup hC dX11_findLoads_108 rfl ?_
          refine r_getI hC fl11_355 ob11 rfl dX11_findLoads_109 ?_
          refine r_aload_n hC 1 dX11_findLoads_112 rfl rfl ?_
          refine r_getI hC fl11_295 ob11 rfl dX11_findLoads_113 ?_
          refine r_aload_n hC 1 dX11_findLoads_116 rfl rfl ?_
          refine r_getR hC 6 fl11_25 ob11 rfl dX11_findLoads_117 ?_
          refine r_iconst hC 4 dX11_findLoads_120 (by decide) ?_
          refine r_iald hC sh11_8 (vpc (by decide) : vp_in 4 5) 4 (by decide) dX11_findLoads_121 ?_
          refine r_icmp_le hC 129 dX11_findLoads_122 (by decide) (fun h37 => ?_) (fun h37 => ?_)
          · have hO := hO.1 h37
            refine r_iconst hC 0 dX11_findLoads_129 (by decide) ?_
            refine r_iadd hC dX11_findLoads_130 ?_
            refine r_putI hC fl11_355 ob11 rfl rfl rfl dX11_findLoads_131 ?_
            refine r_nmM (fun μ38 hμ38 => ?_)
            have hO := hO μ38 hμ38
            refine r_aload_n hC 1 dX11_findLoads_134 rfl rfl ?_
            refine r_callVv hC [] (T11_laysBack  hO) yv11_laysBack ml11_341 ob11 rfl ⟨Nat.le_of_ble_eq_true rfl, Nat.le_of_ble_eq_true rfl⟩ rfl rfl (Nat.le_of_ble_eq_true rfl) dX11_findLoads_135 (fun μ39 hO => ?_)
            obtain ⟨x40, hx40⟩ : ∃ y : Int32, y = v6 + 1 := ⟨_, rfl⟩
            have hO := hO x40 hx40
            refine r_iinc hC x40 0 [(6, .int x40), (0, .ref (mw_a G 0)), (1, .int p1), (2, .int p2), (3, .int p3), (4, .int p4), (5, .int p5)] dX11_findLoads_138 rfl (by rw [hx40]; rfl) (by decide) rfl ?_
            refine r_goto hC 27 dX11_findLoads_141 (by decide) ?_
            refine r_lv hC [(6, .int x40), (0, .ref (mw_a G 0)), (1, .int p1), (2, .int p2), (3, .int p3), (4, .int p4), (5, .int p5)] [0, 1, 2, 3, 4, 5, 6] rfl ?_
            exact ihn8 x40 μ39 hO
          · have hO := hO.2 h37
            refine r_iconst hC 1 dX11_findLoads_125 (by decide) ?_
            refine r_goto hC 130 dX11_findLoads_126 (by decide) ?_
            refine r_iadd hC dX11_findLoads_130 ?_
            refine r_putI hC fl11_355 ob11 rfl rfl rfl dX11_findLoads_131 ?_
            refine r_nmM (fun μ41 hμ41 => ?_)
            have hO := hO μ41 hμ41
            refine r_aload_n hC 1 dX11_findLoads_134 rfl rfl ?_
            refine r_callVv hC [] (T11_laysBack  hO) yv11_laysBack ml11_341 ob11 rfl ⟨Nat.le_of_ble_eq_true rfl, Nat.le_of_ble_eq_true rfl⟩ rfl rfl (Nat.le_of_ble_eq_true rfl) dX11_findLoads_135 (fun μ42 hO => ?_)
            obtain ⟨x43, hx43⟩ : ∃ y : Int32, y = v6 + 1 := ⟨_, rfl⟩
            have hO := hO x43 hx43
            refine r_iinc hC x43 0 [(6, .int x43), (0, .ref (mw_a G 0)), (1, .int p1), (2, .int p2), (3, .int p3), (4, .int p4), (5, .int p5)] dX11_findLoads_138 rfl (by rw [hx43]; rfl) (by decide) rfl ?_
            refine r_goto hC 27 dX11_findLoads_141 (by decide) ?_
            refine r_lv hC [(6, .int x43), (0, .ref (mw_a G 0)), (1, .int p1), (2, .int p2), (3, .int p3), (4, .int p4), (5, .int p5)] [0, 1, 2, 3, 4, 5, 6] rfl ?_
            exact ihn8 x43 μ42 hO
  obtain ⟨n8, hO⟩ := hO
  refine hLn8  _ (fun v6 μ7 hO => ?_) n8 _ _ hO
  refine r_aload_n hC 1 dX11_findLoads_144 rfl rfl ?_
  refine r_dup hC dX11_findLoads_145 rfl ?_
  refine r_getI hC fl11_349 ob11 rfl dX11_findLoads_146 ?_
  refine r_iload hC 5 dX11_findLoads_149 rfl ?_
  obtain ⟨g44, hO⟩ := hO
  refine r_idiv hC dX11_findLoads_151 g44 ?_
  refine r_putI hC fl11_349 ob11 rfl rfl rfl dX11_findLoads_152 ?_
  refine r_nmM (fun μ45 hμ45 => ?_)
  have hO := hO μ45 hμ45
  refine r_aload_n hC 1 dX11_findLoads_155 rfl rfl ?_
  refine r_dup hC dX11_findLoads_156 rfl ?_
  refine r_getI hC fl11_352 ob11 rfl dX11_findLoads_157 ?_
  refine r_iload hC 5 dX11_findLoads_160 rfl ?_
  obtain ⟨g46, hO⟩ := hO
  refine r_idiv hC dX11_findLoads_162 g46 ?_
  refine r_putI hC fl11_352 ob11 rfl rfl rfl dX11_findLoads_163 ?_
  refine r_nmM (fun μ47 hμ47 => ?_)
  have hO := hO μ47 hμ47
  exact r_vret hC rfl dX11_findLoads_166 hO
set_option maxHeartbeats 4000000 in
set_option maxRecDepth 100000 in
theorem T11_loads {l : Launch} {G : mw_G} {p1 : Int32} {p2 : Int32} {p3 : Int32} {p4 : Int32} {μ : mw_M} {Q : Int32 → mw_M → Prop}  (hO : P11_loads p1 p2 p3 p4 μ Q) : mw_Mi l G kdM yX11_loads cX11_loads 5 (some .int) 72 1740 [.ref (mw_a G 0), .int p1, .int p2, .int p3, .int p4] μ (Q) := by
  refine mw_enter [(0, .ref (mw_a G 0)), (1, .int p1), (2, .int p2), (3, .int p3), (4, .int p4)] RX11 (by decide) rfl (Nat.le_of_ble_eq_true rfl) rfl ?_
  intro p e s m args below meth c hC
  unfold P11_loads at hO
  refine r_aload_n hC 0 dX11_loads_0 rfl rfl ?_
  refine r_iload_n hC 1 dX11_loads_1 rfl rfl ?_
  refine r_callVi hC [.int p1] (T11_isRf  hO) yv11_isRf ml11_302 ob11 rfl ⟨Nat.le_of_ble_eq_true rfl, Nat.le_of_ble_eq_true rfl⟩ rfl rfl (Nat.le_of_ble_eq_true rfl) dX11_loads_2 (fun r1 μ2 hO => ?_)
  rcases hO with ⟨hr, hO⟩ | ⟨hr, hO⟩
  · refine r_topEq hr ?_
    obtain ⟨hO, hm⟩ := hO
    refine r_memEq hm ?_
    refine r_if_eq hC 52 dX11_loads_5 (by decide) (fun h => absurd h (by decide)) (fun _ => ?_)
    refine r_iload_n hC 2 dX11_loads_8 rfl rfl ?_
    refine r_if_lt hC 52 dX11_loads_9 (by decide) (fun h3 => ?_) (fun h3 => ?_)
    · have hO := hO.1 h3
      refine r_iconst hC (-1) dX11_loads_52 (by decide) ?_
      exact r_iret hC rfl dX11_loads_53 hO
    · have hO := hO.2 h3
      refine r_iload_n hC 2 dX11_loads_12 rfl rfl ?_
      refine r_sipush hC 1000 dX11_loads_13 (by decide) ?_
      refine r_idiv hC dX11_loads_16 (by decide) ?_
      refine r_callSi hC [.int (p2 / 1000)] (T11_isGoal  hO) yv11_isGoal ml11_305 ⟨Nat.le_of_ble_eq_true rfl, Nat.le_of_ble_eq_true rfl⟩ rfl rfl (Nat.le_of_ble_eq_true rfl) dX11_loads_17 (fun r4 μ5 hO => ?_)
      rcases hO with ⟨hr, hO⟩ | ⟨hr, hO⟩
      · refine r_topEq hr ?_
        obtain ⟨hO, hm⟩ := hO
        refine r_memEq hm ?_
        refine r_if_eq hC 52 dX11_loads_20 (by decide) (fun h => absurd h (by decide)) (fun _ => ?_)
        refine r_iload_n hC 2 dX11_loads_23 rfl rfl ?_
        refine r_sipush hC 1000 dX11_loads_24 (by decide) ?_
        refine r_irem hC dX11_loads_27 (by decide) ?_
        refine r_i2l hC dX11_loads_28 ?_
        refine r_lconst hC 1 dX11_loads_29 (by decide) ?_
        refine r_ldc2 hC kc11_110 dX11_loads_30 ?_
        refine r_callSi hC [.long (Int32.toInt64 (mw_rem p2 1000)), .long 1, .long 50] (T11_within  hO) yv11_within ml11_106 ⟨Nat.le_of_ble_eq_true rfl, Nat.le_of_ble_eq_true rfl⟩ rfl rfl (Nat.le_of_ble_eq_true rfl) dX11_loads_33 (fun r6 μ7 hO => ?_)
        rcases hO with ⟨hr, hO⟩ | ⟨hr, hO⟩
        · refine r_topEq hr ?_
          obtain ⟨hO, hm⟩ := hO
          refine r_memEq hm ?_
          refine r_if_eq hC 52 dX11_loads_36 (by decide) (fun h => absurd h (by decide)) (fun _ => ?_)
          refine r_iload hC 4 dX11_loads_39 rfl ?_
          refine r_i2l hC dX11_loads_41 ?_
          refine r_lconst hC 0 dX11_loads_42 (by decide) ?_
          refine r_ldc2 hC kc11_141 dX11_loads_43 ?_
          refine r_callSi hC [.long (Int32.toInt64 p4), .long 0, .long 3] (T11_within  hO) yv11_within ml11_106 ⟨Nat.le_of_ble_eq_true rfl, Nat.le_of_ble_eq_true rfl⟩ rfl rfl (Nat.le_of_ble_eq_true rfl) dX11_loads_46 (fun r8 μ9 hO => ?_)
          rcases hO with ⟨hr, hO⟩ | ⟨hr, hO⟩
          · refine r_topEq hr ?_
            obtain ⟨hO, hm⟩ := hO
            refine r_memEq hm ?_
            refine r_if_ne hC 54 dX11_loads_49 (by decide) (fun _ => ?_) (fun h => absurd h (by decide))
            refine r_aload_n hC 0 dX11_loads_54 rfl rfl ?_
            refine r_iload_n hC 1 dX11_loads_55 rfl rfl ?_
            refine r_bipush hC 10 dX11_loads_56 (by decide) ?_
            refine r_idiv hC dX11_loads_58 (by decide) ?_
            refine r_iload_n hC 1 dX11_loads_59 rfl rfl ?_
            refine r_bipush hC 10 dX11_loads_60 (by decide) ?_
            refine r_irem hC dX11_loads_62 (by decide) ?_
            refine r_iload_n hC 2 dX11_loads_63 rfl rfl ?_
            refine r_sipush hC 1000 dX11_loads_64 (by decide) ?_
            refine r_idiv hC dX11_loads_67 (by decide) ?_
            refine r_iload_n hC 2 dX11_loads_68 rfl rfl ?_
            refine r_sipush hC 1000 dX11_loads_69 (by decide) ?_
            refine r_irem hC dX11_loads_72 (by decide) ?_
            refine r_iload_n hC 3 dX11_loads_73 rfl rfl ?_
            refine r_callVv hC [.int (p1 / 10), .int (mw_rem p1 10), .int (p2 / 1000), .int (mw_rem p2 1000), .int p3] (T11_findLoads  hO) yv11_findLoads ml11_358 ob11 rfl ⟨Nat.le_of_ble_eq_true rfl, Nat.le_of_ble_eq_true rfl⟩ rfl rfl (Nat.le_of_ble_eq_true rfl) dX11_loads_74 (fun μ10 hO => ?_)
            refine r_iload hC 4 dX11_loads_77 rfl ?_
            refine r_if_ne hC 89 dX11_loads_79 (by decide) (fun h11 => ?_) (fun h11 => ?_)
            · have hO := hO.2 h11
              refine r_iload hC 4 dX11_loads_89 rfl ?_
              refine r_iconst hC 1 dX11_loads_91 (by decide) ?_
              refine r_icmp_ne hC 102 dX11_loads_92 (by decide) (fun h12 => ?_) (fun h12 => ?_)
              · have hO := hO.2 h12
                refine r_iload hC 4 dX11_loads_102 rfl ?_
                refine r_iconst hC 2 dX11_loads_104 (by decide) ?_
                refine r_icmp_ne hC 115 dX11_loads_105 (by decide) (fun h13 => ?_) (fun h13 => ?_)
                · have hO := hO.2 h13
                  refine r_aload_n hC 0 dX11_loads_115 rfl rfl ?_
                  refine r_getI hC fl11_355 ob11 rfl dX11_loads_116 ?_
                  exact r_iret hC rfl dX11_loads_119 hO
                · have hO := hO.1 h13
                  refine r_aload_n hC 0 dX11_loads_108 rfl rfl ?_
                  refine r_getI hC fl11_352 ob11 rfl dX11_loads_109 ?_
                  refine r_goto hC 119 dX11_loads_112 (by decide) ?_
                  exact r_iret hC rfl dX11_loads_119 hO
              · have hO := hO.1 h12
                refine r_aload_n hC 0 dX11_loads_95 rfl rfl ?_
                refine r_getI hC fl11_349 ob11 rfl dX11_loads_96 ?_
                refine r_goto hC 119 dX11_loads_99 (by decide) ?_
                exact r_iret hC rfl dX11_loads_119 hO
            · have hO := hO.1 h11
              refine r_aload_n hC 0 dX11_loads_82 rfl rfl ?_
              refine r_getI hC fl11_346 ob11 rfl dX11_loads_83 ?_
              refine r_goto hC 119 dX11_loads_86 (by decide) ?_
              exact r_iret hC rfl dX11_loads_119 hO
          · refine r_topEq hr ?_
            obtain ⟨hO, hm⟩ := hO
            refine r_memEq hm ?_
            refine r_if_ne hC 54 dX11_loads_49 (by decide) (fun h => absurd (by decide) h) (fun _ => ?_)
            refine r_iconst hC (-1) dX11_loads_52 (by decide) ?_
            exact r_iret hC rfl dX11_loads_53 hO
        · refine r_topEq hr ?_
          obtain ⟨hO, hm⟩ := hO
          refine r_memEq hm ?_
          refine r_if_eq hC 52 dX11_loads_36 (by decide) (fun _ => ?_) (fun h => absurd (by decide) h)
          refine r_iconst hC (-1) dX11_loads_52 (by decide) ?_
          exact r_iret hC rfl dX11_loads_53 hO
      · refine r_topEq hr ?_
        obtain ⟨hO, hm⟩ := hO
        refine r_memEq hm ?_
        refine r_if_eq hC 52 dX11_loads_20 (by decide) (fun _ => ?_) (fun h => absurd (by decide) h)
        refine r_iconst hC (-1) dX11_loads_52 (by decide) ?_
        exact r_iret hC rfl dX11_loads_53 hO
  · refine r_topEq hr ?_
    obtain ⟨hO, hm⟩ := hO
    refine r_memEq hm ?_
    refine r_if_eq hC 52 dX11_loads_5 (by decide) (fun _ => ?_) (fun h => absurd (by decide) h)
    refine r_iconst hC (-1) dX11_loads_52 (by decide) ?_
    exact r_iret hC rfl dX11_loads_53 hO
set_option maxHeartbeats 4000000 in
set_option maxRecDepth 100000 in
theorem T11_best {l : Launch} {G : mw_G} {p1 : Int32} {p2 : Int32} {p3 : Int32} {μ : mw_M} {Q : Int32 → mw_M → Prop}  (hO : P11_best p1 p2 p3 μ Q) : mw_Mi l G kdM yX11_best cX11_best 11 (some .int) 72 1740 [.ref (mw_a G 0), .int p1, .int p2, .int p3] μ (Q) := by
  refine mw_enter [(0, .ref (mw_a G 0)), (1, .int p1), (2, .int p2), (3, .int p3)] RX11 (by decide) rfl (Nat.le_of_ble_eq_true rfl) rfl ?_
  intro p e s m args below meth c hC
  unfold P11_best at hO
  refine r_iload_n hC 1 dX11_best_0 rfl rfl ?_
  refine r_i2l hC dX11_best_1 ?_
  refine r_lconst hC 0 dX11_best_2 (by decide) ?_
  refine r_aload_n hC 0 dX11_best_3 rfl rfl ?_
  refine r_getI hC fl11_151 ob11 rfl dX11_best_4 ?_
  refine r_iconst hC 1 dX11_best_7 (by decide) ?_
  refine r_isub hC dX11_best_8 ?_
  refine r_i2l hC dX11_best_9 ?_
  refine r_callSi hC [.long (Int32.toInt64 p1), .long 0, .long (Int32.toInt64 ((μ.1 0 9) - 1))] (T11_within  hO) yv11_within ml11_106 ⟨Nat.le_of_ble_eq_true rfl, Nat.le_of_ble_eq_true rfl⟩ rfl rfl (Nat.le_of_ble_eq_true rfl) dX11_best_10 (fun r1 μ2 hO => ?_)
  rcases hO with ⟨hr, hO⟩ | ⟨hr, hO⟩
  · refine r_topEq hr ?_
    obtain ⟨hO, hm⟩ := hO
    refine r_memEq hm ?_
    refine r_if_eq hC 23 dX11_best_13 (by decide) (fun h => absurd h (by decide)) (fun _ => ?_)
    refine r_iload_n hC 2 dX11_best_16 rfl rfl ?_
    refine r_callSi hC [.int p2] (T11_isGoal  hO) yv11_isGoal ml11_305 ⟨Nat.le_of_ble_eq_true rfl, Nat.le_of_ble_eq_true rfl⟩ rfl rfl (Nat.le_of_ble_eq_true rfl) dX11_best_17 (fun r3 μ4 hO => ?_)
    rcases hO with ⟨hr, hO⟩ | ⟨hr, hO⟩
    · refine r_topEq hr ?_
      obtain ⟨hO, hm⟩ := hO
      refine r_memEq hm ?_
      refine r_if_ne hC 25 dX11_best_20 (by decide) (fun _ => ?_) (fun h => absurd h (by decide))
      refine r_aload_n hC 0 dX11_best_25 rfl rfl ?_
      refine r_getI hC fl11_235 ob11 rfl dX11_best_26 ?_
      refine r_if_ne hC 35 dX11_best_29 (by decide) (fun h5 => ?_) (fun h5 => ?_)
      · have hO := hO.2 h5
        refine r_iconst hC (-1) dX11_best_35 (by decide) ?_
        refine r_istore hC [(4, .int (-1)), (0, .ref (mw_a G 0)), (1, .int p1), (2, .int p2), (3, .int p3)] dX11_best_36 (by decide) rfl ?_
        refine r_iconst hC 0 dX11_best_38 (by decide) ?_
        refine r_istore hC [(5, .int 0), (4, .int (-1)), (0, .ref (mw_a G 0)), (1, .int p1), (2, .int p2), (3, .int p3)] dX11_best_39 (by decide) rfl ?_
        refine r_iconst hC 0 dX11_best_41 (by decide) ?_
        refine r_istore hC [(6, .int 0), (5, .int 0), (4, .int (-1)), (0, .ref (mw_a G 0)), (1, .int p1), (2, .int p2), (3, .int p3)] dX11_best_42 (by decide) rfl ?_
        refine r_iconst hC 0 dX11_best_44 (by decide) ?_
        refine r_istore hC [(7, .int 0), (6, .int 0), (5, .int 0), (4, .int (-1)), (0, .ref (mw_a G 0)), (1, .int p1), (2, .int p2), (3, .int p3)] dX11_best_45 (by decide) rfl ?_
        refine r_iconst hC 0 dX11_best_47 (by decide) ?_
        refine r_istore hC [(8, .int 0), (7, .int 0), (6, .int 0), (5, .int 0), (4, .int (-1)), (0, .ref (mw_a G 0)), (1, .int p1), (2, .int p2), (3, .int p3)] dX11_best_48 (by decide) rfl ?_
        have hLn12 : ∀   (n12 : Nat) (v6 : Int32) (v7 : Int32) (v8 : Int32) (v9 : Int32) (v10 : Int32) (μ11 : mw_M), L11_best_50 p1 p2 p3 Q n12 v6 v7 v8 v9 v10 μ11 → mw_W p l e (mw_rm 72 1740) s m args below meth c G kdM 11 (MQ below (va_Qi (Q) (mw_B G kdM) (mw_A G kdM)) args s 0 0 (mw_A G kdM)) 50 [(8, .int v6), (7, .int v7), (6, .int v8), (5, .int v9), (4, .int v10), (0, .ref (mw_a G 0)), (1, .int p1), (2, .int p2), (3, .int p3)] [] μ11 := by
          intro   n12
          induction n12 with
          | zero => intro v6 v7 v8 v9 v10 μ11 hO; exact False.elim hO
          | succ n12 ihn12 =>
            intro v6 v7 v8 v9 v10 μ11 hO
            refine r_iload hC 0 dX11_best_50 rfl ?_
            refine r_aload_n hC 5 dX11_best_52 rfl rfl ?_
            refine r_getI hC fl11_235 ob11 rfl dX11_best_53 ?_
            refine r_icmp_ge hC 181 dX11_best_56 (by decide) (fun h13 => ?_) (fun h13 => ?_)
            · have hO := hO.1 h13
              refine r_iload hC 4 dX11_best_181 rfl ?_
              exact r_iret hC rfl dX11_best_183 hO
            · have hO := hO.2 h13
              refine r_aload_n hC 5 dX11_best_59 rfl rfl ?_
              refine r_iload hC 0 dX11_best_60 rfl ?_
              refine r_iload_n hC 6 dX11_best_62 rfl rfl ?_
              refine r_iload_n hC 7 dX11_best_63 rfl rfl ?_
              refine r_bipush hC 9 dX11_best_64 (by decide) ?_
              refine r_iload_n hC 8 dX11_best_66 rfl rfl ?_
              refine r_callVv hC [.int v6, .int p1, .int p2, .int 9, .int p3] (T11_findLoads  hO) yv11_findLoads ml11_358 ob11 rfl ⟨Nat.le_of_ble_eq_true rfl, Nat.le_of_ble_eq_true rfl⟩ rfl rfl (Nat.le_of_ble_eq_true rfl) dX11_best_67 (fun μ14 hO => ?_)
              refine r_aload_n hC 5 dX11_best_70 rfl rfl ?_
              refine r_getI hC fl11_346 ob11 rfl dX11_best_71 ?_
              refine r_iload hC 3 dX11_best_74 rfl ?_
              refine r_icmp_ne hC 92 dX11_best_76 (by decide) (fun h15 => ?_) (fun h15 => ?_)
              · have hO := hO.2 h15
                refine r_iconst hC 0 dX11_best_92 (by decide) ?_
                refine r_istore hC [(9, .int 0), (8, .int v6), (7, .int v7), (6, .int v8), (5, .int v9), (4, .int v10), (0, .ref (mw_a G 0)), (1, .int p1), (2, .int p2), (3, .int p3)] dX11_best_93 (by decide) rfl ?_
                refine r_iload hC 5 dX11_best_95 rfl ?_
                refine r_if_lt hC 141 dX11_best_97 (by decide) (fun h16 => ?_) (fun h16 => ?_)
                · have hO := hO.1 h16
                  refine r_iconst hC 1 dX11_best_141 (by decide) ?_
                  refine r_goto hC 146 dX11_best_142 (by decide) ?_
                  refine r_istore hC [(10, .int 1), (9, .int 0), (8, .int v6), (7, .int v7), (6, .int v8), (5, .int v9), (4, .int v10), (0, .ref (mw_a G 0)), (1, .int p1), (2, .int p2), (3, .int p3)] dX11_best_146 (by decide) rfl ?_
                  refine r_iload hC 0 dX11_best_148 rfl ?_
                  refine r_if_eq hC 175 dX11_best_150 (by decide) (fun h => absurd h (by decide)) (fun _ => ?_)
                  refine r_iload hC 2 dX11_best_153 rfl ?_
                  refine r_istore hC [(4, .int v6), (10, .int 1), (9, .int 0), (8, .int v6), (7, .int v7), (6, .int v8), (5, .int v9), (0, .ref (mw_a G 0)), (1, .int p1), (2, .int p2), (3, .int p3)] dX11_best_155 (by decide) rfl ?_
                  refine r_aload_n hC 7 dX11_best_157 rfl rfl ?_
                  refine r_getI hC fl11_346 ob11 rfl dX11_best_158 ?_
                  refine r_nmI (fun x17 hx17 => ?_)
                  have hO := hO x17 hx17
                  refine r_istore hC [(5, .int x17), (4, .int v6), (10, .int 1), (9, .int 0), (8, .int v6), (7, .int v7), (6, .int v8), (0, .ref (mw_a G 0)), (1, .int p1), (2, .int p2), (3, .int p3)] dX11_best_161 (by decide) rfl ?_
                  refine r_aload_n hC 7 dX11_best_163 rfl rfl ?_
                  refine r_getI hC fl11_352 ob11 rfl dX11_best_164 ?_
                  refine r_nmI (fun x18 hx18 => ?_)
                  have hO := hO x18 hx18
                  refine r_istore hC [(6, .int x18), (5, .int x17), (4, .int v6), (10, .int 1), (9, .int 0), (8, .int v6), (7, .int v7), (0, .ref (mw_a G 0)), (1, .int p1), (2, .int p2), (3, .int p3)] dX11_best_167 (by decide) rfl ?_
                  refine r_aload_n hC 7 dX11_best_169 rfl rfl ?_
                  refine r_getI hC fl11_349 ob11 rfl dX11_best_170 ?_
                  refine r_nmI (fun x19 hx19 => ?_)
                  have hO := hO x19 hx19
                  refine r_istore hC [(7, .int x19), (6, .int x18), (5, .int x17), (4, .int v6), (10, .int 1), (9, .int 0), (8, .int v6), (0, .ref (mw_a G 0)), (1, .int p1), (2, .int p2), (3, .int p3)] dX11_best_173 (by decide) rfl ?_
                  obtain ⟨x20, hx20⟩ : ∃ y : Int32, y = v6 + 1 := ⟨_, rfl⟩
                  have hO := hO x20 hx20
                  refine r_iinc hC x20 6 [(8, .int x20), (7, .int x19), (6, .int x18), (5, .int x17), (4, .int v6), (10, .int 1), (9, .int 0), (0, .ref (mw_a G 0)), (1, .int p1), (2, .int p2), (3, .int p3)] dX11_best_175 rfl (by rw [hx20]; rfl) (by decide) rfl ?_
                  refine r_goto hC 50 dX11_best_178 (by decide) ?_
                  refine r_lv hC [(8, .int x20), (7, .int x19), (6, .int x18), (5, .int x17), (4, .int v6), (0, .ref (mw_a G 0)), (1, .int p1), (2, .int p2), (3, .int p3)] [0, 1, 2, 3, 4, 7, 8, 9, 10] rfl ?_
                  exact ihn12 x20 x19 x18 x17 v6 μ14 hO
                · have hO := hO.2 h16
                  refine r_aload_n hC 6 dX11_best_100 rfl rfl ?_
                  refine r_getI hC fl11_346 ob11 rfl dX11_best_101 ?_
                  refine r_iload hC 4 dX11_best_104 rfl ?_
                  refine r_icmp_gt hC 141 dX11_best_106 (by decide) (fun h21 => ?_) (fun h21 => ?_)
                  · have hO := hO.1 h21
                    refine r_iconst hC 1 dX11_best_141 (by decide) ?_
                    refine r_goto hC 146 dX11_best_142 (by decide) ?_
                    refine r_istore hC [(10, .int 1), (9, .int 0), (8, .int v6), (7, .int v7), (6, .int v8), (5, .int v9), (4, .int v10), (0, .ref (mw_a G 0)), (1, .int p1), (2, .int p2), (3, .int p3)] dX11_best_146 (by decide) rfl ?_
                    refine r_iload hC 0 dX11_best_148 rfl ?_
                    refine r_if_eq hC 175 dX11_best_150 (by decide) (fun h => absurd h (by decide)) (fun _ => ?_)
                    refine r_iload hC 2 dX11_best_153 rfl ?_
                    refine r_istore hC [(4, .int v6), (10, .int 1), (9, .int 0), (8, .int v6), (7, .int v7), (6, .int v8), (5, .int v9), (0, .ref (mw_a G 0)), (1, .int p1), (2, .int p2), (3, .int p3)] dX11_best_155 (by decide) rfl ?_
                    refine r_aload_n hC 7 dX11_best_157 rfl rfl ?_
                    refine r_getI hC fl11_346 ob11 rfl dX11_best_158 ?_
                    refine r_nmI (fun x22 hx22 => ?_)
                    have hO := hO x22 hx22
                    refine r_istore hC [(5, .int x22), (4, .int v6), (10, .int 1), (9, .int 0), (8, .int v6), (7, .int v7), (6, .int v8), (0, .ref (mw_a G 0)), (1, .int p1), (2, .int p2), (3, .int p3)] dX11_best_161 (by decide) rfl ?_
                    refine r_aload_n hC 7 dX11_best_163 rfl rfl ?_
                    refine r_getI hC fl11_352 ob11 rfl dX11_best_164 ?_
                    refine r_nmI (fun x23 hx23 => ?_)
                    have hO := hO x23 hx23
                    refine r_istore hC [(6, .int x23), (5, .int x22), (4, .int v6), (10, .int 1), (9, .int 0), (8, .int v6), (7, .int v7), (0, .ref (mw_a G 0)), (1, .int p1), (2, .int p2), (3, .int p3)] dX11_best_167 (by decide) rfl ?_
                    refine r_aload_n hC 7 dX11_best_169 rfl rfl ?_
                    refine r_getI hC fl11_349 ob11 rfl dX11_best_170 ?_
                    refine r_nmI (fun x24 hx24 => ?_)
                    have hO := hO x24 hx24
                    refine r_istore hC [(7, .int x24), (6, .int x23), (5, .int x22), (4, .int v6), (10, .int 1), (9, .int 0), (8, .int v6), (0, .ref (mw_a G 0)), (1, .int p1), (2, .int p2), (3, .int p3)] dX11_best_173 (by decide) rfl ?_
                    obtain ⟨x25, hx25⟩ : ∃ y : Int32, y = v6 + 1 := ⟨_, rfl⟩
                    have hO := hO x25 hx25
                    refine r_iinc hC x25 6 [(8, .int x25), (7, .int x24), (6, .int x23), (5, .int x22), (4, .int v6), (10, .int 1), (9, .int 0), (0, .ref (mw_a G 0)), (1, .int p1), (2, .int p2), (3, .int p3)] dX11_best_175 rfl (by rw [hx25]; rfl) (by decide) rfl ?_
                    refine r_goto hC 50 dX11_best_178 (by decide) ?_
                    refine r_lv hC [(8, .int x25), (7, .int x24), (6, .int x23), (5, .int x22), (4, .int v6), (0, .ref (mw_a G 0)), (1, .int p1), (2, .int p2), (3, .int p3)] [0, 1, 2, 3, 4, 7, 8, 9, 10] rfl ?_
                    exact ihn12 x25 x24 x23 x22 v6 μ14 hO
                  · have hO := hO.2 h21
                    refine r_aload_n hC 6 dX11_best_109 rfl rfl ?_
                    refine r_getI hC fl11_346 ob11 rfl dX11_best_110 ?_
                    refine r_iload hC 4 dX11_best_113 rfl ?_
                    refine r_icmp_ne hC 127 dX11_best_115 (by decide) (fun h26 => ?_) (fun h26 => ?_)
                    · have hO := hO.2 h26
                      refine r_iload hC 0 dX11_best_127 rfl ?_
                      refine r_if_eq hC 145 dX11_best_129 (by decide) (fun _ => ?_) (fun h => absurd (by decide) h)
                      refine r_iconst hC 0 dX11_best_145 (by decide) ?_
                      refine r_istore hC [(10, .int 0), (9, .int 0), (8, .int v6), (7, .int v7), (6, .int v8), (5, .int v9), (4, .int v10), (0, .ref (mw_a G 0)), (1, .int p1), (2, .int p2), (3, .int p3)] dX11_best_146 (by decide) rfl ?_
                      refine r_iload hC 0 dX11_best_148 rfl ?_
                      refine r_if_eq hC 175 dX11_best_150 (by decide) (fun _ => ?_) (fun h => absurd (by decide) h)
                      obtain ⟨x27, hx27⟩ : ∃ y : Int32, y = v6 + 1 := ⟨_, rfl⟩
                      have hO := hO x27 hx27
                      refine r_iinc hC x27 2 [(8, .int x27), (10, .int 0), (9, .int 0), (7, .int v7), (6, .int v8), (5, .int v9), (4, .int v10), (0, .ref (mw_a G 0)), (1, .int p1), (2, .int p2), (3, .int p3)] dX11_best_175 rfl (by rw [hx27]; rfl) (by decide) rfl ?_
                      refine r_goto hC 50 dX11_best_178 (by decide) ?_
                      refine r_lv hC [(8, .int x27), (7, .int v7), (6, .int v8), (5, .int v9), (4, .int v10), (0, .ref (mw_a G 0)), (1, .int p1), (2, .int p2), (3, .int p3)] [0, 3, 4, 5, 6, 7, 8, 9, 10] rfl ?_
                      exact ihn12 x27 v7 v8 v9 v10 μ14 hO
                    · have hO := hO.1 h26
                      refine r_aload_n hC 6 dX11_best_118 rfl rfl ?_
                      refine r_getI hC fl11_352 ob11 rfl dX11_best_119 ?_
                      refine r_iload hC 3 dX11_best_122 rfl ?_
                      refine r_icmp_lt hC 141 dX11_best_124 (by decide) (fun h28 => ?_) (fun h28 => ?_)
                      · have hO := hO.1 h28
                        refine r_iconst hC 1 dX11_best_141 (by decide) ?_
                        refine r_goto hC 146 dX11_best_142 (by decide) ?_
                        refine r_istore hC [(10, .int 1), (9, .int 0), (8, .int v6), (7, .int v7), (6, .int v8), (5, .int v9), (4, .int v10), (0, .ref (mw_a G 0)), (1, .int p1), (2, .int p2), (3, .int p3)] dX11_best_146 (by decide) rfl ?_
                        refine r_iload hC 0 dX11_best_148 rfl ?_
                        refine r_if_eq hC 175 dX11_best_150 (by decide) (fun h => absurd h (by decide)) (fun _ => ?_)
                        refine r_iload hC 2 dX11_best_153 rfl ?_
                        refine r_istore hC [(4, .int v6), (10, .int 1), (9, .int 0), (8, .int v6), (7, .int v7), (6, .int v8), (5, .int v9), (0, .ref (mw_a G 0)), (1, .int p1), (2, .int p2), (3, .int p3)] dX11_best_155 (by decide) rfl ?_
                        refine r_aload_n hC 7 dX11_best_157 rfl rfl ?_
                        refine r_getI hC fl11_346 ob11 rfl dX11_best_158 ?_
                        refine r_nmI (fun x29 hx29 => ?_)
                        have hO := hO x29 hx29
                        refine r_istore hC [(5, .int x29), (4, .int v6), (10, .int 1), (9, .int 0), (8, .int v6), (7, .int v7), (6, .int v8), (0, .ref (mw_a G 0)), (1, .int p1), (2, .int p2), (3, .int p3)] dX11_best_161 (by decide) rfl ?_
                        refine r_aload_n hC 7 dX11_best_163 rfl rfl ?_
                        refine r_getI hC fl11_352 ob11 rfl dX11_best_164 ?_
                        refine r_nmI (fun x30 hx30 => ?_)
                        have hO := hO x30 hx30
                        refine r_istore hC [(6, .int x30), (5, .int x29), (4, .int v6), (10, .int 1), (9, .int 0), (8, .int v6), (7, .int v7), (0, .ref (mw_a G 0)), (1, .int p1), (2, .int p2), (3, .int p3)] dX11_best_167 (by decide) rfl ?_
                        refine r_aload_n hC 7 dX11_best_169 rfl rfl ?_
                        refine r_getI hC fl11_349 ob11 rfl dX11_best_170 ?_
                        refine r_nmI (fun x31 hx31 => ?_)
                        have hO := hO x31 hx31
                        refine r_istore hC [(7, .int x31), (6, .int x30), (5, .int x29), (4, .int v6), (10, .int 1), (9, .int 0), (8, .int v6), (0, .ref (mw_a G 0)), (1, .int p1), (2, .int p2), (3, .int p3)] dX11_best_173 (by decide) rfl ?_
                        obtain ⟨x32, hx32⟩ : ∃ y : Int32, y = v6 + 1 := ⟨_, rfl⟩
                        have hO := hO x32 hx32
                        refine r_iinc hC x32 6 [(8, .int x32), (7, .int x31), (6, .int x30), (5, .int x29), (4, .int v6), (10, .int 1), (9, .int 0), (0, .ref (mw_a G 0)), (1, .int p1), (2, .int p2), (3, .int p3)] dX11_best_175 rfl (by rw [hx32]; rfl) (by decide) rfl ?_
                        refine r_goto hC 50 dX11_best_178 (by decide) ?_
                        refine r_lv hC [(8, .int x32), (7, .int x31), (6, .int x30), (5, .int x29), (4, .int v6), (0, .ref (mw_a G 0)), (1, .int p1), (2, .int p2), (3, .int p3)] [0, 1, 2, 3, 4, 7, 8, 9, 10] rfl ?_
                        exact ihn12 x32 x31 x30 x29 v6 μ14 hO
                      · have hO := hO.2 h28
                        refine r_iload hC 0 dX11_best_127 rfl ?_
                        refine r_if_eq hC 145 dX11_best_129 (by decide) (fun _ => ?_) (fun h => absurd (by decide) h)
                        refine r_iconst hC 0 dX11_best_145 (by decide) ?_
                        refine r_istore hC [(10, .int 0), (9, .int 0), (8, .int v6), (7, .int v7), (6, .int v8), (5, .int v9), (4, .int v10), (0, .ref (mw_a G 0)), (1, .int p1), (2, .int p2), (3, .int p3)] dX11_best_146 (by decide) rfl ?_
                        refine r_iload hC 0 dX11_best_148 rfl ?_
                        refine r_if_eq hC 175 dX11_best_150 (by decide) (fun _ => ?_) (fun h => absurd (by decide) h)
                        obtain ⟨x33, hx33⟩ : ∃ y : Int32, y = v6 + 1 := ⟨_, rfl⟩
                        have hO := hO x33 hx33
                        refine r_iinc hC x33 2 [(8, .int x33), (10, .int 0), (9, .int 0), (7, .int v7), (6, .int v8), (5, .int v9), (4, .int v10), (0, .ref (mw_a G 0)), (1, .int p1), (2, .int p2), (3, .int p3)] dX11_best_175 rfl (by rw [hx33]; rfl) (by decide) rfl ?_
                        refine r_goto hC 50 dX11_best_178 (by decide) ?_
                        refine r_lv hC [(8, .int x33), (7, .int v7), (6, .int v8), (5, .int v9), (4, .int v10), (0, .ref (mw_a G 0)), (1, .int p1), (2, .int p2), (3, .int p3)] [0, 3, 4, 5, 6, 7, 8, 9, 10] rfl ?_
                        exact ihn12 x33 v7 v8 v9 v10 μ14 hO
              · have hO := hO.1 h15
                refine r_aload_n hC 5 dX11_best_79 rfl rfl ?_
                refine r_getI hC fl11_352 ob11 rfl dX11_best_80 ?_
                refine r_iload hC 2 dX11_best_83 rfl ?_
                refine r_icmp_ne hC 92 dX11_best_85 (by decide) (fun h34 => ?_) (fun h34 => ?_)
                · have hO := hO.2 h34
                  refine r_iconst hC 0 dX11_best_92 (by decide) ?_
                  refine r_istore hC [(9, .int 0), (8, .int v6), (7, .int v7), (6, .int v8), (5, .int v9), (4, .int v10), (0, .ref (mw_a G 0)), (1, .int p1), (2, .int p2), (3, .int p3)] dX11_best_93 (by decide) rfl ?_
                  refine r_iload hC 5 dX11_best_95 rfl ?_
                  refine r_if_lt hC 141 dX11_best_97 (by decide) (fun h35 => ?_) (fun h35 => ?_)
                  · have hO := hO.1 h35
                    refine r_iconst hC 1 dX11_best_141 (by decide) ?_
                    refine r_goto hC 146 dX11_best_142 (by decide) ?_
                    refine r_istore hC [(10, .int 1), (9, .int 0), (8, .int v6), (7, .int v7), (6, .int v8), (5, .int v9), (4, .int v10), (0, .ref (mw_a G 0)), (1, .int p1), (2, .int p2), (3, .int p3)] dX11_best_146 (by decide) rfl ?_
                    refine r_iload hC 0 dX11_best_148 rfl ?_
                    refine r_if_eq hC 175 dX11_best_150 (by decide) (fun h => absurd h (by decide)) (fun _ => ?_)
                    refine r_iload hC 2 dX11_best_153 rfl ?_
                    refine r_istore hC [(4, .int v6), (10, .int 1), (9, .int 0), (8, .int v6), (7, .int v7), (6, .int v8), (5, .int v9), (0, .ref (mw_a G 0)), (1, .int p1), (2, .int p2), (3, .int p3)] dX11_best_155 (by decide) rfl ?_
                    refine r_aload_n hC 7 dX11_best_157 rfl rfl ?_
                    refine r_getI hC fl11_346 ob11 rfl dX11_best_158 ?_
                    refine r_nmI (fun x36 hx36 => ?_)
                    have hO := hO x36 hx36
                    refine r_istore hC [(5, .int x36), (4, .int v6), (10, .int 1), (9, .int 0), (8, .int v6), (7, .int v7), (6, .int v8), (0, .ref (mw_a G 0)), (1, .int p1), (2, .int p2), (3, .int p3)] dX11_best_161 (by decide) rfl ?_
                    refine r_aload_n hC 7 dX11_best_163 rfl rfl ?_
                    refine r_getI hC fl11_352 ob11 rfl dX11_best_164 ?_
                    refine r_nmI (fun x37 hx37 => ?_)
                    have hO := hO x37 hx37
                    refine r_istore hC [(6, .int x37), (5, .int x36), (4, .int v6), (10, .int 1), (9, .int 0), (8, .int v6), (7, .int v7), (0, .ref (mw_a G 0)), (1, .int p1), (2, .int p2), (3, .int p3)] dX11_best_167 (by decide) rfl ?_
                    refine r_aload_n hC 7 dX11_best_169 rfl rfl ?_
                    refine r_getI hC fl11_349 ob11 rfl dX11_best_170 ?_
                    refine r_nmI (fun x38 hx38 => ?_)
                    have hO := hO x38 hx38
                    refine r_istore hC [(7, .int x38), (6, .int x37), (5, .int x36), (4, .int v6), (10, .int 1), (9, .int 0), (8, .int v6), (0, .ref (mw_a G 0)), (1, .int p1), (2, .int p2), (3, .int p3)] dX11_best_173 (by decide) rfl ?_
                    obtain ⟨x39, hx39⟩ : ∃ y : Int32, y = v6 + 1 := ⟨_, rfl⟩
                    have hO := hO x39 hx39
                    refine r_iinc hC x39 6 [(8, .int x39), (7, .int x38), (6, .int x37), (5, .int x36), (4, .int v6), (10, .int 1), (9, .int 0), (0, .ref (mw_a G 0)), (1, .int p1), (2, .int p2), (3, .int p3)] dX11_best_175 rfl (by rw [hx39]; rfl) (by decide) rfl ?_
                    refine r_goto hC 50 dX11_best_178 (by decide) ?_
                    refine r_lv hC [(8, .int x39), (7, .int x38), (6, .int x37), (5, .int x36), (4, .int v6), (0, .ref (mw_a G 0)), (1, .int p1), (2, .int p2), (3, .int p3)] [0, 1, 2, 3, 4, 7, 8, 9, 10] rfl ?_
                    exact ihn12 x39 x38 x37 x36 v6 μ14 hO
                  · have hO := hO.2 h35
                    refine r_aload_n hC 6 dX11_best_100 rfl rfl ?_
                    refine r_getI hC fl11_346 ob11 rfl dX11_best_101 ?_
                    refine r_iload hC 4 dX11_best_104 rfl ?_
                    refine r_icmp_gt hC 141 dX11_best_106 (by decide) (fun h40 => ?_) (fun h40 => ?_)
                    · have hO := hO.1 h40
                      refine r_iconst hC 1 dX11_best_141 (by decide) ?_
                      refine r_goto hC 146 dX11_best_142 (by decide) ?_
                      refine r_istore hC [(10, .int 1), (9, .int 0), (8, .int v6), (7, .int v7), (6, .int v8), (5, .int v9), (4, .int v10), (0, .ref (mw_a G 0)), (1, .int p1), (2, .int p2), (3, .int p3)] dX11_best_146 (by decide) rfl ?_
                      refine r_iload hC 0 dX11_best_148 rfl ?_
                      refine r_if_eq hC 175 dX11_best_150 (by decide) (fun h => absurd h (by decide)) (fun _ => ?_)
                      refine r_iload hC 2 dX11_best_153 rfl ?_
                      refine r_istore hC [(4, .int v6), (10, .int 1), (9, .int 0), (8, .int v6), (7, .int v7), (6, .int v8), (5, .int v9), (0, .ref (mw_a G 0)), (1, .int p1), (2, .int p2), (3, .int p3)] dX11_best_155 (by decide) rfl ?_
                      refine r_aload_n hC 7 dX11_best_157 rfl rfl ?_
                      refine r_getI hC fl11_346 ob11 rfl dX11_best_158 ?_
                      refine r_nmI (fun x41 hx41 => ?_)
                      have hO := hO x41 hx41
                      refine r_istore hC [(5, .int x41), (4, .int v6), (10, .int 1), (9, .int 0), (8, .int v6), (7, .int v7), (6, .int v8), (0, .ref (mw_a G 0)), (1, .int p1), (2, .int p2), (3, .int p3)] dX11_best_161 (by decide) rfl ?_
                      refine r_aload_n hC 7 dX11_best_163 rfl rfl ?_
                      refine r_getI hC fl11_352 ob11 rfl dX11_best_164 ?_
                      refine r_nmI (fun x42 hx42 => ?_)
                      have hO := hO x42 hx42
                      refine r_istore hC [(6, .int x42), (5, .int x41), (4, .int v6), (10, .int 1), (9, .int 0), (8, .int v6), (7, .int v7), (0, .ref (mw_a G 0)), (1, .int p1), (2, .int p2), (3, .int p3)] dX11_best_167 (by decide) rfl ?_
                      refine r_aload_n hC 7 dX11_best_169 rfl rfl ?_
                      refine r_getI hC fl11_349 ob11 rfl dX11_best_170 ?_
                      refine r_nmI (fun x43 hx43 => ?_)
                      have hO := hO x43 hx43
                      refine r_istore hC [(7, .int x43), (6, .int x42), (5, .int x41), (4, .int v6), (10, .int 1), (9, .int 0), (8, .int v6), (0, .ref (mw_a G 0)), (1, .int p1), (2, .int p2), (3, .int p3)] dX11_best_173 (by decide) rfl ?_
                      obtain ⟨x44, hx44⟩ : ∃ y : Int32, y = v6 + 1 := ⟨_, rfl⟩
                      have hO := hO x44 hx44
                      refine r_iinc hC x44 6 [(8, .int x44), (7, .int x43), (6, .int x42), (5, .int x41), (4, .int v6), (10, .int 1), (9, .int 0), (0, .ref (mw_a G 0)), (1, .int p1), (2, .int p2), (3, .int p3)] dX11_best_175 rfl (by rw [hx44]; rfl) (by decide) rfl ?_
                      refine r_goto hC 50 dX11_best_178 (by decide) ?_
                      refine r_lv hC [(8, .int x44), (7, .int x43), (6, .int x42), (5, .int x41), (4, .int v6), (0, .ref (mw_a G 0)), (1, .int p1), (2, .int p2), (3, .int p3)] [0, 1, 2, 3, 4, 7, 8, 9, 10] rfl ?_
                      exact ihn12 x44 x43 x42 x41 v6 μ14 hO
                    · have hO := hO.2 h40
                      refine r_aload_n hC 6 dX11_best_109 rfl rfl ?_
                      refine r_getI hC fl11_346 ob11 rfl dX11_best_110 ?_
                      refine r_iload hC 4 dX11_best_113 rfl ?_
                      refine r_icmp_ne hC 127 dX11_best_115 (by decide) (fun h45 => ?_) (fun h45 => ?_)
                      · have hO := hO.2 h45
                        refine r_iload hC 0 dX11_best_127 rfl ?_
                        refine r_if_eq hC 145 dX11_best_129 (by decide) (fun _ => ?_) (fun h => absurd (by decide) h)
                        refine r_iconst hC 0 dX11_best_145 (by decide) ?_
                        refine r_istore hC [(10, .int 0), (9, .int 0), (8, .int v6), (7, .int v7), (6, .int v8), (5, .int v9), (4, .int v10), (0, .ref (mw_a G 0)), (1, .int p1), (2, .int p2), (3, .int p3)] dX11_best_146 (by decide) rfl ?_
                        refine r_iload hC 0 dX11_best_148 rfl ?_
                        refine r_if_eq hC 175 dX11_best_150 (by decide) (fun _ => ?_) (fun h => absurd (by decide) h)
                        obtain ⟨x46, hx46⟩ : ∃ y : Int32, y = v6 + 1 := ⟨_, rfl⟩
                        have hO := hO x46 hx46
                        refine r_iinc hC x46 2 [(8, .int x46), (10, .int 0), (9, .int 0), (7, .int v7), (6, .int v8), (5, .int v9), (4, .int v10), (0, .ref (mw_a G 0)), (1, .int p1), (2, .int p2), (3, .int p3)] dX11_best_175 rfl (by rw [hx46]; rfl) (by decide) rfl ?_
                        refine r_goto hC 50 dX11_best_178 (by decide) ?_
                        refine r_lv hC [(8, .int x46), (7, .int v7), (6, .int v8), (5, .int v9), (4, .int v10), (0, .ref (mw_a G 0)), (1, .int p1), (2, .int p2), (3, .int p3)] [0, 3, 4, 5, 6, 7, 8, 9, 10] rfl ?_
                        exact ihn12 x46 v7 v8 v9 v10 μ14 hO
                      · have hO := hO.1 h45
                        refine r_aload_n hC 6 dX11_best_118 rfl rfl ?_
                        refine r_getI hC fl11_352 ob11 rfl dX11_best_119 ?_
                        refine r_iload hC 3 dX11_best_122 rfl ?_
                        refine r_icmp_lt hC 141 dX11_best_124 (by decide) (fun h47 => ?_) (fun h47 => ?_)
                        · have hO := hO.1 h47
                          refine r_iconst hC 1 dX11_best_141 (by decide) ?_
                          refine r_goto hC 146 dX11_best_142 (by decide) ?_
                          refine r_istore hC [(10, .int 1), (9, .int 0), (8, .int v6), (7, .int v7), (6, .int v8), (5, .int v9), (4, .int v10), (0, .ref (mw_a G 0)), (1, .int p1), (2, .int p2), (3, .int p3)] dX11_best_146 (by decide) rfl ?_
                          refine r_iload hC 0 dX11_best_148 rfl ?_
                          refine r_if_eq hC 175 dX11_best_150 (by decide) (fun h => absurd h (by decide)) (fun _ => ?_)
                          refine r_iload hC 2 dX11_best_153 rfl ?_
                          refine r_istore hC [(4, .int v6), (10, .int 1), (9, .int 0), (8, .int v6), (7, .int v7), (6, .int v8), (5, .int v9), (0, .ref (mw_a G 0)), (1, .int p1), (2, .int p2), (3, .int p3)] dX11_best_155 (by decide) rfl ?_
                          refine r_aload_n hC 7 dX11_best_157 rfl rfl ?_
                          refine r_getI hC fl11_346 ob11 rfl dX11_best_158 ?_
                          refine r_nmI (fun x48 hx48 => ?_)
                          have hO := hO x48 hx48
                          refine r_istore hC [(5, .int x48), (4, .int v6), (10, .int 1), (9, .int 0), (8, .int v6), (7, .int v7), (6, .int v8), (0, .ref (mw_a G 0)), (1, .int p1), (2, .int p2), (3, .int p3)] dX11_best_161 (by decide) rfl ?_
                          refine r_aload_n hC 7 dX11_best_163 rfl rfl ?_
                          refine r_getI hC fl11_352 ob11 rfl dX11_best_164 ?_
                          refine r_nmI (fun x49 hx49 => ?_)
                          have hO := hO x49 hx49
                          refine r_istore hC [(6, .int x49), (5, .int x48), (4, .int v6), (10, .int 1), (9, .int 0), (8, .int v6), (7, .int v7), (0, .ref (mw_a G 0)), (1, .int p1), (2, .int p2), (3, .int p3)] dX11_best_167 (by decide) rfl ?_
                          refine r_aload_n hC 7 dX11_best_169 rfl rfl ?_
                          refine r_getI hC fl11_349 ob11 rfl dX11_best_170 ?_
                          refine r_nmI (fun x50 hx50 => ?_)
                          have hO := hO x50 hx50
                          refine r_istore hC [(7, .int x50), (6, .int x49), (5, .int x48), (4, .int v6), (10, .int 1), (9, .int 0), (8, .int v6), (0, .ref (mw_a G 0)), (1, .int p1), (2, .int p2), (3, .int p3)] dX11_best_173 (by decide) rfl ?_
                          obtain ⟨x51, hx51⟩ : ∃ y : Int32, y = v6 + 1 := ⟨_, rfl⟩
                          have hO := hO x51 hx51
                          refine r_iinc hC x51 6 [(8, .int x51), (7, .int x50), (6, .int x49), (5, .int x48), (4, .int v6), (10, .int 1), (9, .int 0), (0, .ref (mw_a G 0)), (1, .int p1), (2, .int p2), (3, .int p3)] dX11_best_175 rfl (by rw [hx51]; rfl) (by decide) rfl ?_
                          refine r_goto hC 50 dX11_best_178 (by decide) ?_
                          refine r_lv hC [(8, .int x51), (7, .int x50), (6, .int x49), (5, .int x48), (4, .int v6), (0, .ref (mw_a G 0)), (1, .int p1), (2, .int p2), (3, .int p3)] [0, 1, 2, 3, 4, 7, 8, 9, 10] rfl ?_
                          exact ihn12 x51 x50 x49 x48 v6 μ14 hO
                        · have hO := hO.2 h47
                          refine r_iload hC 0 dX11_best_127 rfl ?_
                          refine r_if_eq hC 145 dX11_best_129 (by decide) (fun _ => ?_) (fun h => absurd (by decide) h)
                          refine r_iconst hC 0 dX11_best_145 (by decide) ?_
                          refine r_istore hC [(10, .int 0), (9, .int 0), (8, .int v6), (7, .int v7), (6, .int v8), (5, .int v9), (4, .int v10), (0, .ref (mw_a G 0)), (1, .int p1), (2, .int p2), (3, .int p3)] dX11_best_146 (by decide) rfl ?_
                          refine r_iload hC 0 dX11_best_148 rfl ?_
                          refine r_if_eq hC 175 dX11_best_150 (by decide) (fun _ => ?_) (fun h => absurd (by decide) h)
                          obtain ⟨x52, hx52⟩ : ∃ y : Int32, y = v6 + 1 := ⟨_, rfl⟩
                          have hO := hO x52 hx52
                          refine r_iinc hC x52 2 [(8, .int x52), (10, .int 0), (9, .int 0), (7, .int v7), (6, .int v8), (5, .int v9), (4, .int v10), (0, .ref (mw_a G 0)), (1, .int p1), (2, .int p2), (3, .int p3)] dX11_best_175 rfl (by rw [hx52]; rfl) (by decide) rfl ?_
                          refine r_goto hC 50 dX11_best_178 (by decide) ?_
                          refine r_lv hC [(8, .int x52), (7, .int v7), (6, .int v8), (5, .int v9), (4, .int v10), (0, .ref (mw_a G 0)), (1, .int p1), (2, .int p2), (3, .int p3)] [0, 3, 4, 5, 6, 7, 8, 9, 10] rfl ?_
                          exact ihn12 x52 v7 v8 v9 v10 μ14 hO
                · have hO := hO.1 h34
                  refine r_iconst hC 1 dX11_best_88 (by decide) ?_
                  refine r_goto hC 93 dX11_best_89 (by decide) ?_
                  refine r_istore hC [(9, .int 1), (8, .int v6), (7, .int v7), (6, .int v8), (5, .int v9), (4, .int v10), (0, .ref (mw_a G 0)), (1, .int p1), (2, .int p2), (3, .int p3)] dX11_best_93 (by decide) rfl ?_
                  refine r_iload hC 5 dX11_best_95 rfl ?_
                  refine r_if_lt hC 141 dX11_best_97 (by decide) (fun h53 => ?_) (fun h53 => ?_)
                  · have hO := hO.1 h53
                    refine r_iconst hC 1 dX11_best_141 (by decide) ?_
                    refine r_goto hC 146 dX11_best_142 (by decide) ?_
                    refine r_istore hC [(10, .int 1), (9, .int 1), (8, .int v6), (7, .int v7), (6, .int v8), (5, .int v9), (4, .int v10), (0, .ref (mw_a G 0)), (1, .int p1), (2, .int p2), (3, .int p3)] dX11_best_146 (by decide) rfl ?_
                    refine r_iload hC 0 dX11_best_148 rfl ?_
                    refine r_if_eq hC 175 dX11_best_150 (by decide) (fun h => absurd h (by decide)) (fun _ => ?_)
                    refine r_iload hC 2 dX11_best_153 rfl ?_
                    refine r_istore hC [(4, .int v6), (10, .int 1), (9, .int 1), (8, .int v6), (7, .int v7), (6, .int v8), (5, .int v9), (0, .ref (mw_a G 0)), (1, .int p1), (2, .int p2), (3, .int p3)] dX11_best_155 (by decide) rfl ?_
                    refine r_aload_n hC 7 dX11_best_157 rfl rfl ?_
                    refine r_getI hC fl11_346 ob11 rfl dX11_best_158 ?_
                    refine r_nmI (fun x54 hx54 => ?_)
                    have hO := hO x54 hx54
                    refine r_istore hC [(5, .int x54), (4, .int v6), (10, .int 1), (9, .int 1), (8, .int v6), (7, .int v7), (6, .int v8), (0, .ref (mw_a G 0)), (1, .int p1), (2, .int p2), (3, .int p3)] dX11_best_161 (by decide) rfl ?_
                    refine r_aload_n hC 7 dX11_best_163 rfl rfl ?_
                    refine r_getI hC fl11_352 ob11 rfl dX11_best_164 ?_
                    refine r_nmI (fun x55 hx55 => ?_)
                    have hO := hO x55 hx55
                    refine r_istore hC [(6, .int x55), (5, .int x54), (4, .int v6), (10, .int 1), (9, .int 1), (8, .int v6), (7, .int v7), (0, .ref (mw_a G 0)), (1, .int p1), (2, .int p2), (3, .int p3)] dX11_best_167 (by decide) rfl ?_
                    refine r_aload_n hC 7 dX11_best_169 rfl rfl ?_
                    refine r_getI hC fl11_349 ob11 rfl dX11_best_170 ?_
                    refine r_nmI (fun x56 hx56 => ?_)
                    have hO := hO x56 hx56
                    refine r_istore hC [(7, .int x56), (6, .int x55), (5, .int x54), (4, .int v6), (10, .int 1), (9, .int 1), (8, .int v6), (0, .ref (mw_a G 0)), (1, .int p1), (2, .int p2), (3, .int p3)] dX11_best_173 (by decide) rfl ?_
                    obtain ⟨x57, hx57⟩ : ∃ y : Int32, y = v6 + 1 := ⟨_, rfl⟩
                    have hO := hO x57 hx57
                    refine r_iinc hC x57 6 [(8, .int x57), (7, .int x56), (6, .int x55), (5, .int x54), (4, .int v6), (10, .int 1), (9, .int 1), (0, .ref (mw_a G 0)), (1, .int p1), (2, .int p2), (3, .int p3)] dX11_best_175 rfl (by rw [hx57]; rfl) (by decide) rfl ?_
                    refine r_goto hC 50 dX11_best_178 (by decide) ?_
                    refine r_lv hC [(8, .int x57), (7, .int x56), (6, .int x55), (5, .int x54), (4, .int v6), (0, .ref (mw_a G 0)), (1, .int p1), (2, .int p2), (3, .int p3)] [0, 1, 2, 3, 4, 7, 8, 9, 10] rfl ?_
                    exact ihn12 x57 x56 x55 x54 v6 μ14 hO
                  · have hO := hO.2 h53
                    refine r_aload_n hC 6 dX11_best_100 rfl rfl ?_
                    refine r_getI hC fl11_346 ob11 rfl dX11_best_101 ?_
                    refine r_iload hC 4 dX11_best_104 rfl ?_
                    refine r_icmp_gt hC 141 dX11_best_106 (by decide) (fun h58 => ?_) (fun h58 => ?_)
                    · have hO := hO.1 h58
                      refine r_iconst hC 1 dX11_best_141 (by decide) ?_
                      refine r_goto hC 146 dX11_best_142 (by decide) ?_
                      refine r_istore hC [(10, .int 1), (9, .int 1), (8, .int v6), (7, .int v7), (6, .int v8), (5, .int v9), (4, .int v10), (0, .ref (mw_a G 0)), (1, .int p1), (2, .int p2), (3, .int p3)] dX11_best_146 (by decide) rfl ?_
                      refine r_iload hC 0 dX11_best_148 rfl ?_
                      refine r_if_eq hC 175 dX11_best_150 (by decide) (fun h => absurd h (by decide)) (fun _ => ?_)
                      refine r_iload hC 2 dX11_best_153 rfl ?_
                      refine r_istore hC [(4, .int v6), (10, .int 1), (9, .int 1), (8, .int v6), (7, .int v7), (6, .int v8), (5, .int v9), (0, .ref (mw_a G 0)), (1, .int p1), (2, .int p2), (3, .int p3)] dX11_best_155 (by decide) rfl ?_
                      refine r_aload_n hC 7 dX11_best_157 rfl rfl ?_
                      refine r_getI hC fl11_346 ob11 rfl dX11_best_158 ?_
                      refine r_nmI (fun x59 hx59 => ?_)
                      have hO := hO x59 hx59
                      refine r_istore hC [(5, .int x59), (4, .int v6), (10, .int 1), (9, .int 1), (8, .int v6), (7, .int v7), (6, .int v8), (0, .ref (mw_a G 0)), (1, .int p1), (2, .int p2), (3, .int p3)] dX11_best_161 (by decide) rfl ?_
                      refine r_aload_n hC 7 dX11_best_163 rfl rfl ?_
                      refine r_getI hC fl11_352 ob11 rfl dX11_best_164 ?_
                      refine r_nmI (fun x60 hx60 => ?_)
                      have hO := hO x60 hx60
                      refine r_istore hC [(6, .int x60), (5, .int x59), (4, .int v6), (10, .int 1), (9, .int 1), (8, .int v6), (7, .int v7), (0, .ref (mw_a G 0)), (1, .int p1), (2, .int p2), (3, .int p3)] dX11_best_167 (by decide) rfl ?_
                      refine r_aload_n hC 7 dX11_best_169 rfl rfl ?_
                      refine r_getI hC fl11_349 ob11 rfl dX11_best_170 ?_
                      refine r_nmI (fun x61 hx61 => ?_)
                      have hO := hO x61 hx61
                      refine r_istore hC [(7, .int x61), (6, .int x60), (5, .int x59), (4, .int v6), (10, .int 1), (9, .int 1), (8, .int v6), (0, .ref (mw_a G 0)), (1, .int p1), (2, .int p2), (3, .int p3)] dX11_best_173 (by decide) rfl ?_
                      obtain ⟨x62, hx62⟩ : ∃ y : Int32, y = v6 + 1 := ⟨_, rfl⟩
                      have hO := hO x62 hx62
                      refine r_iinc hC x62 6 [(8, .int x62), (7, .int x61), (6, .int x60), (5, .int x59), (4, .int v6), (10, .int 1), (9, .int 1), (0, .ref (mw_a G 0)), (1, .int p1), (2, .int p2), (3, .int p3)] dX11_best_175 rfl (by rw [hx62]; rfl) (by decide) rfl ?_
                      refine r_goto hC 50 dX11_best_178 (by decide) ?_
                      refine r_lv hC [(8, .int x62), (7, .int x61), (6, .int x60), (5, .int x59), (4, .int v6), (0, .ref (mw_a G 0)), (1, .int p1), (2, .int p2), (3, .int p3)] [0, 1, 2, 3, 4, 7, 8, 9, 10] rfl ?_
                      exact ihn12 x62 x61 x60 x59 v6 μ14 hO
                    · have hO := hO.2 h58
                      refine r_aload_n hC 6 dX11_best_109 rfl rfl ?_
                      refine r_getI hC fl11_346 ob11 rfl dX11_best_110 ?_
                      refine r_iload hC 4 dX11_best_113 rfl ?_
                      refine r_icmp_ne hC 127 dX11_best_115 (by decide) (fun h63 => ?_) (fun h63 => ?_)
                      · have hO := hO.2 h63
                        refine r_iload hC 0 dX11_best_127 rfl ?_
                        refine r_if_eq hC 145 dX11_best_129 (by decide) (fun h => absurd h (by decide)) (fun _ => ?_)
                        refine r_aload_n hC 6 dX11_best_132 rfl rfl ?_
                        refine r_getI hC fl11_349 ob11 rfl dX11_best_133 ?_
                        refine r_iload hC 2 dX11_best_136 rfl ?_
                        refine r_icmp_ge hC 145 dX11_best_138 (by decide) (fun h64 => ?_) (fun h64 => ?_)
                        · have hO := hO.1 h64
                          refine r_iconst hC 0 dX11_best_145 (by decide) ?_
                          refine r_istore hC [(10, .int 0), (9, .int 1), (8, .int v6), (7, .int v7), (6, .int v8), (5, .int v9), (4, .int v10), (0, .ref (mw_a G 0)), (1, .int p1), (2, .int p2), (3, .int p3)] dX11_best_146 (by decide) rfl ?_
                          refine r_iload hC 0 dX11_best_148 rfl ?_
                          refine r_if_eq hC 175 dX11_best_150 (by decide) (fun _ => ?_) (fun h => absurd (by decide) h)
                          obtain ⟨x65, hx65⟩ : ∃ y : Int32, y = v6 + 1 := ⟨_, rfl⟩
                          have hO := hO x65 hx65
                          refine r_iinc hC x65 2 [(8, .int x65), (10, .int 0), (9, .int 1), (7, .int v7), (6, .int v8), (5, .int v9), (4, .int v10), (0, .ref (mw_a G 0)), (1, .int p1), (2, .int p2), (3, .int p3)] dX11_best_175 rfl (by rw [hx65]; rfl) (by decide) rfl ?_
                          refine r_goto hC 50 dX11_best_178 (by decide) ?_
                          refine r_lv hC [(8, .int x65), (7, .int v7), (6, .int v8), (5, .int v9), (4, .int v10), (0, .ref (mw_a G 0)), (1, .int p1), (2, .int p2), (3, .int p3)] [0, 3, 4, 5, 6, 7, 8, 9, 10] rfl ?_
                          exact ihn12 x65 v7 v8 v9 v10 μ14 hO
                        · have hO := hO.2 h64
                          refine r_iconst hC 1 dX11_best_141 (by decide) ?_
                          refine r_goto hC 146 dX11_best_142 (by decide) ?_
                          refine r_istore hC [(10, .int 1), (9, .int 1), (8, .int v6), (7, .int v7), (6, .int v8), (5, .int v9), (4, .int v10), (0, .ref (mw_a G 0)), (1, .int p1), (2, .int p2), (3, .int p3)] dX11_best_146 (by decide) rfl ?_
                          refine r_iload hC 0 dX11_best_148 rfl ?_
                          refine r_if_eq hC 175 dX11_best_150 (by decide) (fun h => absurd h (by decide)) (fun _ => ?_)
                          refine r_iload hC 2 dX11_best_153 rfl ?_
                          refine r_istore hC [(4, .int v6), (10, .int 1), (9, .int 1), (8, .int v6), (7, .int v7), (6, .int v8), (5, .int v9), (0, .ref (mw_a G 0)), (1, .int p1), (2, .int p2), (3, .int p3)] dX11_best_155 (by decide) rfl ?_
                          refine r_aload_n hC 7 dX11_best_157 rfl rfl ?_
                          refine r_getI hC fl11_346 ob11 rfl dX11_best_158 ?_
                          refine r_nmI (fun x66 hx66 => ?_)
                          have hO := hO x66 hx66
                          refine r_istore hC [(5, .int x66), (4, .int v6), (10, .int 1), (9, .int 1), (8, .int v6), (7, .int v7), (6, .int v8), (0, .ref (mw_a G 0)), (1, .int p1), (2, .int p2), (3, .int p3)] dX11_best_161 (by decide) rfl ?_
                          refine r_aload_n hC 7 dX11_best_163 rfl rfl ?_
                          refine r_getI hC fl11_352 ob11 rfl dX11_best_164 ?_
                          refine r_nmI (fun x67 hx67 => ?_)
                          have hO := hO x67 hx67
                          refine r_istore hC [(6, .int x67), (5, .int x66), (4, .int v6), (10, .int 1), (9, .int 1), (8, .int v6), (7, .int v7), (0, .ref (mw_a G 0)), (1, .int p1), (2, .int p2), (3, .int p3)] dX11_best_167 (by decide) rfl ?_
                          refine r_aload_n hC 7 dX11_best_169 rfl rfl ?_
                          refine r_getI hC fl11_349 ob11 rfl dX11_best_170 ?_
                          refine r_nmI (fun x68 hx68 => ?_)
                          have hO := hO x68 hx68
                          refine r_istore hC [(7, .int x68), (6, .int x67), (5, .int x66), (4, .int v6), (10, .int 1), (9, .int 1), (8, .int v6), (0, .ref (mw_a G 0)), (1, .int p1), (2, .int p2), (3, .int p3)] dX11_best_173 (by decide) rfl ?_
                          obtain ⟨x69, hx69⟩ : ∃ y : Int32, y = v6 + 1 := ⟨_, rfl⟩
                          have hO := hO x69 hx69
                          refine r_iinc hC x69 6 [(8, .int x69), (7, .int x68), (6, .int x67), (5, .int x66), (4, .int v6), (10, .int 1), (9, .int 1), (0, .ref (mw_a G 0)), (1, .int p1), (2, .int p2), (3, .int p3)] dX11_best_175 rfl (by rw [hx69]; rfl) (by decide) rfl ?_
                          refine r_goto hC 50 dX11_best_178 (by decide) ?_
                          refine r_lv hC [(8, .int x69), (7, .int x68), (6, .int x67), (5, .int x66), (4, .int v6), (0, .ref (mw_a G 0)), (1, .int p1), (2, .int p2), (3, .int p3)] [0, 1, 2, 3, 4, 7, 8, 9, 10] rfl ?_
                          exact ihn12 x69 x68 x67 x66 v6 μ14 hO
                      · have hO := hO.1 h63
                        refine r_aload_n hC 6 dX11_best_118 rfl rfl ?_
                        refine r_getI hC fl11_352 ob11 rfl dX11_best_119 ?_
                        refine r_iload hC 3 dX11_best_122 rfl ?_
                        refine r_icmp_lt hC 141 dX11_best_124 (by decide) (fun h70 => ?_) (fun h70 => ?_)
                        · have hO := hO.1 h70
                          refine r_iconst hC 1 dX11_best_141 (by decide) ?_
                          refine r_goto hC 146 dX11_best_142 (by decide) ?_
                          refine r_istore hC [(10, .int 1), (9, .int 1), (8, .int v6), (7, .int v7), (6, .int v8), (5, .int v9), (4, .int v10), (0, .ref (mw_a G 0)), (1, .int p1), (2, .int p2), (3, .int p3)] dX11_best_146 (by decide) rfl ?_
                          refine r_iload hC 0 dX11_best_148 rfl ?_
                          refine r_if_eq hC 175 dX11_best_150 (by decide) (fun h => absurd h (by decide)) (fun _ => ?_)
                          refine r_iload hC 2 dX11_best_153 rfl ?_
                          refine r_istore hC [(4, .int v6), (10, .int 1), (9, .int 1), (8, .int v6), (7, .int v7), (6, .int v8), (5, .int v9), (0, .ref (mw_a G 0)), (1, .int p1), (2, .int p2), (3, .int p3)] dX11_best_155 (by decide) rfl ?_
                          refine r_aload_n hC 7 dX11_best_157 rfl rfl ?_
                          refine r_getI hC fl11_346 ob11 rfl dX11_best_158 ?_
                          refine r_nmI (fun x71 hx71 => ?_)
                          have hO := hO x71 hx71
                          refine r_istore hC [(5, .int x71), (4, .int v6), (10, .int 1), (9, .int 1), (8, .int v6), (7, .int v7), (6, .int v8), (0, .ref (mw_a G 0)), (1, .int p1), (2, .int p2), (3, .int p3)] dX11_best_161 (by decide) rfl ?_
                          refine r_aload_n hC 7 dX11_best_163 rfl rfl ?_
                          refine r_getI hC fl11_352 ob11 rfl dX11_best_164 ?_
                          refine r_nmI (fun x72 hx72 => ?_)
                          have hO := hO x72 hx72
                          refine r_istore hC [(6, .int x72), (5, .int x71), (4, .int v6), (10, .int 1), (9, .int 1), (8, .int v6), (7, .int v7), (0, .ref (mw_a G 0)), (1, .int p1), (2, .int p2), (3, .int p3)] dX11_best_167 (by decide) rfl ?_
                          refine r_aload_n hC 7 dX11_best_169 rfl rfl ?_
                          refine r_getI hC fl11_349 ob11 rfl dX11_best_170 ?_
                          refine r_nmI (fun x73 hx73 => ?_)
                          have hO := hO x73 hx73
                          refine r_istore hC [(7, .int x73), (6, .int x72), (5, .int x71), (4, .int v6), (10, .int 1), (9, .int 1), (8, .int v6), (0, .ref (mw_a G 0)), (1, .int p1), (2, .int p2), (3, .int p3)] dX11_best_173 (by decide) rfl ?_
                          obtain ⟨x74, hx74⟩ : ∃ y : Int32, y = v6 + 1 := ⟨_, rfl⟩
                          have hO := hO x74 hx74
                          refine r_iinc hC x74 6 [(8, .int x74), (7, .int x73), (6, .int x72), (5, .int x71), (4, .int v6), (10, .int 1), (9, .int 1), (0, .ref (mw_a G 0)), (1, .int p1), (2, .int p2), (3, .int p3)] dX11_best_175 rfl (by rw [hx74]; rfl) (by decide) rfl ?_
                          refine r_goto hC 50 dX11_best_178 (by decide) ?_
                          refine r_lv hC [(8, .int x74), (7, .int x73), (6, .int x72), (5, .int x71), (4, .int v6), (0, .ref (mw_a G 0)), (1, .int p1), (2, .int p2), (3, .int p3)] [0, 1, 2, 3, 4, 7, 8, 9, 10] rfl ?_
                          exact ihn12 x74 x73 x72 x71 v6 μ14 hO
                        · have hO := hO.2 h70
                          refine r_iload hC 0 dX11_best_127 rfl ?_
                          refine r_if_eq hC 145 dX11_best_129 (by decide) (fun h => absurd h (by decide)) (fun _ => ?_)
                          refine r_aload_n hC 6 dX11_best_132 rfl rfl ?_
                          refine r_getI hC fl11_349 ob11 rfl dX11_best_133 ?_
                          refine r_iload hC 2 dX11_best_136 rfl ?_
                          refine r_icmp_ge hC 145 dX11_best_138 (by decide) (fun h75 => ?_) (fun h75 => ?_)
                          · have hO := hO.1 h75
                            refine r_iconst hC 0 dX11_best_145 (by decide) ?_
                            refine r_istore hC [(10, .int 0), (9, .int 1), (8, .int v6), (7, .int v7), (6, .int v8), (5, .int v9), (4, .int v10), (0, .ref (mw_a G 0)), (1, .int p1), (2, .int p2), (3, .int p3)] dX11_best_146 (by decide) rfl ?_
                            refine r_iload hC 0 dX11_best_148 rfl ?_
                            refine r_if_eq hC 175 dX11_best_150 (by decide) (fun _ => ?_) (fun h => absurd (by decide) h)
                            obtain ⟨x76, hx76⟩ : ∃ y : Int32, y = v6 + 1 := ⟨_, rfl⟩
                            have hO := hO x76 hx76
                            refine r_iinc hC x76 2 [(8, .int x76), (10, .int 0), (9, .int 1), (7, .int v7), (6, .int v8), (5, .int v9), (4, .int v10), (0, .ref (mw_a G 0)), (1, .int p1), (2, .int p2), (3, .int p3)] dX11_best_175 rfl (by rw [hx76]; rfl) (by decide) rfl ?_
                            refine r_goto hC 50 dX11_best_178 (by decide) ?_
                            refine r_lv hC [(8, .int x76), (7, .int v7), (6, .int v8), (5, .int v9), (4, .int v10), (0, .ref (mw_a G 0)), (1, .int p1), (2, .int p2), (3, .int p3)] [0, 3, 4, 5, 6, 7, 8, 9, 10] rfl ?_
                            exact ihn12 x76 v7 v8 v9 v10 μ14 hO
                          · have hO := hO.2 h75
                            refine r_iconst hC 1 dX11_best_141 (by decide) ?_
                            refine r_goto hC 146 dX11_best_142 (by decide) ?_
                            refine r_istore hC [(10, .int 1), (9, .int 1), (8, .int v6), (7, .int v7), (6, .int v8), (5, .int v9), (4, .int v10), (0, .ref (mw_a G 0)), (1, .int p1), (2, .int p2), (3, .int p3)] dX11_best_146 (by decide) rfl ?_
                            refine r_iload hC 0 dX11_best_148 rfl ?_
                            refine r_if_eq hC 175 dX11_best_150 (by decide) (fun h => absurd h (by decide)) (fun _ => ?_)
                            refine r_iload hC 2 dX11_best_153 rfl ?_
                            refine r_istore hC [(4, .int v6), (10, .int 1), (9, .int 1), (8, .int v6), (7, .int v7), (6, .int v8), (5, .int v9), (0, .ref (mw_a G 0)), (1, .int p1), (2, .int p2), (3, .int p3)] dX11_best_155 (by decide) rfl ?_
                            refine r_aload_n hC 7 dX11_best_157 rfl rfl ?_
                            refine r_getI hC fl11_346 ob11 rfl dX11_best_158 ?_
                            refine r_nmI (fun x77 hx77 => ?_)
                            have hO := hO x77 hx77
                            refine r_istore hC [(5, .int x77), (4, .int v6), (10, .int 1), (9, .int 1), (8, .int v6), (7, .int v7), (6, .int v8), (0, .ref (mw_a G 0)), (1, .int p1), (2, .int p2), (3, .int p3)] dX11_best_161 (by decide) rfl ?_
                            refine r_aload_n hC 7 dX11_best_163 rfl rfl ?_
                            refine r_getI hC fl11_352 ob11 rfl dX11_best_164 ?_
                            refine r_nmI (fun x78 hx78 => ?_)
                            have hO := hO x78 hx78
                            refine r_istore hC [(6, .int x78), (5, .int x77), (4, .int v6), (10, .int 1), (9, .int 1), (8, .int v6), (7, .int v7), (0, .ref (mw_a G 0)), (1, .int p1), (2, .int p2), (3, .int p3)] dX11_best_167 (by decide) rfl ?_
                            refine r_aload_n hC 7 dX11_best_169 rfl rfl ?_
                            refine r_getI hC fl11_349 ob11 rfl dX11_best_170 ?_
                            refine r_nmI (fun x79 hx79 => ?_)
                            have hO := hO x79 hx79
                            refine r_istore hC [(7, .int x79), (6, .int x78), (5, .int x77), (4, .int v6), (10, .int 1), (9, .int 1), (8, .int v6), (0, .ref (mw_a G 0)), (1, .int p1), (2, .int p2), (3, .int p3)] dX11_best_173 (by decide) rfl ?_
                            obtain ⟨x80, hx80⟩ : ∃ y : Int32, y = v6 + 1 := ⟨_, rfl⟩
                            have hO := hO x80 hx80
                            refine r_iinc hC x80 6 [(8, .int x80), (7, .int x79), (6, .int x78), (5, .int x77), (4, .int v6), (10, .int 1), (9, .int 1), (0, .ref (mw_a G 0)), (1, .int p1), (2, .int p2), (3, .int p3)] dX11_best_175 rfl (by rw [hx80]; rfl) (by decide) rfl ?_
                            refine r_goto hC 50 dX11_best_178 (by decide) ?_
                            refine r_lv hC [(8, .int x80), (7, .int x79), (6, .int x78), (5, .int x77), (4, .int v6), (0, .ref (mw_a G 0)), (1, .int p1), (2, .int p2), (3, .int p3)] [0, 1, 2, 3, 4, 7, 8, 9, 10] rfl ?_
                            exact ihn12 x80 x79 x78 x77 v6 μ14 hO
        obtain ⟨n12, hO⟩ := hO
        refine hLn12   n12 _ _ _ _ _ _ hO
      · have hO := hO.1 h5
        refine r_bipush hC (-5) dX11_best_32 (by decide) ?_
        exact r_iret hC rfl dX11_best_34 hO
    · refine r_topEq hr ?_
      obtain ⟨hO, hm⟩ := hO
      refine r_memEq hm ?_
      refine r_if_ne hC 25 dX11_best_20 (by decide) (fun h => absurd (by decide) h) (fun _ => ?_)
      refine r_iconst hC (-1) dX11_best_23 (by decide) ?_
      exact r_iret hC rfl dX11_best_24 hO
  · refine r_topEq hr ?_
    obtain ⟨hO, hm⟩ := hO
    refine r_memEq hm ?_
    refine r_if_eq hC 23 dX11_best_13 (by decide) (fun _ => ?_) (fun h => absurd (by decide) h)
    refine r_iconst hC (-1) dX11_best_23 (by decide) ?_
    exact r_iret hC rfl dX11_best_24 hO
set_option maxHeartbeats 4000000 in
set_option maxRecDepth 100000 in
theorem T11_never {l : Launch} {G : mw_G} {p1 : Int32} {p2 : Int32} {p3 : Int32} {μ : mw_M} {Q : Int32 → mw_M → Prop}  (hO : P11_never p1 p2 p3 μ Q) : mw_Mi l G kdM yX11_never cX11_never 6 (some .int) 69 1654 [.ref (mw_a G 0), .int p1, .int p2, .int p3] μ (Q) := by
  refine mw_enter [(0, .ref (mw_a G 0)), (1, .int p1), (2, .int p2), (3, .int p3)] RX11 (by decide) rfl (Nat.le_of_ble_eq_true rfl) rfl ?_
  intro p e s m args below meth c hC
  unfold P11_never at hO
  refine r_aload_n hC 0 dX11_never_0 rfl rfl ?_
  refine r_iload_n hC 1 dX11_never_1 rfl rfl ?_
  refine r_callVi hC [.int p1] (T11_isLaw  hO) yv11_isLaw ml11_241 ob11 rfl ⟨Nat.le_of_ble_eq_true rfl, Nat.le_of_ble_eq_true rfl⟩ rfl rfl (Nat.le_of_ble_eq_true rfl) dX11_never_2 (fun r1 μ2 hO => ?_)
  rcases hO with ⟨hr, hO⟩ | ⟨hr, hO⟩
  · refine r_topEq hr ?_
    obtain ⟨hO, hm⟩ := hO
    refine r_memEq hm ?_
    refine r_if_eq hC 27 dX11_never_5 (by decide) (fun h => absurd h (by decide)) (fun _ => ?_)
    refine r_iload_n hC 2 dX11_never_8 rfl rfl ?_
    refine r_callSi hC [.int p2] (T11_isGoal  hO) yv11_isGoal ml11_305 ⟨Nat.le_of_ble_eq_true rfl, Nat.le_of_ble_eq_true rfl⟩ rfl rfl (Nat.le_of_ble_eq_true rfl) dX11_never_9 (fun r3 μ4 hO => ?_)
    rcases hO with ⟨hr, hO⟩ | ⟨hr, hO⟩
    · refine r_topEq hr ?_
      obtain ⟨hO, hm⟩ := hO
      refine r_memEq hm ?_
      refine r_if_eq hC 27 dX11_never_12 (by decide) (fun h => absurd h (by decide)) (fun _ => ?_)
      refine r_iload_n hC 3 dX11_never_15 rfl rfl ?_
      refine r_i2l hC dX11_never_16 ?_
      refine r_lconst hC 0 dX11_never_17 (by decide) ?_
      refine r_ldc2 hC kc11_362 dX11_never_18 ?_
      refine r_callSi hC [.long (Int32.toInt64 p3), .long 0, .long 950] (T11_within  hO) yv11_within ml11_106 ⟨Nat.le_of_ble_eq_true rfl, Nat.le_of_ble_eq_true rfl⟩ rfl rfl (Nat.le_of_ble_eq_true rfl) dX11_never_21 (fun r5 μ6 hO => ?_)
      rcases hO with ⟨hr, hO⟩ | ⟨hr, hO⟩
      · refine r_topEq hr ?_
        obtain ⟨hO, hm⟩ := hO
        refine r_memEq hm ?_
        refine r_if_ne hC 29 dX11_never_24 (by decide) (fun _ => ?_) (fun h => absurd h (by decide))
        refine r_iconst hC 0 dX11_never_29 (by decide) ?_
        refine r_istore hC [(4, .int 0), (0, .ref (mw_a G 0)), (1, .int p1), (2, .int p2), (3, .int p3)] dX11_never_30 (by decide) rfl ?_
        have hLn9 : ∀   (n9 : Nat) (v7 : Int32) (μ8 : mw_M), L11_never_32 p1 p2 p3 Q n9 v7 μ8 → mw_W p l e (mw_rm 69 1654) s m args below meth c G kdM 6 (MQ below (va_Qi (Q) (mw_B G kdM) (mw_A G kdM)) args s 0 0 (mw_A G kdM)) 32 [(4, .int v7), (0, .ref (mw_a G 0)), (1, .int p1), (2, .int p2), (3, .int p3)] [] μ8 := by
          intro   n9
          induction n9 with
          | zero => intro v7 μ8 hO; exact False.elim hO
          | succ n9 ihn9 =>
            intro v7 μ8 hO
            refine r_iload hC 0 dX11_never_32 rfl ?_
            refine r_sipush hC 1100 dX11_never_34 (by decide) ?_
            refine r_icmp_gt hC 90 dX11_never_37 (by decide) (fun h10 => ?_) (fun h10 => ?_)
            · have hO := hO.1 h10
              refine r_iconst hC 1 dX11_never_90 (by decide) ?_
              exact r_iret hC rfl dX11_never_91 hO
            · have hO := hO.2 h10
              refine r_iconst hC 0 dX11_never_40 (by decide) ?_
              refine r_istore hC [(5, .int 0), (4, .int v7), (0, .ref (mw_a G 0)), (1, .int p1), (2, .int p2), (3, .int p3)] dX11_never_41 (by decide) rfl ?_
              have hLn13 : ∀  (K1 : Int32 → mw_M → Prop) (hK1 : ∀ (v11 : Int32) (μ12 : mw_M), K1 v11 μ12 → mw_W p l e (mw_rm 69 1654) s m args below meth c G kdM 6 (MQ below (va_Qi (Q) (mw_B G kdM) (mw_A G kdM)) args s 0 0 (mw_A G kdM)) 84 [(5, .int v11), (4, .int v7), (0, .ref (mw_a G 0)), (1, .int p1), (2, .int p2), (3, .int p3)] [] μ12) (n13 : Nat) (v11 : Int32) (μ12 : mw_M), L11_never_43 v7 p1 p2 p3 Q K1 n13 v11 μ12 → mw_W p l e (mw_rm 69 1654) s m args below meth c G kdM 6 (MQ below (va_Qi (Q) (mw_B G kdM) (mw_A G kdM)) args s 0 0 (mw_A G kdM)) 43 [(5, .int v11), (4, .int v7), (0, .ref (mw_a G 0)), (1, .int p1), (2, .int p2), (3, .int p3)] [] μ12 := by
                intro  K1 hK1 n13
                induction n13 with
                | zero => intro v11 μ12 hO; exact False.elim hO
                | succ n13 ihn13 =>
                  intro v11 μ12 hO
                  refine r_iload hC 0 dX11_never_43 rfl ?_
                  refine r_sipush hC 950 dX11_never_45 (by decide) ?_
                  refine r_icmp_gt hC 84 dX11_never_48 (by decide) (fun h14 => ?_) (fun h14 => ?_)
                  · have hO := hO.1 h14
                    refine r_lv hC [(5, .int v11), (4, .int v7), (0, .ref (mw_a G 0)), (1, .int p1), (2, .int p2), (3, .int p3)] [0, 1, 2, 3, 4, 5] rfl ?_
                    exact hK1 v11 μ12 hO
                  · have hO := hO.2 h14
                    refine r_iload hC 0 dX11_never_51 rfl ?_
                    refine r_iload_n hC 5 dX11_never_53 rfl rfl ?_
                    refine r_icmp_lt hC 78 dX11_never_54 (by decide) (fun h15 => ?_) (fun h15 => ?_)
                    · have hO := hO.1 h15
                      obtain ⟨x16, hx16⟩ : ∃ y : Int32, y = v11 + 50 := ⟨_, rfl⟩
                      have hO := hO x16 hx16
                      refine r_iinc hC x16 0 [(5, .int x16), (4, .int v7), (0, .ref (mw_a G 0)), (1, .int p1), (2, .int p2), (3, .int p3)] dX11_never_78 rfl (by rw [hx16]; rfl) (by decide) rfl ?_
                      refine r_goto hC 43 dX11_never_81 (by decide) ?_
                      refine r_lv hC [(5, .int x16), (4, .int v7), (0, .ref (mw_a G 0)), (1, .int p1), (2, .int p2), (3, .int p3)] [0, 1, 2, 3, 4, 5] rfl ?_
                      exact ihn13 x16 μ12 hO
                    · have hO := hO.2 h15
                      refine r_aload_n hC 2 dX11_never_57 rfl rfl ?_
                      refine r_iload_n hC 3 dX11_never_58 rfl rfl ?_
                      refine r_iload hC 1 dX11_never_59 rfl ?_
                      refine r_iconst hC 0 dX11_never_61 (by decide) ?_
                      refine r_iload hC 0 dX11_never_62 rfl ?_
                      refine r_iload_n hC 4 dX11_never_64 rfl rfl ?_
                      refine r_iconst hC 0 dX11_never_65 (by decide) ?_
                      refine r_iconst hC 0 dX11_never_66 (by decide) ?_
                      refine r_callVi hC [.int p1, .int v7, .int 0, .int v11, .int p2, .int 0, .int 0] (T11_ruled  hO) yv11_ruled ml11_275 ob11 rfl ⟨Nat.le_of_ble_eq_true rfl, Nat.le_of_ble_eq_true rfl⟩ rfl rfl (Nat.le_of_ble_eq_true rfl) dX11_never_67 (fun r17 μ18 hO => ?_)
                      refine r_sipush hC 300 dX11_never_70 (by decide) ?_
                      refine r_icmp_le hC 78 dX11_never_73 (by decide) (fun h19 => ?_) (fun h19 => ?_)
                      · have hO := hO.1 h19
                        obtain ⟨x20, hx20⟩ : ∃ y : Int32, y = v11 + 50 := ⟨_, rfl⟩
                        have hO := hO x20 hx20
                        refine r_iinc hC x20 0 [(5, .int x20), (4, .int v7), (0, .ref (mw_a G 0)), (1, .int p1), (2, .int p2), (3, .int p3)] dX11_never_78 rfl (by rw [hx20]; rfl) (by decide) rfl ?_
                        refine r_goto hC 43 dX11_never_81 (by decide) ?_
                        refine r_lv hC [(5, .int x20), (4, .int v7), (0, .ref (mw_a G 0)), (1, .int p1), (2, .int p2), (3, .int p3)] [0, 1, 2, 3, 4, 5] rfl ?_
                        exact ihn13 x20 μ18 hO
                      · have hO := hO.2 h19
                        refine r_iconst hC 0 dX11_never_76 (by decide) ?_
                        exact r_iret hC rfl dX11_never_77 hO
              obtain ⟨n13, hO⟩ := hO
              refine hLn13  _ (fun v11 μ12 hO => ?_) n13 _ _ hO
              obtain ⟨x21, hx21⟩ : ∃ y : Int32, y = v7 + 100 := ⟨_, rfl⟩
              have hO := hO x21 hx21
              refine r_iinc hC x21 1 [(4, .int x21), (5, .int v11), (0, .ref (mw_a G 0)), (1, .int p1), (2, .int p2), (3, .int p3)] dX11_never_84 rfl (by rw [hx21]; rfl) (by decide) rfl ?_
              refine r_goto hC 32 dX11_never_87 (by decide) ?_
              refine r_lv hC [(4, .int x21), (0, .ref (mw_a G 0)), (1, .int p1), (2, .int p2), (3, .int p3)] [0, 2, 3, 4, 5] rfl ?_
              exact ihn9 x21 μ12 hO
        obtain ⟨n9, hO⟩ := hO
        refine hLn9   n9 _ _ hO
      · refine r_topEq hr ?_
        obtain ⟨hO, hm⟩ := hO
        refine r_memEq hm ?_
        refine r_if_ne hC 29 dX11_never_24 (by decide) (fun h => absurd (by decide) h) (fun _ => ?_)
        refine r_iconst hC (-1) dX11_never_27 (by decide) ?_
        exact r_iret hC rfl dX11_never_28 hO
    · refine r_topEq hr ?_
      obtain ⟨hO, hm⟩ := hO
      refine r_memEq hm ?_
      refine r_if_eq hC 27 dX11_never_12 (by decide) (fun _ => ?_) (fun h => absurd (by decide) h)
      refine r_iconst hC (-1) dX11_never_27 (by decide) ?_
      exact r_iret hC rfl dX11_never_28 hO
  · refine r_topEq hr ?_
    obtain ⟨hO, hm⟩ := hO
    refine r_memEq hm ?_
    refine r_if_eq hC 27 dX11_never_5 (by decide) (fun _ => ?_) (fun h => absurd (by decide) h)
    refine r_iconst hC (-1) dX11_never_27 (by decide) ?_
    exact r_iret hC rfl dX11_never_28 hO
set_option maxHeartbeats 4000000 in
set_option maxRecDepth 100000 in
theorem T11_beside {l : Launch} {G : mw_G} {p1 : Int32} {p2 : Int32} {μ : mw_M} {Q : Int32 → mw_M → Prop}  (hO : P11_beside p1 p2 μ Q) : mw_Mi l G kdM yX11_beside cX11_beside 5 (some .int) 69 1654 [.ref (mw_a G 0), .int p1, .int p2] μ (Q) := by
  refine mw_enter [(0, .ref (mw_a G 0)), (1, .int p1), (2, .int p2)] RX11 (by decide) rfl (Nat.le_of_ble_eq_true rfl) rfl ?_
  intro p e s m args below meth c hC
  unfold P11_beside at hO
  refine r_iload_n hC 1 dX11_beside_0 rfl rfl ?_
  refine r_i2l hC dX11_beside_1 ?_
  refine r_ldc2 hC kc11_364 dX11_beside_2 ?_
  refine r_ldc2 hC kc11_180 dX11_beside_5 ?_
  refine r_callSi hC [.long (Int32.toInt64 p1), .long 60, .long 1200] (T11_within  hO) yv11_within ml11_106 ⟨Nat.le_of_ble_eq_true rfl, Nat.le_of_ble_eq_true rfl⟩ rfl rfl (Nat.le_of_ble_eq_true rfl) dX11_beside_8 (fun r1 μ2 hO => ?_)
  rcases hO with ⟨hr, hO⟩ | ⟨hr, hO⟩
  · refine r_topEq hr ?_
    obtain ⟨hO, hm⟩ := hO
    refine r_memEq hm ?_
    refine r_if_eq hC 26 dX11_beside_11 (by decide) (fun h => absurd h (by decide)) (fun _ => ?_)
    refine r_iload_n hC 2 dX11_beside_14 rfl rfl ?_
    refine r_i2l hC dX11_beside_15 ?_
    refine r_lconst hC 0 dX11_beside_16 (by decide) ?_
    refine r_ldc2 hC kc11_143 dX11_beside_17 ?_
    refine r_callSi hC [.long (Int32.toInt64 p2), .long 0, .long 9999] (T11_within  hO) yv11_within ml11_106 ⟨Nat.le_of_ble_eq_true rfl, Nat.le_of_ble_eq_true rfl⟩ rfl rfl (Nat.le_of_ble_eq_true rfl) dX11_beside_20 (fun r3 μ4 hO => ?_)
    rcases hO with ⟨hr, hO⟩ | ⟨hr, hO⟩
    · refine r_topEq hr ?_
      obtain ⟨hO, hm⟩ := hO
      refine r_memEq hm ?_
      refine r_if_ne hC 28 dX11_beside_23 (by decide) (fun _ => ?_) (fun h => absurd h (by decide))
      refine r_aload_n hC 0 dX11_beside_28 rfl rfl ?_
      refine r_callVv hC [] (T11_keepsLoad  hO) yv11_keepsLoad ml11_310 ob11 rfl ⟨Nat.le_of_ble_eq_true rfl, Nat.le_of_ble_eq_true rfl⟩ rfl rfl (Nat.le_of_ble_eq_true rfl) dX11_beside_29 (fun μ5 hO => ?_)
      refine r_iconst hC 0 dX11_beside_32 (by decide) ?_
      refine r_istore_n hC [(3, .int 0), (0, .ref (mw_a G 0)), (1, .int p1), (2, .int p2)] dX11_beside_33 rfl (by decide) rfl ?_
      have hLn8 : ∀  (K1 : Int32 → mw_M → Prop) (hK1 : ∀ (v6 : Int32) (μ7 : mw_M), K1 v6 μ7 → mw_W p l e (mw_rm 69 1654) s m args below meth c G kdM 5 (MQ below (va_Qi (Q) (mw_B G kdM) (mw_A G kdM)) args s 0 0 (mw_A G kdM)) 63 [(3, .int v6), (0, .ref (mw_a G 0)), (1, .int p1), (2, .int p2)] [] μ7) (n8 : Nat) (v6 : Int32) (μ7 : mw_M), L11_beside_34 p1 p2 Q K1 n8 v6 μ7 → mw_W p l e (mw_rm 69 1654) s m args below meth c G kdM 5 (MQ below (va_Qi (Q) (mw_B G kdM) (mw_A G kdM)) args s 0 0 (mw_A G kdM)) 34 [(3, .int v6), (0, .ref (mw_a G 0)), (1, .int p1), (2, .int p2)] [] μ7 := by
        intro  K1 hK1 n8
        induction n8 with
        | zero => intro v6 μ7 hO; exact False.elim hO
        | succ n8 ihn8 =>
          intro v6 μ7 hO
          refine r_iload_n hC 0 dX11_beside_34 rfl rfl ?_
          refine r_sipush hC 200 dX11_beside_35 (by decide) ?_
          refine r_icmp_ge hC 63 dX11_beside_38 (by decide) (fun h9 => ?_) (fun h9 => ?_)
          · have hO := hO.1 h9
            refine r_lv hC [(3, .int v6), (0, .ref (mw_a G 0)), (1, .int p1), (2, .int p2)] [0, 1, 2, 3] rfl ?_
            exact hK1 v6 μ7 hO
          · have hO := hO.2 h9
            refine r_aload_n hC 1 dX11_beside_41 rfl rfl ?_
            refine r_callVi hC [] (T11_allWet  hO) yv11_allWet ml11_173 ob11 rfl ⟨Nat.le_of_ble_eq_true rfl, Nat.le_of_ble_eq_true rfl⟩ rfl rfl (Nat.le_of_ble_eq_true rfl) dX11_beside_42 (fun r10 μ11 hO => ?_)
            obtain ⟨hO, hm⟩ := hO
            refine r_memEq hm ?_
            refine r_iload_n hC 3 dX11_beside_45 rfl rfl ?_
            refine r_icmp_le hC 63 dX11_beside_46 (by decide) (fun h12 => ?_) (fun h12 => ?_)
            · have hO := hO.1 h12
              refine r_lv hC [(3, .int v6), (0, .ref (mw_a G 0)), (1, .int p1), (2, .int p2)] [0, 1, 2, 3] rfl ?_
              exact hK1 v6 μ7 hO
            · have hO := hO.2 h12
              refine r_aload_n hC 1 dX11_beside_49 rfl rfl ?_
              refine r_iload_n hC 2 dX11_beside_50 rfl rfl ?_
              refine r_iload_n hC 0 dX11_beside_51 rfl rfl ?_
              refine r_iload_n hC 0 dX11_beside_52 rfl rfl ?_
              refine r_iconst hC 0 dX11_beside_53 (by decide) ?_
              refine r_callVv hC [.int p1, .int v6, .int v6, .int 0] (T11_waterLeaves  hO) yv11_waterLeaves ml11_282 ob11 rfl ⟨Nat.le_of_ble_eq_true rfl, Nat.le_of_ble_eq_true rfl⟩ rfl rfl (Nat.le_of_ble_eq_true rfl) dX11_beside_54 (fun μ13 hO => ?_)
              obtain ⟨x14, hx14⟩ : ∃ y : Int32, y = v6 + 1 := ⟨_, rfl⟩
              have hO := hO x14 hx14
              refine r_iinc hC x14 0 [(3, .int x14), (0, .ref (mw_a G 0)), (1, .int p1), (2, .int p2)] dX11_beside_57 rfl (by rw [hx14]; rfl) (by decide) rfl ?_
              refine r_goto hC 34 dX11_beside_60 (by decide) ?_
              refine r_lv hC [(3, .int x14), (0, .ref (mw_a G 0)), (1, .int p1), (2, .int p2)] [0, 1, 2, 3] rfl ?_
              exact ihn8 x14 μ13 hO
      obtain ⟨n8, hO⟩ := hO
      refine hLn8  _ (fun v6 μ7 hO => ?_) n8 _ _ hO
      refine r_aload_n hC 1 dX11_beside_63 rfl rfl ?_
      refine r_callVi hC [] (T11_allWet  hO) yv11_allWet ml11_173 ob11 rfl ⟨Nat.le_of_ble_eq_true rfl, Nat.le_of_ble_eq_true rfl⟩ rfl rfl (Nat.le_of_ble_eq_true rfl) dX11_beside_64 (fun r15 μ16 hO => ?_)
      obtain ⟨hO, hm⟩ := hO
      refine r_memEq hm ?_
      refine r_iload_n hC 3 dX11_beside_67 rfl rfl ?_
      refine r_icmp_gt hC 75 dX11_beside_68 (by decide) (fun h17 => ?_) (fun h17 => ?_)
      · have hO := hO.1 h17
        refine r_iconst hC 0 dX11_beside_75 (by decide) ?_
        refine r_istore hC [(4, .int 0), (3, .int v6), (0, .ref (mw_a G 0)), (1, .int p1), (2, .int p2)] dX11_beside_76 (by decide) rfl ?_
        refine r_aload_n hC 2 dX11_beside_78 rfl rfl ?_
        refine r_callVv hC [] (T11_laysBack  hO) yv11_laysBack ml11_341 ob11 rfl ⟨Nat.le_of_ble_eq_true rfl, Nat.le_of_ble_eq_true rfl⟩ rfl rfl (Nat.le_of_ble_eq_true rfl) dX11_beside_79 (fun μ18 hO => ?_)
        refine r_iload hC 0 dX11_beside_82 rfl ?_
        refine r_if_eq hC 91 dX11_beside_84 (by decide) (fun _ => ?_) (fun h => absurd (by decide) h)
        refine r_bipush hC (-2) dX11_beside_91 (by decide) ?_
        exact r_iret hC rfl dX11_beside_93 hO
      · have hO := hO.2 h17
        refine r_iconst hC 1 dX11_beside_71 (by decide) ?_
        refine r_goto hC 76 dX11_beside_72 (by decide) ?_
        refine r_istore hC [(4, .int 1), (3, .int v6), (0, .ref (mw_a G 0)), (1, .int p1), (2, .int p2)] dX11_beside_76 (by decide) rfl ?_
        refine r_aload_n hC 2 dX11_beside_78 rfl rfl ?_
        refine r_callVv hC [] (T11_laysBack  hO) yv11_laysBack ml11_341 ob11 rfl ⟨Nat.le_of_ble_eq_true rfl, Nat.le_of_ble_eq_true rfl⟩ rfl rfl (Nat.le_of_ble_eq_true rfl) dX11_beside_79 (fun μ19 hO => ?_)
        refine r_iload hC 0 dX11_beside_82 rfl ?_
        refine r_if_eq hC 91 dX11_beside_84 (by decide) (fun h => absurd h (by decide)) (fun _ => ?_)
        refine r_iload_n hC 1 dX11_beside_87 rfl rfl ?_
        refine r_goto hC 93 dX11_beside_88 (by decide) ?_
        exact r_iret hC rfl dX11_beside_93 hO
    · refine r_topEq hr ?_
      obtain ⟨hO, hm⟩ := hO
      refine r_memEq hm ?_
      refine r_if_ne hC 28 dX11_beside_23 (by decide) (fun h => absurd (by decide) h) (fun _ => ?_)
      refine r_iconst hC (-1) dX11_beside_26 (by decide) ?_
      exact r_iret hC rfl dX11_beside_27 hO
  · refine r_topEq hr ?_
    obtain ⟨hO, hm⟩ := hO
    refine r_memEq hm ?_
    refine r_if_eq hC 26 dX11_beside_11 (by decide) (fun _ => ?_) (fun h => absurd (by decide) h)
    refine r_iconst hC (-1) dX11_beside_26 (by decide) ?_
    exact r_iret hC rfl dX11_beside_27 hO
set_option maxHeartbeats 4000000 in
set_option maxRecDepth 100000 in
theorem T11_isBody {l : Launch} {G : mw_G} {p1 : Int32} {μ : mw_M} {QT : Prop} {QF : Prop}  (hO : P11_isBody p1 μ QT QF) : mw_Mi l G kdM yX11_isBody cX11_isBody 2 (some .boolean) 1 25 [.ref (mw_a G 0), .int p1] μ (mw_bq (mw_pv μ QT) (mw_pv μ QF)) := by
  refine mw_enter [(0, .ref (mw_a G 0)), (1, .int p1)] RX11 (by decide) rfl (Nat.le_of_ble_eq_true rfl) rfl ?_
  intro p e s m args below meth c hC
  unfold P11_isBody at hO
  refine r_iload_n hC 1 dX11_isBody_0 rfl rfl ?_
  refine r_i2l hC dX11_isBody_1 ?_
  refine r_lconst hC 0 dX11_isBody_2 (by decide) ?_
  refine r_aload_n hC 0 dX11_isBody_3 rfl rfl ?_
  refine r_getI hC fl11_366 ob11 rfl dX11_isBody_4 ?_
  refine r_iconst hC 1 dX11_isBody_7 (by decide) ?_
  refine r_isub hC dX11_isBody_8 ?_
  refine r_i2l hC dX11_isBody_9 ?_
  refine r_callSi hC [.long (Int32.toInt64 p1), .long 0, .long (Int32.toInt64 ((μ.1 0 53) - 1))] (T11_within  hO) yv11_within ml11_106 ⟨Nat.le_of_ble_eq_true rfl, Nat.le_of_ble_eq_true rfl⟩ rfl rfl (Nat.le_of_ble_eq_true rfl) dX11_isBody_10 (fun r1 μ2 hO => ?_)
  rcases hO with ⟨hr, hO⟩ | ⟨hr, hO⟩
  · refine r_topEq hr ?_
    obtain ⟨hO, hm⟩ := hO
    refine r_memEq hm ?_
    exact r_zret hC rfl (by decide) dX11_isBody_13 (Or.inl ⟨rfl, hO, rfl⟩)
  · refine r_topEq hr ?_
    obtain ⟨hO, hm⟩ := hO
    refine r_memEq hm ?_
    exact r_zret hC rfl (by decide) dX11_isBody_13 (Or.inr ⟨rfl, hO, rfl⟩)
set_option maxHeartbeats 4000000 in
set_option maxRecDepth 100000 in
theorem T11_kindOf {l : Launch} {G : mw_G} {p1 : Int32} {μ : mw_M} {Q : Int32 → Prop}  (hO : P11_kindOf p1 μ Q) : mw_Mi l G kdM yX11_kindOf cX11_kindOf 2 (some .int) 0 0 [.ref (mw_a G 0), .int p1] μ (mw_pq μ Q) := by
  refine mw_enter [(0, .ref (mw_a G 0)), (1, .int p1)] RX11 (by decide) rfl (Nat.le_of_ble_eq_true rfl) rfl ?_
  intro p e s m args below meth c hC
  unfold P11_kindOf at hO
  refine r_aload_n hC 0 dX11_kindOf_0 rfl rfl ?_
  refine r_getR hC 21 fl11_70 ob11 rfl dX11_kindOf_1 ?_
  refine r_iload_n hC 1 dX11_kindOf_4 rfl rfl ?_
  obtain ⟨g1, hO⟩ := hO
  refine r_iald hC sh11_54 g1 p1.toNatClampNeg rfl dX11_kindOf_5 ?_
  exact r_iret hC rfl dX11_kindOf_6 ⟨hO, rfl⟩
set_option maxHeartbeats 4000000 in
set_option maxRecDepth 100000 in
theorem T11_body {l : Launch} {G : mw_G} {p1 : Int32} {μ : mw_M} {Q : Int32 → mw_M → Prop}  (hO : P11_body p1 μ Q) : mw_Mi l G kdM yX11_body cX11_body 2 (some .int) 1 25 [.ref (mw_a G 0), .int p1] μ (Q) := by
  refine mw_enter [(0, .ref (mw_a G 0)), (1, .int p1)] RX11 (by decide) rfl (Nat.le_of_ble_eq_true rfl) rfl ?_
  intro p e s m args below meth c hC
  unfold P11_body at hO
  refine r_iload_n hC 1 dX11_body_0 rfl rfl ?_
  refine r_i2l hC dX11_body_1 ?_
  refine r_lconst hC 0 dX11_body_2 (by decide) ?_
  refine r_ldc2 hC kc11_369 dX11_body_3 ?_
  refine r_callSi hC [.long (Int32.toInt64 p1), .long 0, .long 7] (T11_within  hO) yv11_within ml11_106 ⟨Nat.le_of_ble_eq_true rfl, Nat.le_of_ble_eq_true rfl⟩ rfl rfl (Nat.le_of_ble_eq_true rfl) dX11_body_6 (fun r1 μ2 hO => ?_)
  rcases hO with ⟨hr, hO⟩ | ⟨hr, hO⟩
  · refine r_topEq hr ?_
    obtain ⟨hO, hm⟩ := hO
    refine r_memEq hm ?_
    refine r_if_ne hC 14 dX11_body_9 (by decide) (fun _ => ?_) (fun h => absurd h (by decide))
    refine r_aload_n hC 0 dX11_body_14 rfl rfl ?_
    refine r_getI hC fl11_366 ob11 rfl dX11_body_15 ?_
    refine r_bipush hC 50 dX11_body_18 (by decide) ?_
    refine r_icmp_ne hC 26 dX11_body_20 (by decide) (fun h3 => ?_) (fun h3 => ?_)
    · have hO := hO.2 h3
      refine r_aload_n hC 0 dX11_body_26 rfl rfl ?_
      refine r_getR hC 21 fl11_70 ob11 rfl dX11_body_27 ?_
      refine r_aload_n hC 0 dX11_body_30 rfl rfl ?_
      refine r_getI hC fl11_366 ob11 rfl dX11_body_31 ?_
      refine r_iload_n hC 1 dX11_body_34 rfl rfl ?_
      obtain ⟨g4, hO⟩ := hO
      refine r_iast hC sh11_54 g4 ((μ.1 0 53).toNatClampNeg) rfl dX11_body_35 ?_
      refine r_nmM (fun μ5 hμ5 => ?_)
      have hO := hO μ5 hμ5
      refine r_aload_n hC 0 dX11_body_36 rfl rfl ?_
      refine r_dup hC dX11_body_37 rfl ?_
      refine r_getI hC fl11_366 ob11 rfl dX11_body_38 ?_
      refine r_iconst hC 1 dX11_body_41 (by decide) ?_
      refine r_iadd hC dX11_body_42 ?_
      refine r_putI hC fl11_366 ob11 rfl rfl rfl dX11_body_43 ?_
      refine r_nmM (fun μ6 hμ6 => ?_)
      have hO := hO μ6 hμ6
      refine r_aload_n hC 0 dX11_body_46 rfl rfl ?_
      refine r_getI hC fl11_366 ob11 rfl dX11_body_47 ?_
      refine r_iconst hC 1 dX11_body_50 (by decide) ?_
      refine r_isub hC dX11_body_51 ?_
      exact r_iret hC rfl dX11_body_52 hO
    · have hO := hO.1 h3
      refine r_bipush hC (-3) dX11_body_23 (by decide) ?_
      exact r_iret hC rfl dX11_body_25 hO
  · refine r_topEq hr ?_
    obtain ⟨hO, hm⟩ := hO
    refine r_memEq hm ?_
    refine r_if_ne hC 14 dX11_body_9 (by decide) (fun h => absurd (by decide) h) (fun _ => ?_)
    refine r_iconst hC (-1) dX11_body_12 (by decide) ?_
    exact r_iret hC rfl dX11_body_13 hO
set_option maxHeartbeats 4000000 in
set_option maxRecDepth 100000 in
theorem T11_above {l : Launch} {G : mw_G} {p1 : Int32} {μ : mw_M} {Q : Int32 → Prop}  (hO : P11_above p1 Q) : mw_Mi l G kdM yX11_above cX11_above 1 (some .int) 0 0 [.int p1] μ (mw_pq μ Q) := by
  refine mw_enter [(0, .int p1)] RX11 (by decide) rfl (Nat.le_of_ble_eq_true rfl) rfl ?_
  intro p e s m args below meth c hC
  unfold P11_above at hO
  refine r_iload_n hC 0 dX11_above_0 rfl rfl ?_
  refine r_iconst hC 3 dX11_above_1 (by decide) ?_
  refine r_icmp_ne hC 9 dX11_above_2 (by decide) (fun h1 => ?_) (fun h1 => ?_)
  · have hO := hO.2 h1
    refine r_iload_n hC 0 dX11_above_9 rfl rfl ?_
    refine r_iconst hC 5 dX11_above_10 (by decide) ?_
    refine r_icmp_ne hC 18 dX11_above_11 (by decide) (fun h2 => ?_) (fun h2 => ?_)
    · have hO := hO.2 h2
      refine r_iload_n hC 0 dX11_above_18 rfl rfl ?_
      refine r_bipush hC 6 dX11_above_19 (by decide) ?_
      refine r_icmp_ne hC 28 dX11_above_21 (by decide) (fun h3 => ?_) (fun h3 => ?_)
      · have hO := hO.2 h3
        refine r_iconst hC 0 dX11_above_28 (by decide) ?_
        exact r_iret hC rfl dX11_above_29 ⟨hO, rfl⟩
      · have hO := hO.1 h3
        refine r_iconst hC 4 dX11_above_24 (by decide) ?_
        refine r_goto hC 29 dX11_above_25 (by decide) ?_
        exact r_iret hC rfl dX11_above_29 ⟨hO, rfl⟩
    · have hO := hO.1 h2
      refine r_iconst hC 1 dX11_above_14 (by decide) ?_
      refine r_goto hC 29 dX11_above_15 (by decide) ?_
      exact r_iret hC rfl dX11_above_29 ⟨hO, rfl⟩
  · have hO := hO.1 h1
    refine r_iconst hC 2 dX11_above_5 (by decide) ?_
    refine r_goto hC 29 dX11_above_6 (by decide) ?_
    exact r_iret hC rfl dX11_above_29 ⟨hO, rfl⟩
set_option maxHeartbeats 4000000 in
set_option maxRecDepth 100000 in
theorem T11_begins {l : Launch} {G : mw_G} {p1 : Int32} {μ : mw_M} {Q : mw_M → Prop}  (hO : P11_begins p1 μ Q) : mw_Mv l G kdM yX11_begins cX11_begins 2 none 0 0 [.ref (mw_a G 0), .int p1] μ (Q) := by
  refine mw_enter [(0, .ref (mw_a G 0)), (1, .int p1)] RX11 (by decide) rfl (Nat.le_of_ble_eq_true rfl) rfl ?_
  intro p e s m args below meth c hC
  unfold P11_begins at hO
  refine r_aload_n hC 0 dX11_begins_0 rfl rfl ?_
  refine r_getI hC fl11_371 ob11 rfl dX11_begins_1 ?_
  refine r_bipush hC 24 dX11_begins_4 (by decide) ?_
  refine r_icmp_ge hC 19 dX11_begins_6 (by decide) (fun h1 => ?_) (fun h1 => ?_)
  · have hO := hO.1 h1
    refine r_aload_n hC 0 dX11_begins_19 rfl rfl ?_
    refine r_dup hC dX11_begins_20 rfl ?_
    refine r_getI hC fl11_371 ob11 rfl dX11_begins_21 ?_
    refine r_iconst hC 1 dX11_begins_24 (by decide) ?_
    refine r_iadd hC dX11_begins_25 ?_
    refine r_putI hC fl11_371 ob11 rfl rfl rfl dX11_begins_26 ?_
    refine r_nmM (fun μ2 hμ2 => ?_)
    have hO := hO μ2 hμ2
    exact r_vret hC rfl dX11_begins_29 hO
  · have hO := hO.2 h1
    refine r_aload_n hC 0 dX11_begins_9 rfl rfl ?_
    refine r_getR hC 22 fl11_73 ob11 rfl dX11_begins_10 ?_
    refine r_aload_n hC 0 dX11_begins_13 rfl rfl ?_
    refine r_getI hC fl11_371 ob11 rfl dX11_begins_14 ?_
    refine r_iload_n hC 1 dX11_begins_17 rfl rfl ?_
    obtain ⟨g3, hO⟩ := hO
    refine r_iast hC sh11_55 g3 ((μ.1 0 56).toNatClampNeg) rfl dX11_begins_18 ?_
    refine r_nmM (fun μ4 hμ4 => ?_)
    have hO := hO μ4 hμ4
    refine r_aload_n hC 0 dX11_begins_19 rfl rfl ?_
    refine r_dup hC dX11_begins_20 rfl ?_
    refine r_getI hC fl11_371 ob11 rfl dX11_begins_21 ?_
    refine r_iconst hC 1 dX11_begins_24 (by decide) ?_
    refine r_iadd hC dX11_begins_25 ?_
    refine r_putI hC fl11_371 ob11 rfl rfl rfl dX11_begins_26 ?_
    refine r_nmM (fun μ5 hμ5 => ?_)
    have hO := hO μ5 hμ5
    exact r_vret hC rfl dX11_begins_29 hO
