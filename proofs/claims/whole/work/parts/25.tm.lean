set_option maxHeartbeats 4000000 in
set_option maxRecDepth 100000 in
theorem T11_waterLeaves {l : Launch} {G : mw_G} {p1 : Int32} {p2 : Int32} {p3 : Int32} {p4 : Int32} {μ : mw_M} {Q : mw_M → Prop}  (hO : P11_waterLeaves p1 p2 p3 p4 μ Q) : mw_Mv l G kdM yX11_waterLeaves cX11_waterLeaves 9 none 68 1626 [.ref (mw_a G 0), .int p1, .int p2, .int p3, .int p4] μ (Q) := by
  refine mw_enter [(0, .ref (mw_a G 0)), (1, .int p1), (2, .int p2), (3, .int p3), (4, .int p4)] RX11 (by decide) rfl (Nat.le_of_ble_eq_true rfl) rfl ?_
  intro p e s m args below meth c hC
  unfold P11_waterLeaves at hO
  refine r_aload_n hC 0 dX11_waterLeaves_0 rfl rfl ?_
  refine r_callVi hC [] (T11_lopsided  hO) yv11_lopsided ml11_167 ob11 rfl ⟨Nat.le_of_ble_eq_true rfl, Nat.le_of_ble_eq_true rfl⟩ rfl rfl (Nat.le_of_ble_eq_true rfl) dX11_waterLeaves_1 (fun r1 μ2 hO => ?_)
  obtain ⟨hO, hm⟩ := hO
  refine r_memEq hm ?_
  refine r_istore hC [(5, .int r1), (0, .ref (mw_a G 0)), (1, .int p1), (2, .int p2), (3, .int p3), (4, .int p4)] dX11_waterLeaves_4 (by decide) rfl ?_
  refine r_iconst hC 0 dX11_waterLeaves_6 (by decide) ?_
  refine r_istore hC [(6, .int 0), (5, .int r1), (0, .ref (mw_a G 0)), (1, .int p1), (2, .int p2), (3, .int p3), (4, .int p4)] dX11_waterLeaves_7 (by decide) rfl ?_
  have hLn5 : ∀   (n5 : Nat) (v3 : Int32) (μ4 : mw_M), L11_waterLeaves_9 r1 p1 p2 p3 p4 Q n5 v3 μ4 → mw_W p l e (mw_rm 68 1626) s m args below meth c G kdM 9 (MQ below (va_Qv (Q) (mw_B G kdM) (mw_A G kdM)) args s 0 0 (mw_A G kdM)) 9 [(6, .int v3), (5, .int r1), (0, .ref (mw_a G 0)), (1, .int p1), (2, .int p2), (3, .int p3), (4, .int p4)] [] μ4 := by
    intro   n5
    induction n5 with
    | zero => intro v3 μ4 hO; exact False.elim hO
    | succ n5 ihn5 =>
      intro v3 μ4 hO
      refine r_iload hC 0 dX11_waterLeaves_9 rfl ?_
      refine r_aload_n hC 2 dX11_waterLeaves_11 rfl rfl ?_
      refine r_getI hC fl11_103 ob11 rfl dX11_waterLeaves_12 ?_
      refine r_icmp_ge hC 175 dX11_waterLeaves_15 (by decide) (fun h6 => ?_) (fun h6 => ?_)
      · have hO := hO.1 h6
        exact r_vret hC rfl dX11_waterLeaves_175 hO
      · have hO := hO.2 h6
        refine r_aload_n hC 2 dX11_waterLeaves_18 rfl rfl ?_
        refine r_getR hC 1 fl11_9 ob11 rfl dX11_waterLeaves_19 ?_
        refine r_bipush hC 12 dX11_waterLeaves_22 (by decide) ?_
        refine r_iload hC 0 dX11_waterLeaves_24 rfl ?_
        refine r_iadd hC dX11_waterLeaves_26 ?_
        obtain ⟨g7, hO⟩ := hO
        refine r_iald hC sh11_0 g7 ((12 + v3).toNatClampNeg) rfl dX11_waterLeaves_27 ?_
        refine r_nmI (fun x8 hx8 => ?_)
        have hO := hO x8 hx8
        refine r_istore hC [(7, .int x8), (6, .int v3), (5, .int r1), (0, .ref (mw_a G 0)), (1, .int p1), (2, .int p2), (3, .int p3), (4, .int p4)] dX11_waterLeaves_28 (by decide) rfl ?_
        refine r_iload hC 0 dX11_waterLeaves_30 rfl ?_
        refine r_iload_n hC 4 dX11_waterLeaves_32 rfl rfl ?_
        refine r_imul hC dX11_waterLeaves_33 ?_
        refine r_sipush hC 6000 dX11_waterLeaves_34 (by decide) ?_
        refine r_idiv hC dX11_waterLeaves_37 (by decide) ?_
        refine r_nmI (fun x9 hx9 => ?_)
        have hO := hO x9 hx9
        refine r_istore hC [(8, .int x9), (7, .int x8), (6, .int v3), (5, .int r1), (0, .ref (mw_a G 0)), (1, .int p1), (2, .int p2), (3, .int p3), (4, .int p4)] dX11_waterLeaves_38 (by decide) rfl ?_
        refine r_aload_n hC 4 dX11_waterLeaves_40 rfl rfl ?_
        refine r_getI hC fl11_89 ob11 rfl dX11_waterLeaves_41 ?_
        refine r_if_lt hC 133 dX11_waterLeaves_44 (by decide) (fun h10 => ?_) (fun h10 => ?_)
        · have hO := hO.1 h10
          refine r_aload_n hC 4 dX11_waterLeaves_133 rfl rfl ?_
          refine r_getR hC 1 fl11_9 ob11 rfl dX11_waterLeaves_134 ?_
          refine r_bipush hC 12 dX11_waterLeaves_137 (by decide) ?_
          refine r_iload hC 2 dX11_waterLeaves_139 rfl ?_
          refine r_iadd hC dX11_waterLeaves_141 ?_
          refine r_iload hC 1 dX11_waterLeaves_142 rfl ?_
          refine r_iload hC 0 dX11_waterLeaves_144 rfl ?_
          refine r_if_ge hC 153 dX11_waterLeaves_146 (by decide) (fun h11 => ?_) (fun h11 => ?_)
          · have hO := hO.1 h11
            refine r_iload hC 0 dX11_waterLeaves_153 rfl ?_
            refine r_iload hC 1 dX11_waterLeaves_155 rfl ?_
            refine r_icmp_le hC 165 dX11_waterLeaves_157 (by decide) (fun h12 => ?_) (fun h12 => ?_)
            · have hO := hO.1 h12
              refine r_iload hC 0 dX11_waterLeaves_165 rfl ?_
              refine r_isub hC dX11_waterLeaves_167 ?_
              obtain ⟨g13, hO⟩ := hO
              refine r_iast hC sh11_0 g13 ((12 + v3).toNatClampNeg) rfl dX11_waterLeaves_168 ?_
              refine r_nmM (fun μ14 hμ14 => ?_)
              have hO := hO μ14 hμ14
              obtain ⟨x15, hx15⟩ : ∃ y : Int32, y = v3 + 1 := ⟨_, rfl⟩
              have hO := hO x15 hx15
              refine r_iinc hC x15 2 [(6, .int x15), (8, .int x9), (7, .int x8), (5, .int r1), (0, .ref (mw_a G 0)), (1, .int p1), (2, .int p2), (3, .int p3), (4, .int p4)] dX11_waterLeaves_169 rfl (by rw [hx15]; rfl) (by decide) rfl ?_
              refine r_goto hC 9 dX11_waterLeaves_172 (by decide) ?_
              refine r_lv hC [(6, .int x15), (5, .int r1), (0, .ref (mw_a G 0)), (1, .int p1), (2, .int p2), (3, .int p3), (4, .int p4)] [0, 3, 4, 5, 6, 7, 8] rfl ?_
              exact ihn5 x15 μ14 hO
            · have hO := hO.2 h12
              refine r_iload hC 1 dX11_waterLeaves_160 rfl ?_
              refine r_goto hC 167 dX11_waterLeaves_162 (by decide) ?_
              refine r_isub hC dX11_waterLeaves_167 ?_
              obtain ⟨g16, hO⟩ := hO
              refine r_iast hC sh11_0 g16 ((12 + v3).toNatClampNeg) rfl dX11_waterLeaves_168 ?_
              refine r_nmM (fun μ17 hμ17 => ?_)
              have hO := hO μ17 hμ17
              obtain ⟨x18, hx18⟩ : ∃ y : Int32, y = v3 + 1 := ⟨_, rfl⟩
              have hO := hO x18 hx18
              refine r_iinc hC x18 2 [(6, .int x18), (8, .int x9), (7, .int x8), (5, .int r1), (0, .ref (mw_a G 0)), (1, .int p1), (2, .int p2), (3, .int p3), (4, .int p4)] dX11_waterLeaves_169 rfl (by rw [hx18]; rfl) (by decide) rfl ?_
              refine r_goto hC 9 dX11_waterLeaves_172 (by decide) ?_
              refine r_lv hC [(6, .int x18), (5, .int r1), (0, .ref (mw_a G 0)), (1, .int p1), (2, .int p2), (3, .int p3), (4, .int p4)] [0, 3, 4, 5, 6, 7, 8] rfl ?_
              exact ihn5 x18 μ17 hO
          · have hO := hO.2 h11
            refine r_iconst hC 0 dX11_waterLeaves_149 (by decide) ?_
            refine r_goto hC 167 dX11_waterLeaves_150 (by decide) ?_
            refine r_isub hC dX11_waterLeaves_167 ?_
            obtain ⟨g19, hO⟩ := hO
            refine r_iast hC sh11_0 g19 ((12 + v3).toNatClampNeg) rfl dX11_waterLeaves_168 ?_
            refine r_nmM (fun μ20 hμ20 => ?_)
            have hO := hO μ20 hμ20
            obtain ⟨x21, hx21⟩ : ∃ y : Int32, y = v3 + 1 := ⟨_, rfl⟩
            have hO := hO x21 hx21
            refine r_iinc hC x21 2 [(6, .int x21), (8, .int x9), (7, .int x8), (5, .int r1), (0, .ref (mw_a G 0)), (1, .int p1), (2, .int p2), (3, .int p3), (4, .int p4)] dX11_waterLeaves_169 rfl (by rw [hx21]; rfl) (by decide) rfl ?_
            refine r_goto hC 9 dX11_waterLeaves_172 (by decide) ?_
            refine r_lv hC [(6, .int x21), (5, .int r1), (0, .ref (mw_a G 0)), (1, .int p1), (2, .int p2), (3, .int p3), (4, .int p4)] [0, 3, 4, 5, 6, 7, 8] rfl ?_
            exact ihn5 x21 μ20 hO
        · have hO := hO.2 h10
          refine r_aload_n hC 4 dX11_waterLeaves_47 rfl rfl ?_
          refine r_callVv hC [] (T11_clearNames  hO) yv11_clearNames ml11_244 ob11 rfl ⟨Nat.le_of_ble_eq_true rfl, Nat.le_of_ble_eq_true rfl⟩ rfl rfl (Nat.le_of_ble_eq_true rfl) dX11_waterLeaves_48 (fun μ22 hO => ?_)
          refine r_aload_n hC 4 dX11_waterLeaves_51 rfl rfl ?_
          refine r_getR hC 13 fl11_46 ob11 rfl dX11_waterLeaves_52 ?_
          refine r_iconst hC 0 dX11_waterLeaves_55 (by decide) ?_
          refine r_iload hC 1 dX11_waterLeaves_56 rfl ?_
          refine r_iast hC sh11_24 (vpc (by decide) : vp_in 0 9) 0 (by decide) dX11_waterLeaves_58 ?_
          refine r_nmM (fun μ23 hμ23 => ?_)
          have hO := hO μ23 hμ23
          refine r_aload_n hC 4 dX11_waterLeaves_59 rfl rfl ?_
          refine r_getR hC 13 fl11_46 ob11 rfl dX11_waterLeaves_60 ?_
          refine r_iconst hC 1 dX11_waterLeaves_63 (by decide) ?_
          refine r_aload_n hC 4 dX11_waterLeaves_64 rfl rfl ?_
          refine r_getR hC 5 fl11_22 ob11 rfl dX11_waterLeaves_65 ?_
          refine r_iload hC 2 dX11_waterLeaves_68 rfl ?_
          obtain ⟨g24, hO⟩ := hO
          refine r_iald hC sh11_7 g24 v3.toNatClampNeg rfl dX11_waterLeaves_70 ?_
          refine r_iast hC sh11_24 (vpc (by decide) : vp_in 1 9) 1 (by decide) dX11_waterLeaves_71 ?_
          refine r_nmM (fun μ25 hμ25 => ?_)
          have hO := hO μ25 hμ25
          refine r_aload_n hC 4 dX11_waterLeaves_72 rfl rfl ?_
          refine r_getR hC 13 fl11_46 ob11 rfl dX11_waterLeaves_73 ?_
          refine r_iconst hC 2 dX11_waterLeaves_76 (by decide) ?_
          refine r_iload_n hC 5 dX11_waterLeaves_77 rfl rfl ?_
          refine r_iast hC sh11_24 (vpc (by decide) : vp_in 2 9) 2 (by decide) dX11_waterLeaves_78 ?_
          refine r_nmM (fun μ26 hμ26 => ?_)
          have hO := hO μ26 hμ26
          refine r_aload_n hC 4 dX11_waterLeaves_79 rfl rfl ?_
          refine r_getR hC 13 fl11_46 ob11 rfl dX11_waterLeaves_80 ?_
          refine r_iconst hC 3 dX11_waterLeaves_83 (by decide) ?_
          refine r_iload_n hC 6 dX11_waterLeaves_84 rfl rfl ?_
          refine r_iast hC sh11_24 (vpc (by decide) : vp_in 3 9) 3 (by decide) dX11_waterLeaves_85 ?_
          refine r_nmM (fun μ27 hμ27 => ?_)
          have hO := hO μ27 hμ27
          refine r_aload_n hC 4 dX11_waterLeaves_86 rfl rfl ?_
          refine r_getR hC 13 fl11_46 ob11 rfl dX11_waterLeaves_87 ?_
          refine r_iconst hC 4 dX11_waterLeaves_90 (by decide) ?_
          refine r_iload hC 3 dX11_waterLeaves_91 rfl ?_
          refine r_iast hC sh11_24 (vpc (by decide) : vp_in 4 9) 4 (by decide) dX11_waterLeaves_93 ?_
          refine r_nmM (fun μ28 hμ28 => ?_)
          have hO := hO μ28 hμ28
          refine r_aload_n hC 4 dX11_waterLeaves_94 rfl rfl ?_
          refine r_getR hC 13 fl11_46 ob11 rfl dX11_waterLeaves_95 ?_
          refine r_bipush hC 7 dX11_waterLeaves_98 (by decide) ?_
          refine r_iload_n hC 7 dX11_waterLeaves_100 rfl rfl ?_
          refine r_iast hC sh11_24 (vpc (by decide) : vp_in 7 9) 7 (by decide) dX11_waterLeaves_101 ?_
          refine r_nmM (fun μ29 hμ29 => ?_)
          have hO := hO μ29 hμ29
          refine r_aload_n hC 4 dX11_waterLeaves_102 rfl rfl ?_
          refine r_getR hC 13 fl11_46 ob11 rfl dX11_waterLeaves_103 ?_
          refine r_bipush hC 8 dX11_waterLeaves_106 (by decide) ?_
          refine r_iload hC 8 dX11_waterLeaves_108 rfl ?_
          refine r_iast hC sh11_24 (vpc (by decide) : vp_in 8 9) 8 (by decide) dX11_waterLeaves_110 ?_
          refine r_nmM (fun μ30 hμ30 => ?_)
          have hO := hO μ30 hμ30
          refine r_aload_n hC 4 dX11_waterLeaves_111 rfl rfl ?_
          refine r_bipush hC 120 dX11_waterLeaves_112 (by decide) ?_
          refine r_aload_n hC 4 dX11_waterLeaves_114 rfl rfl ?_
          refine r_getI hC fl11_89 ob11 rfl dX11_waterLeaves_115 ?_
          refine r_imul hC dX11_waterLeaves_118 ?_
          refine r_aload_n hC 4 dX11_waterLeaves_119 rfl rfl ?_
          refine r_getR hC 12 fl11_43 ob11 rfl dX11_waterLeaves_120 ?_
          refine r_aload_n hC 4 dX11_waterLeaves_123 rfl rfl ?_
          refine r_getI hC fl11_89 ob11 rfl dX11_waterLeaves_124 ?_
          obtain ⟨g31, hO⟩ := hO
          refine r_iald hC sh11_18 g31 ((μ30.1 0 16).toNatClampNeg) rfl dX11_waterLeaves_127 ?_
          refine r_callVi hC [.int (120 * (μ30.1 0 16)), .int (μ30.1 12 ((μ30.1 0 16).toNatClampNeg))] (T11_workOut  hO) yv11_workOut ml11_238 ob11 rfl ⟨Nat.le_of_ble_eq_true rfl, Nat.le_of_ble_eq_true rfl⟩ rfl rfl (Nat.le_of_ble_eq_true rfl) dX11_waterLeaves_128 (fun r32 μ33 hO => ?_)
          refine r_istore hC [(8, .int r32), (7, .int x8), (6, .int v3), (5, .int r1), (0, .ref (mw_a G 0)), (1, .int p1), (2, .int p2), (3, .int p3), (4, .int p4)] dX11_waterLeaves_131 (by decide) rfl ?_
          refine r_aload_n hC 4 dX11_waterLeaves_133 rfl rfl ?_
          refine r_getR hC 1 fl11_9 ob11 rfl dX11_waterLeaves_134 ?_
          refine r_bipush hC 12 dX11_waterLeaves_137 (by decide) ?_
          refine r_iload hC 2 dX11_waterLeaves_139 rfl ?_
          refine r_iadd hC dX11_waterLeaves_141 ?_
          refine r_iload hC 1 dX11_waterLeaves_142 rfl ?_
          refine r_iload hC 0 dX11_waterLeaves_144 rfl ?_
          refine r_if_ge hC 153 dX11_waterLeaves_146 (by decide) (fun h34 => ?_) (fun h34 => ?_)
          · have hO := hO.1 h34
            refine r_iload hC 0 dX11_waterLeaves_153 rfl ?_
            refine r_iload hC 1 dX11_waterLeaves_155 rfl ?_
            refine r_icmp_le hC 165 dX11_waterLeaves_157 (by decide) (fun h35 => ?_) (fun h35 => ?_)
            · have hO := hO.1 h35
              refine r_iload hC 0 dX11_waterLeaves_165 rfl ?_
              refine r_isub hC dX11_waterLeaves_167 ?_
              obtain ⟨g36, hO⟩ := hO
              refine r_iast hC sh11_0 g36 ((12 + v3).toNatClampNeg) rfl dX11_waterLeaves_168 ?_
              refine r_nmM (fun μ37 hμ37 => ?_)
              have hO := hO μ37 hμ37
              obtain ⟨x38, hx38⟩ : ∃ y : Int32, y = v3 + 1 := ⟨_, rfl⟩
              have hO := hO x38 hx38
              refine r_iinc hC x38 2 [(6, .int x38), (8, .int r32), (7, .int x8), (5, .int r1), (0, .ref (mw_a G 0)), (1, .int p1), (2, .int p2), (3, .int p3), (4, .int p4)] dX11_waterLeaves_169 rfl (by rw [hx38]; rfl) (by decide) rfl ?_
              refine r_goto hC 9 dX11_waterLeaves_172 (by decide) ?_
              refine r_lv hC [(6, .int x38), (5, .int r1), (0, .ref (mw_a G 0)), (1, .int p1), (2, .int p2), (3, .int p3), (4, .int p4)] [0, 3, 4, 5, 6, 7, 8] rfl ?_
              exact ihn5 x38 μ37 hO
            · have hO := hO.2 h35
              refine r_iload hC 1 dX11_waterLeaves_160 rfl ?_
              refine r_goto hC 167 dX11_waterLeaves_162 (by decide) ?_
              refine r_isub hC dX11_waterLeaves_167 ?_
              obtain ⟨g39, hO⟩ := hO
              refine r_iast hC sh11_0 g39 ((12 + v3).toNatClampNeg) rfl dX11_waterLeaves_168 ?_
              refine r_nmM (fun μ40 hμ40 => ?_)
              have hO := hO μ40 hμ40
              obtain ⟨x41, hx41⟩ : ∃ y : Int32, y = v3 + 1 := ⟨_, rfl⟩
              have hO := hO x41 hx41
              refine r_iinc hC x41 2 [(6, .int x41), (8, .int r32), (7, .int x8), (5, .int r1), (0, .ref (mw_a G 0)), (1, .int p1), (2, .int p2), (3, .int p3), (4, .int p4)] dX11_waterLeaves_169 rfl (by rw [hx41]; rfl) (by decide) rfl ?_
              refine r_goto hC 9 dX11_waterLeaves_172 (by decide) ?_
              refine r_lv hC [(6, .int x41), (5, .int r1), (0, .ref (mw_a G 0)), (1, .int p1), (2, .int p2), (3, .int p3), (4, .int p4)] [0, 3, 4, 5, 6, 7, 8] rfl ?_
              exact ihn5 x41 μ40 hO
          · have hO := hO.2 h34
            refine r_iconst hC 0 dX11_waterLeaves_149 (by decide) ?_
            refine r_goto hC 167 dX11_waterLeaves_150 (by decide) ?_
            refine r_isub hC dX11_waterLeaves_167 ?_
            obtain ⟨g42, hO⟩ := hO
            refine r_iast hC sh11_0 g42 ((12 + v3).toNatClampNeg) rfl dX11_waterLeaves_168 ?_
            refine r_nmM (fun μ43 hμ43 => ?_)
            have hO := hO μ43 hμ43
            obtain ⟨x44, hx44⟩ : ∃ y : Int32, y = v3 + 1 := ⟨_, rfl⟩
            have hO := hO x44 hx44
            refine r_iinc hC x44 2 [(6, .int x44), (8, .int r32), (7, .int x8), (5, .int r1), (0, .ref (mw_a G 0)), (1, .int p1), (2, .int p2), (3, .int p3), (4, .int p4)] dX11_waterLeaves_169 rfl (by rw [hx44]; rfl) (by decide) rfl ?_
            refine r_goto hC 9 dX11_waterLeaves_172 (by decide) ?_
            refine r_lv hC [(6, .int x44), (5, .int r1), (0, .ref (mw_a G 0)), (1, .int p1), (2, .int p2), (3, .int p3), (4, .int p4)] [0, 3, 4, 5, 6, 7, 8] rfl ?_
            exact ihn5 x44 μ43 hO
  obtain ⟨n5, hO⟩ := hO
  refine hLn5   n5 _ _ hO
set_option maxHeartbeats 4000000 in
set_option maxRecDepth 100000 in
theorem T11_drawn {l : Launch} {G : mw_G} {p1 : Int32} {μ : mw_M} {Q : Int32 → mw_M → Prop}  (hO : P11_drawn p1 μ Q) : mw_Mi l G kdM yX11_drawn cX11_drawn 2 (some .int) 0 0 [.ref (mw_a G 0), .int p1] μ (Q) := by
  refine mw_enter [(0, .ref (mw_a G 0)), (1, .int p1)] RX11 (by decide) rfl (Nat.le_of_ble_eq_true rfl) rfl ?_
  intro p e s m args below meth c hC
  unfold P11_drawn at hO
  refine r_aload_n hC 0 dX11_drawn_0 rfl rfl ?_
  refine r_aload_n hC 0 dX11_drawn_1 rfl rfl ?_
  refine r_getI hC fl11_247 ob11 rfl dX11_drawn_2 ?_
  refine r_ldc hC kc11_250 dX11_drawn_5 ?_
  refine r_imul hC dX11_drawn_7 ?_
  refine r_sipush hC 12345 dX11_drawn_8 (by decide) ?_
  refine r_iadd hC dX11_drawn_11 ?_
  refine r_putI hC fl11_247 ob11 rfl rfl rfl dX11_drawn_12 ?_
  refine r_nmM (fun μ1 hμ1 => ?_)
  have hO := hO μ1 hμ1
  refine r_aload_n hC 0 dX11_drawn_15 rfl rfl ?_
  refine r_getI hC fl11_247 ob11 rfl dX11_drawn_16 ?_
  refine r_bipush hC 8 dX11_drawn_19 (by decide) ?_
  refine r_iushr hC dX11_drawn_21 ?_
  refine r_iload_n hC 1 dX11_drawn_22 rfl rfl ?_
  obtain ⟨g2, hO⟩ := hO
  refine r_irem hC dX11_drawn_23 g2 ?_
  exact r_iret hC rfl dX11_drawn_24 hO
set_option maxHeartbeats 4000000 in
set_option maxRecDepth 100000 in
theorem T11_tumbles {l : Launch} {G : mw_G}  {μ : mw_M} {Q : mw_M → Prop}  (hO : P11_tumbles μ Q) : mw_Mv l G kdM yX11_tumbles cX11_tumbles 2 none 1 21 [.ref (mw_a G 0)] μ (Q) := by
  refine mw_enter [(0, .ref (mw_a G 0))] RX11 (by decide) rfl (Nat.le_of_ble_eq_true rfl) rfl ?_
  intro p e s m args below meth c hC
  unfold P11_tumbles at hO
  refine r_iconst hC 0 dX11_tumbles_0 (by decide) ?_
  refine r_istore_n hC [(1, .int 0), (0, .ref (mw_a G 0))] dX11_tumbles_1 rfl (by decide) rfl ?_
  have hLn3 : ∀   (n3 : Nat) (v1 : Int32) (μ2 : mw_M), L11_tumbles_2 Q n3 v1 μ2 → mw_W p l e (mw_rm 1 21) s m args below meth c G kdM 2 (MQ below (va_Qv (Q) (mw_B G kdM) (mw_A G kdM)) args s 0 0 (mw_A G kdM)) 2 [(1, .int v1), (0, .ref (mw_a G 0))] [] μ2 := by
    intro   n3
    induction n3 with
    | zero => intro v1 μ2 hO; exact False.elim hO
    | succ n3 ihn3 =>
      intro v1 μ2 hO
      refine r_iload_n hC 0 dX11_tumbles_2 rfl rfl ?_
      refine r_aload_n hC 1 dX11_tumbles_3 rfl rfl ?_
      refine r_getI hC fl11_103 ob11 rfl dX11_tumbles_4 ?_
      refine r_icmp_ge hC 31 dX11_tumbles_7 (by decide) (fun h4 => ?_) (fun h4 => ?_)
      · have hO := hO.1 h4
        exact r_vret hC rfl dX11_tumbles_31 hO
      · have hO := hO.2 h4
        refine r_aload_n hC 1 dX11_tumbles_10 rfl rfl ?_
        refine r_getR hC 1 fl11_9 ob11 rfl dX11_tumbles_11 ?_
        refine r_bipush hC 24 dX11_tumbles_14 (by decide) ?_
        refine r_iload_n hC 0 dX11_tumbles_16 rfl rfl ?_
        refine r_iadd hC dX11_tumbles_17 ?_
        refine r_aload_n hC 1 dX11_tumbles_18 rfl rfl ?_
        refine r_bipush hC 12 dX11_tumbles_19 (by decide) ?_
        refine r_callVi hC [.int 12] (T11_drawn  hO) yv11_drawn ml11_251 ob11 rfl ⟨Nat.le_of_ble_eq_true rfl, Nat.le_of_ble_eq_true rfl⟩ rfl rfl (Nat.le_of_ble_eq_true rfl) dX11_tumbles_21 (fun r5 μ6 hO => ?_)
        obtain ⟨g7, hO⟩ := hO
        refine r_iast hC sh11_0 g7 ((24 + v1).toNatClampNeg) rfl dX11_tumbles_24 ?_
        refine r_nmM (fun μ8 hμ8 => ?_)
        have hO := hO μ8 hμ8
        obtain ⟨x9, hx9⟩ : ∃ y : Int32, y = v1 + 1 := ⟨_, rfl⟩
        have hO := hO x9 hx9
        refine r_iinc hC x9 0 [(1, .int x9), (0, .ref (mw_a G 0))] dX11_tumbles_25 rfl (by rw [hx9]; rfl) (by decide) rfl ?_
        refine r_goto hC 2 dX11_tumbles_28 (by decide) ?_
        refine r_lv hC [(1, .int x9), (0, .ref (mw_a G 0))] [0, 1] rfl ?_
        exact ihn3 x9 μ8 hO
  obtain ⟨n3, hO⟩ := hO
  refine hLn3   n3 _ _ hO
set_option maxHeartbeats 4000000 in
set_option maxRecDepth 100000 in
theorem T11_keepsLoad {l : Launch} {G : mw_G}  {μ : mw_M} {Q : mw_M → Prop}  (hO : P11_keepsLoad μ Q) : mw_Mv l G kdM yX11_keepsLoad cX11_keepsLoad 2 none 0 0 [.ref (mw_a G 0)] μ (Q) := by
  refine mw_enter [(0, .ref (mw_a G 0))] RX11 (by decide) rfl (Nat.le_of_ble_eq_true rfl) rfl ?_
  intro p e s m args below meth c hC
  unfold P11_keepsLoad at hO
  refine r_iconst hC 0 dX11_keepsLoad_0 (by decide) ?_
  refine r_istore_n hC [(1, .int 0), (0, .ref (mw_a G 0))] dX11_keepsLoad_1 rfl (by decide) rfl ?_
  have hLn3 : ∀   (n3 : Nat) (v1 : Int32) (μ2 : mw_M), L11_keepsLoad_2 Q n3 v1 μ2 → mw_W p l e (mw_rm 0 0) s m args below meth c G kdM 2 (MQ below (va_Qv (Q) (mw_B G kdM) (mw_A G kdM)) args s 0 0 (mw_A G kdM)) 2 [(1, .int v1), (0, .ref (mw_a G 0))] [] μ2 := by
    intro   n3
    induction n3 with
    | zero => intro v1 μ2 hO; exact False.elim hO
    | succ n3 ihn3 =>
      intro v1 μ2 hO
      refine r_iload_n hC 0 dX11_keepsLoad_2 rfl rfl ?_
      refine r_bipush hC 36 dX11_keepsLoad_3 (by decide) ?_
      refine r_icmp_gt hC 26 dX11_keepsLoad_5 (by decide) (fun h4 => ?_) (fun h4 => ?_)
      · have hO := hO.1 h4
        exact r_vret hC rfl dX11_keepsLoad_26 hO
      · have hO := hO.2 h4
        refine r_aload_n hC 1 dX11_keepsLoad_8 rfl rfl ?_
        refine r_getR hC 14 fl11_49 ob11 rfl dX11_keepsLoad_9 ?_
        refine r_iload_n hC 0 dX11_keepsLoad_12 rfl rfl ?_
        refine r_aload_n hC 1 dX11_keepsLoad_13 rfl rfl ?_
        refine r_getR hC 1 fl11_9 ob11 rfl dX11_keepsLoad_14 ?_
        refine r_iload_n hC 0 dX11_keepsLoad_17 rfl rfl ?_
        obtain ⟨g5, hO⟩ := hO
        refine r_iald hC sh11_0 g5 v1.toNatClampNeg rfl dX11_keepsLoad_18 ?_
        obtain ⟨g6, hO⟩ := hO
        refine r_iast hC sh11_26 g6 v1.toNatClampNeg rfl dX11_keepsLoad_19 ?_
        refine r_nmM (fun μ7 hμ7 => ?_)
        have hO := hO μ7 hμ7
        obtain ⟨x8, hx8⟩ : ∃ y : Int32, y = v1 + 1 := ⟨_, rfl⟩
        have hO := hO x8 hx8
        refine r_iinc hC x8 0 [(1, .int x8), (0, .ref (mw_a G 0))] dX11_keepsLoad_20 rfl (by rw [hx8]; rfl) (by decide) rfl ?_
        refine r_goto hC 2 dX11_keepsLoad_23 (by decide) ?_
        refine r_lv hC [(1, .int x8), (0, .ref (mw_a G 0))] [0, 1] rfl ?_
        exact ihn3 x8 μ7 hO
  obtain ⟨n3, hO⟩ := hO
  refine hLn3   n3 _ _ hO
set_option maxHeartbeats 4000000 in
set_option maxRecDepth 100000 in
theorem T11_laysBack {l : Launch} {G : mw_G}  {μ : mw_M} {Q : mw_M → Prop}  (hO : P11_laysBack μ Q) : mw_Mv l G kdM yX11_laysBack cX11_laysBack 2 none 0 0 [.ref (mw_a G 0)] μ (Q) := by
  refine mw_enter [(0, .ref (mw_a G 0))] RX11 (by decide) rfl (Nat.le_of_ble_eq_true rfl) rfl ?_
  intro p e s m args below meth c hC
  unfold P11_laysBack at hO
  refine r_iconst hC 0 dX11_laysBack_0 (by decide) ?_
  refine r_istore_n hC [(1, .int 0), (0, .ref (mw_a G 0))] dX11_laysBack_1 rfl (by decide) rfl ?_
  have hLn3 : ∀   (n3 : Nat) (v1 : Int32) (μ2 : mw_M), L11_laysBack_2 Q n3 v1 μ2 → mw_W p l e (mw_rm 0 0) s m args below meth c G kdM 2 (MQ below (va_Qv (Q) (mw_B G kdM) (mw_A G kdM)) args s 0 0 (mw_A G kdM)) 2 [(1, .int v1), (0, .ref (mw_a G 0))] [] μ2 := by
    intro   n3
    induction n3 with
    | zero => intro v1 μ2 hO; exact False.elim hO
    | succ n3 ihn3 =>
      intro v1 μ2 hO
      refine r_iload_n hC 0 dX11_laysBack_2 rfl rfl ?_
      refine r_bipush hC 36 dX11_laysBack_3 (by decide) ?_
      refine r_icmp_gt hC 26 dX11_laysBack_5 (by decide) (fun h4 => ?_) (fun h4 => ?_)
      · have hO := hO.1 h4
        exact r_vret hC rfl dX11_laysBack_26 hO
      · have hO := hO.2 h4
        refine r_aload_n hC 1 dX11_laysBack_8 rfl rfl ?_
        refine r_getR hC 1 fl11_9 ob11 rfl dX11_laysBack_9 ?_
        refine r_iload_n hC 0 dX11_laysBack_12 rfl rfl ?_
        refine r_aload_n hC 1 dX11_laysBack_13 rfl rfl ?_
        refine r_getR hC 14 fl11_49 ob11 rfl dX11_laysBack_14 ?_
        refine r_iload_n hC 0 dX11_laysBack_17 rfl rfl ?_
        obtain ⟨g5, hO⟩ := hO
        refine r_iald hC sh11_26 g5 v1.toNatClampNeg rfl dX11_laysBack_18 ?_
        obtain ⟨g6, hO⟩ := hO
        refine r_iast hC sh11_0 g6 v1.toNatClampNeg rfl dX11_laysBack_19 ?_
        refine r_nmM (fun μ7 hμ7 => ?_)
        have hO := hO μ7 hμ7
        obtain ⟨x8, hx8⟩ : ∃ y : Int32, y = v1 + 1 := ⟨_, rfl⟩
        have hO := hO x8 hx8
        refine r_iinc hC x8 0 [(1, .int x8), (0, .ref (mw_a G 0))] dX11_laysBack_20 rfl (by rw [hx8]; rfl) (by decide) rfl ?_
        refine r_goto hC 2 dX11_laysBack_23 (by decide) ?_
        refine r_lv hC [(1, .int x8), (0, .ref (mw_a G 0))] [0, 1] rfl ?_
        exact ihn3 x8 μ7 hO
  obtain ⟨n3, hO⟩ := hO
  refine hLn3   n3 _ _ hO
set_option maxHeartbeats 4000000 in
set_option maxRecDepth 100000 in
theorem T11_heldSpot {l : Launch} {G : mw_G} {p1 : Int32} {μ : mw_M} {Q : Int32 → Prop}  (hO : P11_heldSpot p1 Q) : mw_Mi l G kdM yX11_heldSpot cX11_heldSpot 1 (some .int) 0 0 [.int p1] μ (mw_pq μ Q) := by
  refine mw_enter [(0, .int p1)] RX11 (by decide) rfl (Nat.le_of_ble_eq_true rfl) rfl ?_
  intro p e s m args below meth c hC
  unfold P11_heldSpot at hO
  refine r_iload_n hC 0 dX11_heldSpot_0 rfl rfl ?_
  refine r_sipush hC (-9999) dX11_heldSpot_1 (by decide) ?_
  refine r_icmp_ge hC 13 dX11_heldSpot_4 (by decide) (fun h1 => ?_) (fun h1 => ?_)
  · have hO := hO.1 h1
    refine r_iload_n hC 0 dX11_heldSpot_13 rfl rfl ?_
    refine r_sipush hC 9999 dX11_heldSpot_14 (by decide) ?_
    refine r_icmp_le hC 26 dX11_heldSpot_17 (by decide) (fun h2 => ?_) (fun h2 => ?_)
    · have hO := hO.1 h2
      refine r_iload_n hC 0 dX11_heldSpot_26 rfl rfl ?_
      exact r_iret hC rfl dX11_heldSpot_27 ⟨hO, rfl⟩
    · have hO := hO.2 h2
      refine r_sipush hC 9999 dX11_heldSpot_20 (by decide) ?_
      refine r_goto hC 27 dX11_heldSpot_23 (by decide) ?_
      exact r_iret hC rfl dX11_heldSpot_27 ⟨hO, rfl⟩
  · have hO := hO.2 h1
    refine r_sipush hC (-9999) dX11_heldSpot_7 (by decide) ?_
    refine r_goto hC 27 dX11_heldSpot_10 (by decide) ?_
    exact r_iret hC rfl dX11_heldSpot_27 ⟨hO, rfl⟩
set_option maxHeartbeats 4000000 in
set_option maxRecDepth 100000 in
theorem T11_seenAt {l : Launch} {G : mw_G} {p1 : Int32} {μ : mw_M} {Q : Int32 → mw_M → Prop}  (hO : P11_seenAt p1 μ Q) : mw_Mi l G kdM yX11_seenAt cX11_seenAt 3 (some .int) 1 21 [.ref (mw_a G 0), .int p1] μ (Q) := by
  refine mw_enter [(0, .ref (mw_a G 0)), (1, .int p1)] RX11 (by decide) rfl (Nat.le_of_ble_eq_true rfl) rfl ?_
  intro p e s m args below meth c hC
  unfold P11_seenAt at hO
  refine r_iload_n hC 1 dX11_seenAt_0 rfl rfl ?_
  refine r_aload_n hC 0 dX11_seenAt_1 rfl rfl ?_
  refine r_getR hC 6 fl11_25 ob11 rfl dX11_seenAt_2 ?_
  refine r_iconst hC 2 dX11_seenAt_5 (by decide) ?_
  refine r_iald hC sh11_8 (vpc (by decide) : vp_in 2 5) 2 (by decide) dX11_seenAt_6 ?_
  refine r_isub hC dX11_seenAt_7 ?_
  refine r_nmI (fun x1 hx1 => ?_)
  have hO := hO x1 hx1
  refine r_istore_n hC [(2, .int x1), (0, .ref (mw_a G 0)), (1, .int p1)] dX11_seenAt_8 rfl (by decide) rfl ?_
  refine r_aload_n hC 1 dX11_seenAt_9 rfl rfl ?_
  refine r_getR hC 15 fl11_52 ob11 rfl dX11_seenAt_10 ?_
  refine r_iload_n hC 0 dX11_seenAt_13 rfl rfl ?_
  refine r_if_ge hC 21 dX11_seenAt_14 (by decide) (fun h2 => ?_) (fun h2 => ?_)
  · have hO := hO.1 h2
    refine r_iload_n hC 0 dX11_seenAt_21 rfl rfl ?_
    obtain ⟨g3, hO⟩ := hO
    refine r_iald hC sh11_27 g3 x1.toNatClampNeg rfl dX11_seenAt_22 ?_
    refine r_aload_n hC 1 dX11_seenAt_23 rfl rfl ?_
    refine r_iconst hC 2 dX11_seenAt_24 (by decide) ?_
    refine r_aload_n hC 1 dX11_seenAt_25 rfl rfl ?_
    refine r_getR hC 6 fl11_25 ob11 rfl dX11_seenAt_26 ?_
    refine r_iconst hC 3 dX11_seenAt_29 (by decide) ?_
    refine r_iald hC sh11_8 (vpc (by decide) : vp_in 3 5) 3 (by decide) dX11_seenAt_30 ?_
    refine r_imul hC dX11_seenAt_31 ?_
    refine r_iconst hC 1 dX11_seenAt_32 (by decide) ?_
    refine r_iadd hC dX11_seenAt_33 ?_
    refine r_callVi hC [.int ((2 * (μ.1 6 3)) + 1)] (T11_drawn  hO) yv11_drawn ml11_251 ob11 rfl ⟨Nat.le_of_ble_eq_true rfl, Nat.le_of_ble_eq_true rfl⟩ rfl rfl (Nat.le_of_ble_eq_true rfl) dX11_seenAt_34 (fun r4 μ5 hO => ?_)
    refine r_iadd hC dX11_seenAt_37 ?_
    refine r_aload_n hC 1 dX11_seenAt_38 rfl rfl ?_
    refine r_getR hC 6 fl11_25 ob11 rfl dX11_seenAt_39 ?_
    refine r_iconst hC 3 dX11_seenAt_42 (by decide) ?_
    refine r_iald hC sh11_8 (vpc (by decide) : vp_in 3 5) 3 (by decide) dX11_seenAt_43 ?_
    refine r_isub hC dX11_seenAt_44 ?_
    exact r_iret hC rfl dX11_seenAt_45 hO
  · have hO := hO.2 h2
    refine r_iconst hC 0 dX11_seenAt_17 (by decide) ?_
    refine r_goto hC 22 dX11_seenAt_18 (by decide) ?_
    refine r_iald hC sh11_27 (vpc (by decide) : vp_in 0 200) 0 (by decide) dX11_seenAt_22 ?_
    refine r_aload_n hC 1 dX11_seenAt_23 rfl rfl ?_
    refine r_iconst hC 2 dX11_seenAt_24 (by decide) ?_
    refine r_aload_n hC 1 dX11_seenAt_25 rfl rfl ?_
    refine r_getR hC 6 fl11_25 ob11 rfl dX11_seenAt_26 ?_
    refine r_iconst hC 3 dX11_seenAt_29 (by decide) ?_
    refine r_iald hC sh11_8 (vpc (by decide) : vp_in 3 5) 3 (by decide) dX11_seenAt_30 ?_
    refine r_imul hC dX11_seenAt_31 ?_
    refine r_iconst hC 1 dX11_seenAt_32 (by decide) ?_
    refine r_iadd hC dX11_seenAt_33 ?_
    refine r_callVi hC [.int ((2 * (μ.1 6 3)) + 1)] (T11_drawn  hO) yv11_drawn ml11_251 ob11 rfl ⟨Nat.le_of_ble_eq_true rfl, Nat.le_of_ble_eq_true rfl⟩ rfl rfl (Nat.le_of_ble_eq_true rfl) dX11_seenAt_34 (fun r6 μ7 hO => ?_)
    refine r_iadd hC dX11_seenAt_37 ?_
    refine r_aload_n hC 1 dX11_seenAt_38 rfl rfl ?_
    refine r_getR hC 6 fl11_25 ob11 rfl dX11_seenAt_39 ?_
    refine r_iconst hC 3 dX11_seenAt_42 (by decide) ?_
    refine r_iald hC sh11_8 (vpc (by decide) : vp_in 3 5) 3 (by decide) dX11_seenAt_43 ?_
    refine r_isub hC dX11_seenAt_44 ?_
    exact r_iret hC rfl dX11_seenAt_45 hO
set_option maxHeartbeats 4000000 in
set_option maxRecDepth 100000 in
theorem T11_hopsOn {l : Launch} {G : mw_G} {p1 : Int32} {p2 : Int32} {μ : mw_M} {Q : mw_M → Prop}  (hO : P11_hopsOn p1 p2 μ Q) : mw_Mv l G kdM yX11_hopsOn cX11_hopsOn 4 none 4 87 [.ref (mw_a G 0), .int p1, .int p2] μ (Q) := by
  refine mw_enter [(0, .ref (mw_a G 0)), (1, .int p1), (2, .int p2)] RX11 (by decide) rfl (Nat.le_of_ble_eq_true rfl) rfl ?_
  intro p e s m args below meth c hC
  unfold P11_hopsOn at hO
  refine r_aload_n hC 0 dX11_hopsOn_0 rfl rfl ?_
  refine r_callVi hC [] (T11_side  hO) yv11_side ml11_170 ob11 rfl ⟨Nat.le_of_ble_eq_true rfl, Nat.le_of_ble_eq_true rfl⟩ rfl rfl (Nat.le_of_ble_eq_true rfl) dX11_hopsOn_1 (fun r1 μ2 hO => ?_)
  obtain ⟨hO, hm⟩ := hO
  refine r_memEq hm ?_
  refine r_istore_n hC [(3, .int r1), (0, .ref (mw_a G 0)), (1, .int p1), (2, .int p2)] dX11_hopsOn_4 rfl (by decide) rfl ?_
  refine r_aload_n hC 1 dX11_hopsOn_5 rfl rfl ?_
  refine r_dup hC dX11_hopsOn_6 rfl ?_
  refine r_getI hC fl11_254 ob11 rfl dX11_hopsOn_7 ?_
  refine r_iconst hC 1 dX11_hopsOn_10 (by decide) ?_
  refine r_iadd hC dX11_hopsOn_11 ?_
  refine r_putI hC fl11_254 ob11 rfl rfl rfl dX11_hopsOn_12 ?_
  refine r_nmM (fun μ3 hμ3 => ?_)
  have hO := hO μ3 hμ3
  refine r_aload_n hC 1 dX11_hopsOn_15 rfl rfl ?_
  refine r_aload_n hC 1 dX11_hopsOn_16 rfl rfl ?_
  refine r_getI hC fl11_257 ob11 rfl dX11_hopsOn_17 ?_
  refine r_iload_n hC 0 dX11_hopsOn_20 rfl rfl ?_
  refine r_callSi hC [.int r1] (T11_cosine  hO) yv11_cosine ml11_99 ⟨Nat.le_of_ble_eq_true rfl, Nat.le_of_ble_eq_true rfl⟩ rfl rfl (Nat.le_of_ble_eq_true rfl) dX11_hopsOn_21 (fun r4 μ5 hO => ?_)
  obtain ⟨hO, hm⟩ := hO
  refine r_memEq hm ?_
  refine r_iload_n hC 3 dX11_hopsOn_24 rfl rfl ?_
  refine r_aload_n hC 1 dX11_hopsOn_25 rfl rfl ?_
  refine r_getR hC 7 fl11_28 ob11 rfl dX11_hopsOn_26 ?_
  refine r_iload_n hC 2 dX11_hopsOn_29 rfl rfl ?_
  obtain ⟨g6, hO⟩ := hO
  refine r_iald hC sh11_10 g6 p1.toNatClampNeg rfl dX11_hopsOn_30 ?_
  refine r_isub hC dX11_hopsOn_31 ?_
  refine r_imul hC dX11_hopsOn_32 ?_
  refine r_sipush hC 1000 dX11_hopsOn_33 (by decide) ?_
  refine r_idiv hC dX11_hopsOn_36 (by decide) ?_
  refine r_iadd hC dX11_hopsOn_37 ?_
  refine r_aload_n hC 1 dX11_hopsOn_38 rfl rfl ?_
  refine r_getR hC 8 fl11_31 ob11 rfl dX11_hopsOn_39 ?_
  refine r_iload_n hC 2 dX11_hopsOn_42 rfl rfl ?_
  obtain ⟨g7, hO⟩ := hO
  refine r_iald hC sh11_11 g7 p1.toNatClampNeg rfl dX11_hopsOn_43 ?_
  refine r_iadd hC dX11_hopsOn_44 ?_
  refine r_callSi hC [.int (((μ3.1 0 39) + ((r4 * (p2 - (μ3.1 7 p1.toNatClampNeg))) / 1000)) + (μ3.1 8 p1.toNatClampNeg))] (T11_heldSpot  hO) yv11_heldSpot ml11_260 ⟨Nat.le_of_ble_eq_true rfl, Nat.le_of_ble_eq_true rfl⟩ rfl rfl (Nat.le_of_ble_eq_true rfl) dX11_hopsOn_45 (fun r8 μ9 hO => ?_)
  obtain ⟨hO, hm⟩ := hO
  refine r_memEq hm ?_
  refine r_putI hC fl11_257 ob11 rfl rfl rfl dX11_hopsOn_48 ?_
  refine r_nmM (fun μ10 hμ10 => ?_)
  have hO := hO μ10 hμ10
  refine r_aload_n hC 1 dX11_hopsOn_51 rfl rfl ?_
  refine r_aload_n hC 1 dX11_hopsOn_52 rfl rfl ?_
  refine r_getI hC fl11_263 ob11 rfl dX11_hopsOn_53 ?_
  refine r_iload_n hC 0 dX11_hopsOn_56 rfl rfl ?_
  refine r_callSi hC [.int r1] (T11_sine  hO) yv11_sine ml11_154 ⟨Nat.le_of_ble_eq_true rfl, Nat.le_of_ble_eq_true rfl⟩ rfl rfl (Nat.le_of_ble_eq_true rfl) dX11_hopsOn_57 (fun r11 μ12 hO => ?_)
  obtain ⟨hO, hm⟩ := hO
  refine r_memEq hm ?_
  refine r_iload_n hC 3 dX11_hopsOn_60 rfl rfl ?_
  refine r_aload_n hC 1 dX11_hopsOn_61 rfl rfl ?_
  refine r_getR hC 7 fl11_28 ob11 rfl dX11_hopsOn_62 ?_
  refine r_iload_n hC 2 dX11_hopsOn_65 rfl rfl ?_
  obtain ⟨g13, hO⟩ := hO
  refine r_iald hC sh11_10 g13 p1.toNatClampNeg rfl dX11_hopsOn_66 ?_
  refine r_isub hC dX11_hopsOn_67 ?_
  refine r_imul hC dX11_hopsOn_68 ?_
  refine r_sipush hC 1000 dX11_hopsOn_69 (by decide) ?_
  refine r_idiv hC dX11_hopsOn_72 (by decide) ?_
  refine r_iadd hC dX11_hopsOn_73 ?_
  refine r_aload_n hC 1 dX11_hopsOn_74 rfl rfl ?_
  refine r_getR hC 9 fl11_34 ob11 rfl dX11_hopsOn_75 ?_
  refine r_iload_n hC 2 dX11_hopsOn_78 rfl rfl ?_
  obtain ⟨g14, hO⟩ := hO
  refine r_iald hC sh11_12 g14 p1.toNatClampNeg rfl dX11_hopsOn_79 ?_
  refine r_iadd hC dX11_hopsOn_80 ?_
  refine r_callSi hC [.int (((μ10.1 0 40) + ((r11 * (p2 - (μ10.1 7 p1.toNatClampNeg))) / 1000)) + (μ10.1 9 p1.toNatClampNeg))] (T11_heldSpot  hO) yv11_heldSpot ml11_260 ⟨Nat.le_of_ble_eq_true rfl, Nat.le_of_ble_eq_true rfl⟩ rfl rfl (Nat.le_of_ble_eq_true rfl) dX11_hopsOn_81 (fun r15 μ16 hO => ?_)
  obtain ⟨hO, hm⟩ := hO
  refine r_memEq hm ?_
  refine r_putI hC fl11_263 ob11 rfl rfl rfl dX11_hopsOn_84 ?_
  refine r_nmM (fun μ17 hμ17 => ?_)
  have hO := hO μ17 hμ17
  exact r_vret hC rfl dX11_hopsOn_87 hO
