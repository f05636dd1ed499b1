set_option maxHeartbeats 4000000 in
set_option maxRecDepth 100000 in
theorem T11_lumps {l : Launch} {G : mw_G} {p1 : Int32} {p2 : Int32} {p3 : Int32} {μ : mw_M} {Q : Int32 → mw_M → Prop}  (hO : P11_lumps p1 p2 p3 μ Q) : mw_Mi l G kdM yX11_lumps cX11_lumps 7 (some .int) 2 52 [.ref (mw_a G 0), .int p1, .int p2, .int p3] μ (Q) := by
  refine mw_enter [(0, .ref (mw_a G 0)), (1, .int p1), (2, .int p2), (3, .int p3)] RX11 (by decide) rfl (Nat.le_of_ble_eq_true rfl) rfl ?_
  intro p e s m args below meth c hC
  unfold P11_lumps at hO
  refine r_iload_n hC 1 dX11_lumps_0 rfl rfl ?_
  refine r_callSi hC [.int p1] (T11_isShelf  hO) yv11_isShelf ml11_126 ⟨Nat.le_of_ble_eq_true rfl, Nat.le_of_ble_eq_true rfl⟩ rfl rfl (Nat.le_of_ble_eq_true rfl) dX11_lumps_1 (fun r1 μ2 hO => ?_)
  rcases hO with ⟨hr, hO⟩ | ⟨hr, hO⟩
  · refine r_topEq hr ?_
    obtain ⟨hO, hm⟩ := hO
    refine r_memEq hm ?_
    refine r_if_eq hC 19 dX11_lumps_4 (by decide) (fun h => absurd h (by decide)) (fun _ => ?_)
    refine r_iload_n hC 3 dX11_lumps_7 rfl rfl ?_
    refine r_i2l hC dX11_lumps_8 ?_
    refine r_lconst hC 1 dX11_lumps_9 (by decide) ?_
    refine r_ldc2 hC kc11_130 dX11_lumps_10 ?_
    refine r_callSi hC [.long (Int32.toInt64 p3), .long 1, .long 12] (T11_within  hO) yv11_within ml11_106 ⟨Nat.le_of_ble_eq_true rfl, Nat.le_of_ble_eq_true rfl⟩ rfl rfl (Nat.le_of_ble_eq_true rfl) dX11_lumps_13 (fun r3 μ4 hO => ?_)
    rcases hO with ⟨hr, hO⟩ | ⟨hr, hO⟩
    · refine r_topEq hr ?_
      obtain ⟨hO, hm⟩ := hO
      refine r_memEq hm ?_
      refine r_if_ne hC 21 dX11_lumps_16 (by decide) (fun _ => ?_) (fun h => absurd h (by decide))
      refine r_aload_n hC 0 dX11_lumps_21 rfl rfl ?_
      refine r_getR hC 23 fl11_76 ob11 rfl dX11_lumps_22 ?_
      refine r_iload_n hC 1 dX11_lumps_25 rfl rfl ?_
      obtain ⟨g5, hO⟩ := hO
      refine r_iald hC sh11_59 g5 p1.toNatClampNeg rfl dX11_lumps_26 ?_
      refine r_if_lt hC 44 dX11_lumps_27 (by decide) (fun h6 => ?_) (fun h6 => ?_)
      · have hO := hO.1 h6
        refine r_iconst hC 0 dX11_lumps_44 (by decide) ?_
        refine r_istore hC [(4, .int 0), (0, .ref (mw_a G 0)), (1, .int p1), (2, .int p2), (3, .int p3)] dX11_lumps_45 (by decide) rfl ?_
        refine r_aload_n hC 1 dX11_lumps_47 rfl rfl ?_
        refine r_getR hC 23 fl11_76 ob11 rfl dX11_lumps_48 ?_
        refine r_iload_n hC 2 dX11_lumps_51 rfl rfl ?_
        obtain ⟨g7, hO⟩ := hO
        refine r_iald hC sh11_59 g7 p1.toNatClampNeg rfl dX11_lumps_52 ?_
        refine r_bipush hC 50 dX11_lumps_53 (by decide) ?_
        refine r_icmp_ne hC 66 dX11_lumps_55 (by decide) (fun h8 => ?_) (fun h8 => ?_)
        · have hO := hO.2 h8
          refine r_iconst hC 0 dX11_lumps_66 (by decide) ?_
          refine r_istore hC [(5, .int 0), (4, .int 0), (0, .ref (mw_a G 0)), (1, .int p1), (2, .int p2), (3, .int p3)] dX11_lumps_67 (by decide) rfl ?_
          have hLn12 : ∀   (n12 : Nat) (v9 : Int32) (v10 : Int32) (μ11 : mw_M), L11_lumps_69 p1 p2 p3 Q n12 v9 v10 μ11 → mw_W p l e (mw_rm 2 52) s m args below meth c G kdM 7 (MQ below (va_Qi (Q) (mw_B G kdM) (mw_A G kdM)) args s 0 0 (mw_A G kdM)) 69 [(5, .int v9), (4, .int v10), (0, .ref (mw_a G 0)), (1, .int p1), (2, .int p2), (3, .int p3)] [] μ11 := by
            intro   n12
            induction n12 with
            | zero => intro v9 v10 μ11 hO; exact False.elim hO
            | succ n12 ihn12 =>
              intro v9 v10 μ11 hO
              refine r_iload hC 0 dX11_lumps_69 rfl ?_
              refine r_if_eq hC 231 dX11_lumps_71 (by decide) (fun h13 => ?_) (fun h13 => ?_)
              · have hO := hO.1 h13
                refine r_iload hC 1 dX11_lumps_231 rfl ?_
                exact r_iret hC rfl dX11_lumps_233 hO
              · have hO := hO.2 h13
                refine r_iload hC 1 dX11_lumps_74 rfl ?_
                refine r_iload_n hC 5 dX11_lumps_76 rfl rfl ?_
                refine r_icmp_ge hC 231 dX11_lumps_77 (by decide) (fun h14 => ?_) (fun h14 => ?_)
                · have hO := hO.1 h14
                  refine r_iload hC 1 dX11_lumps_231 rfl ?_
                  exact r_iret hC rfl dX11_lumps_233 hO
                · have hO := hO.2 h14
                  refine r_iload_n hC 4 dX11_lumps_80 rfl rfl ?_
                  refine r_aload_n hC 2 dX11_lumps_81 rfl rfl ?_
                  refine r_getR hC 24 fl11_79 ob11 rfl dX11_lumps_82 ?_
                  refine r_iload_n hC 3 dX11_lumps_85 rfl rfl ?_
                  obtain ⟨g15, hO⟩ := hO
                  refine r_iald hC sh11_60 g15 p1.toNatClampNeg rfl dX11_lumps_86 ?_
                  refine r_iconst hC 4 dX11_lumps_87 (by decide) ?_
                  refine r_isub hC dX11_lumps_88 ?_
                  refine r_iconst hC 4 dX11_lumps_89 (by decide) ?_
                  refine r_iload hC 1 dX11_lumps_90 rfl ?_
                  refine r_imul hC dX11_lumps_92 ?_
                  refine r_isub hC dX11_lumps_93 ?_
                  refine r_icmp_gt hC 110 dX11_lumps_94 (by decide) (fun h16 => ?_) (fun h16 => ?_)
                  · have hO := hO.1 h16
                    refine r_iconst hC 0 dX11_lumps_110 (by decide) ?_
                    refine r_istore hC [(5, .int 0), (4, .int v10), (0, .ref (mw_a G 0)), (1, .int p1), (2, .int p2), (3, .int p3)] dX11_lumps_111 (by decide) rfl ?_
                    refine r_bipush hC 60 dX11_lumps_113 (by decide) ?_
                    refine r_iload_n hC 3 dX11_lumps_115 rfl rfl ?_
                    refine r_imul hC dX11_lumps_116 ?_
                    refine r_iload_n hC 4 dX11_lumps_117 rfl rfl ?_
                    refine r_iadd hC dX11_lumps_118 ?_
                    refine r_iconst hC 4 dX11_lumps_119 (by decide) ?_
                    refine r_iload hC 1 dX11_lumps_120 rfl ?_
                    refine r_imul hC dX11_lumps_122 ?_
                    refine r_iadd hC dX11_lumps_123 ?_
                    refine r_nmI (fun x17 hx17 => ?_)
                    have hO := hO x17 hx17
                    refine r_istore hC [(6, .int x17), (5, .int 0), (4, .int v10), (0, .ref (mw_a G 0)), (1, .int p1), (2, .int p2), (3, .int p3)] dX11_lumps_124 (by decide) rfl ?_
                    refine r_iload hC 1 dX11_lumps_126 rfl ?_
                    refine r_if_eq hC 175 dX11_lumps_128 (by decide) (fun _ => ?_) (fun h => absurd (by decide) h)
                    refine r_iconst hC 0 dX11_lumps_175 (by decide) ?_
                    refine r_istore hC [(5, .int 0), (6, .int x17), (4, .int v10), (0, .ref (mw_a G 0)), (1, .int p1), (2, .int p2), (3, .int p3)] dX11_lumps_176 (by decide) rfl ?_
                    refine r_iload hC 0 dX11_lumps_178 rfl ?_
                    refine r_if_eq hC 228 dX11_lumps_180 (by decide) (fun _ => ?_) (fun h => absurd (by decide) h)
                    refine r_goto hC 69 dX11_lumps_228 (by decide) ?_
                    refine r_lv hC [(5, .int 0), (4, .int v10), (0, .ref (mw_a G 0)), (1, .int p1), (2, .int p2), (3, .int p3)] [0, 2, 3, 4, 5, 6] rfl ?_
                    exact ihn12 0 v10 μ11 hO
                  · have hO := hO.2 h16
                    refine r_aload_n hC 2 dX11_lumps_97 rfl rfl ?_
                    refine r_getI hC fl11_103 ob11 rfl dX11_lumps_98 ?_
                    refine r_bipush hC 12 dX11_lumps_101 (by decide) ?_
                    refine r_icmp_ge hC 110 dX11_lumps_103 (by decide) (fun h18 => ?_) (fun h18 => ?_)
                    · have hO := hO.1 h18
                      refine r_iconst hC 0 dX11_lumps_110 (by decide) ?_
                      refine r_istore hC [(5, .int 0), (4, .int v10), (0, .ref (mw_a G 0)), (1, .int p1), (2, .int p2), (3, .int p3)] dX11_lumps_111 (by decide) rfl ?_
                      refine r_bipush hC 60 dX11_lumps_113 (by decide) ?_
                      refine r_iload_n hC 3 dX11_lumps_115 rfl rfl ?_
                      refine r_imul hC dX11_lumps_116 ?_
                      refine r_iload_n hC 4 dX11_lumps_117 rfl rfl ?_
                      refine r_iadd hC dX11_lumps_118 ?_
                      refine r_iconst hC 4 dX11_lumps_119 (by decide) ?_
                      refine r_iload hC 1 dX11_lumps_120 rfl ?_
                      refine r_imul hC dX11_lumps_122 ?_
                      refine r_iadd hC dX11_lumps_123 ?_
                      refine r_nmI (fun x19 hx19 => ?_)
                      have hO := hO x19 hx19
                      refine r_istore hC [(6, .int x19), (5, .int 0), (4, .int v10), (0, .ref (mw_a G 0)), (1, .int p1), (2, .int p2), (3, .int p3)] dX11_lumps_124 (by decide) rfl ?_
                      refine r_iload hC 1 dX11_lumps_126 rfl ?_
                      refine r_if_eq hC 175 dX11_lumps_128 (by decide) (fun _ => ?_) (fun h => absurd (by decide) h)
                      refine r_iconst hC 0 dX11_lumps_175 (by decide) ?_
                      refine r_istore hC [(5, .int 0), (6, .int x19), (4, .int v10), (0, .ref (mw_a G 0)), (1, .int p1), (2, .int p2), (3, .int p3)] dX11_lumps_176 (by decide) rfl ?_
                      refine r_iload hC 0 dX11_lumps_178 rfl ?_
                      refine r_if_eq hC 228 dX11_lumps_180 (by decide) (fun _ => ?_) (fun h => absurd (by decide) h)
                      refine r_goto hC 69 dX11_lumps_228 (by decide) ?_
                      refine r_lv hC [(5, .int 0), (4, .int v10), (0, .ref (mw_a G 0)), (1, .int p1), (2, .int p2), (3, .int p3)] [0, 2, 3, 4, 5, 6] rfl ?_
                      exact ihn12 0 v10 μ11 hO
                    · have hO := hO.2 h18
                      refine r_iconst hC 1 dX11_lumps_106 (by decide) ?_
                      refine r_goto hC 111 dX11_lumps_107 (by decide) ?_
                      refine r_istore hC [(5, .int 1), (4, .int v10), (0, .ref (mw_a G 0)), (1, .int p1), (2, .int p2), (3, .int p3)] dX11_lumps_111 (by decide) rfl ?_
                      refine r_bipush hC 60 dX11_lumps_113 (by decide) ?_
                      refine r_iload_n hC 3 dX11_lumps_115 rfl rfl ?_
                      refine r_imul hC dX11_lumps_116 ?_
                      refine r_iload_n hC 4 dX11_lumps_117 rfl rfl ?_
                      refine r_iadd hC dX11_lumps_118 ?_
                      refine r_iconst hC 4 dX11_lumps_119 (by decide) ?_
                      refine r_iload hC 1 dX11_lumps_120 rfl ?_
                      refine r_imul hC dX11_lumps_122 ?_
                      refine r_iadd hC dX11_lumps_123 ?_
                      refine r_nmI (fun x20 hx20 => ?_)
                      have hO := hO x20 hx20
                      refine r_istore hC [(6, .int x20), (5, .int 1), (4, .int v10), (0, .ref (mw_a G 0)), (1, .int p1), (2, .int p2), (3, .int p3)] dX11_lumps_124 (by decide) rfl ?_
                      refine r_iload hC 1 dX11_lumps_126 rfl ?_
                      refine r_if_eq hC 175 dX11_lumps_128 (by decide) (fun h => absurd h (by decide)) (fun _ => ?_)
                      refine r_aload_n hC 3 dX11_lumps_131 rfl rfl ?_
                      refine r_getR hC 25 fl11_82 ob11 rfl dX11_lumps_132 ?_
                      refine r_iload hC 0 dX11_lumps_135 rfl ?_
                      obtain ⟨g21, hO⟩ := hO
                      refine r_lald hC sh11_61 g21 x20.toNatClampNeg rfl dX11_lumps_137 ?_
                      refine r_aload_n hC 3 dX11_lumps_138 rfl rfl ?_
                      refine r_getR hC 25 fl11_82 ob11 rfl dX11_lumps_139 ?_
                      refine r_iload hC 0 dX11_lumps_142 rfl ?_
                      refine r_iconst hC 1 dX11_lumps_144 (by decide) ?_
                      refine r_iadd hC dX11_lumps_145 ?_
                      obtain ⟨g22, hO⟩ := hO
                      refine r_lald hC sh11_61 g22 ((x20 + 1).toNatClampNeg) rfl dX11_lumps_146 ?_
                      refine r_aload_n hC 3 dX11_lumps_147 rfl rfl ?_
                      refine r_getR hC 25 fl11_82 ob11 rfl dX11_lumps_148 ?_
                      refine r_iload hC 0 dX11_lumps_151 rfl ?_
                      refine r_iconst hC 2 dX11_lumps_153 (by decide) ?_
                      refine r_iadd hC dX11_lumps_154 ?_
                      obtain ⟨g23, hO⟩ := hO
                      refine r_lald hC sh11_61 g23 ((x20 + 2).toNatClampNeg) rfl dX11_lumps_155 ?_
                      refine r_aload_n hC 3 dX11_lumps_156 rfl rfl ?_
                      refine r_getR hC 25 fl11_82 ob11 rfl dX11_lumps_157 ?_
                      refine r_iload hC 0 dX11_lumps_160 rfl ?_
                      refine r_iconst hC 3 dX11_lumps_162 (by decide) ?_
                      refine r_iadd hC dX11_lumps_163 ?_
                      obtain ⟨g24, hO⟩ := hO
                      refine r_lald hC sh11_61 g24 ((x20 + 3).toNatClampNeg) rfl dX11_lumps_164 ?_
                      refine r_callSi hC [.long (μ11.2 25 x20.toNatClampNeg), .long (μ11.2 25 ((x20 + 1).toNatClampNeg)), .long (μ11.2 25 ((x20 + 2).toNatClampNeg)), .long (μ11.2 25 ((x20 + 3).toNatClampNeg))] (T11_isOne  hO) yv11_isOne ml11_118 ⟨Nat.le_of_ble_eq_true rfl, Nat.le_of_ble_eq_true rfl⟩ rfl rfl (Nat.le_of_ble_eq_true rfl) dX11_lumps_165 (fun r25 μ26 hO => ?_)
                      rcases hO with ⟨hr, hO⟩ | ⟨hr, hO⟩
                      · refine r_topEq hr ?_
                        obtain ⟨hO, hm⟩ := hO
                        refine r_memEq hm ?_
                        refine r_if_eq hC 175 dX11_lumps_168 (by decide) (fun h => absurd h (by decide)) (fun _ => ?_)
                        refine r_iconst hC 1 dX11_lumps_171 (by decide) ?_
                        refine r_goto hC 176 dX11_lumps_172 (by decide) ?_
                        refine r_istore hC [(5, .int 1), (6, .int x20), (4, .int v10), (0, .ref (mw_a G 0)), (1, .int p1), (2, .int p2), (3, .int p3)] dX11_lumps_176 (by decide) rfl ?_
                        refine r_iload hC 0 dX11_lumps_178 rfl ?_
                        refine r_if_eq hC 228 dX11_lumps_180 (by decide) (fun h => absurd h (by decide)) (fun _ => ?_)
                        refine r_aload_n hC 3 dX11_lumps_183 rfl rfl ?_
                        refine r_aload_n hC 3 dX11_lumps_184 rfl rfl ?_
                        refine r_getR hC 25 fl11_82 ob11 rfl dX11_lumps_185 ?_
                        refine r_iload hC 1 dX11_lumps_188 rfl ?_
                        obtain ⟨g27, hO⟩ := hO
                        refine r_lald hC sh11_61 g27 x20.toNatClampNeg rfl dX11_lumps_190 ?_
                        refine r_l2i hC dX11_lumps_191 ?_
                        refine r_aload_n hC 3 dX11_lumps_192 rfl rfl ?_
                        refine r_getR hC 25 fl11_82 ob11 rfl dX11_lumps_193 ?_
                        refine r_iload hC 1 dX11_lumps_196 rfl ?_
                        refine r_iconst hC 1 dX11_lumps_198 (by decide) ?_
                        refine r_iadd hC dX11_lumps_199 ?_
                        obtain ⟨g28, hO⟩ := hO
                        refine r_lald hC sh11_61 g28 ((x20 + 1).toNatClampNeg) rfl dX11_lumps_200 ?_
                        refine r_l2i hC dX11_lumps_201 ?_
                        refine r_aload_n hC 3 dX11_lumps_202 rfl rfl ?_
                        refine r_getR hC 25 fl11_82 ob11 rfl dX11_lumps_203 ?_
                        refine r_iload hC 1 dX11_lumps_206 rfl ?_
                        refine r_iconst hC 2 dX11_lumps_208 (by decide) ?_
                        refine r_iadd hC dX11_lumps_209 ?_
                        obtain ⟨g29, hO⟩ := hO
                        refine r_lald hC sh11_61 g29 ((x20 + 2).toNatClampNeg) rfl dX11_lumps_210 ?_
                        refine r_l2i hC dX11_lumps_211 ?_
                        refine r_aload_n hC 3 dX11_lumps_212 rfl rfl ?_
                        refine r_getR hC 25 fl11_82 ob11 rfl dX11_lumps_213 ?_
                        refine r_iload hC 1 dX11_lumps_216 rfl ?_
                        refine r_iconst hC 3 dX11_lumps_218 (by decide) ?_
                        refine r_iadd hC dX11_lumps_219 ?_
                        obtain ⟨g30, hO⟩ := hO
                        refine r_lald hC sh11_61 g30 ((x20 + 3).toNatClampNeg) rfl dX11_lumps_220 ?_
                        refine r_l2i hC dX11_lumps_221 ?_
                        refine r_callVv hC [.int (Int64.toInt32 (μ11.2 25 x20.toNatClampNeg)), .int (Int64.toInt32 (μ11.2 25 ((x20 + 1).toNatClampNeg))), .int (Int64.toInt32 (μ11.2 25 ((x20 + 2).toNatClampNeg))), .int (Int64.toInt32 (μ11.2 25 ((x20 + 3).toNatClampNeg)))] (T11_adds  hO) yv11_adds ml11_122 ob11 rfl ⟨Nat.le_of_ble_eq_true rfl, Nat.le_of_ble_eq_true rfl⟩ rfl rfl (Nat.le_of_ble_eq_true rfl) dX11_lumps_222 (fun μ31 hO => ?_)
                        obtain ⟨x32, hx32⟩ : ∃ y : Int32, y = v10 + 1 := ⟨_, rfl⟩
                        have hO := hO x32 hx32
                        refine r_iinc hC x32 2 [(4, .int x32), (5, .int 1), (6, .int x20), (0, .ref (mw_a G 0)), (1, .int p1), (2, .int p2), (3, .int p3)] dX11_lumps_225 rfl (by rw [hx32]; rfl) (by decide) rfl ?_
                        refine r_goto hC 69 dX11_lumps_228 (by decide) ?_
                        refine r_lv hC [(5, .int 1), (4, .int x32), (0, .ref (mw_a G 0)), (1, .int p1), (2, .int p2), (3, .int p3)] [1, 0, 3, 4, 5, 6] rfl ?_
                        exact ihn12 1 x32 μ31 hO
                      · refine r_topEq hr ?_
                        obtain ⟨hO, hm⟩ := hO
                        refine r_memEq hm ?_
                        refine r_if_eq hC 175 dX11_lumps_168 (by decide) (fun _ => ?_) (fun h => absurd (by decide) h)
                        refine r_iconst hC 0 dX11_lumps_175 (by decide) ?_
                        refine r_istore hC [(5, .int 0), (6, .int x20), (4, .int v10), (0, .ref (mw_a G 0)), (1, .int p1), (2, .int p2), (3, .int p3)] dX11_lumps_176 (by decide) rfl ?_
                        refine r_iload hC 0 dX11_lumps_178 rfl ?_
                        refine r_if_eq hC 228 dX11_lumps_180 (by decide) (fun _ => ?_) (fun h => absurd (by decide) h)
                        refine r_goto hC 69 dX11_lumps_228 (by decide) ?_
                        refine r_lv hC [(5, .int 0), (4, .int v10), (0, .ref (mw_a G 0)), (1, .int p1), (2, .int p2), (3, .int p3)] [0, 2, 3, 4, 5, 6] rfl ?_
                        exact ihn12 0 v10 μ11 hO
          obtain ⟨n12, hO⟩ := hO
          refine hLn12   n12 _ _ _ hO
        · have hO := hO.1 h8
          refine r_iload_n hC 3 dX11_lumps_58 rfl rfl ?_
          refine r_if_lt hC 66 dX11_lumps_59 (by decide) (fun h33 => ?_) (fun h33 => ?_)
          · have hO := hO.1 h33
            refine r_iconst hC 0 dX11_lumps_66 (by decide) ?_
            refine r_istore hC [(5, .int 0), (4, .int 0), (0, .ref (mw_a G 0)), (1, .int p1), (2, .int p2), (3, .int p3)] dX11_lumps_67 (by decide) rfl ?_
            have hLn37 : ∀   (n37 : Nat) (v34 : Int32) (v35 : Int32) (μ36 : mw_M), L11_lumps_69 p1 p2 p3 Q n37 v34 v35 μ36 → mw_W p l e (mw_rm 2 52) s m args below meth c G kdM 7 (MQ below (va_Qi (Q) (mw_B G kdM) (mw_A G kdM)) args s 0 0 (mw_A G kdM)) 69 [(5, .int v34), (4, .int v35), (0, .ref (mw_a G 0)), (1, .int p1), (2, .int p2), (3, .int p3)] [] μ36 := by
              intro   n37
              induction n37 with
              | zero => intro v34 v35 μ36 hO; exact False.elim hO
              | succ n37 ihn37 =>
                intro v34 v35 μ36 hO
                refine r_iload hC 0 dX11_lumps_69 rfl ?_
                refine r_if_eq hC 231 dX11_lumps_71 (by decide) (fun h38 => ?_) (fun h38 => ?_)
                · have hO := hO.1 h38
                  refine r_iload hC 1 dX11_lumps_231 rfl ?_
                  exact r_iret hC rfl dX11_lumps_233 hO
                · have hO := hO.2 h38
                  refine r_iload hC 1 dX11_lumps_74 rfl ?_
                  refine r_iload_n hC 5 dX11_lumps_76 rfl rfl ?_
                  refine r_icmp_ge hC 231 dX11_lumps_77 (by decide) (fun h39 => ?_) (fun h39 => ?_)
                  · have hO := hO.1 h39
                    refine r_iload hC 1 dX11_lumps_231 rfl ?_
                    exact r_iret hC rfl dX11_lumps_233 hO
                  · have hO := hO.2 h39
                    refine r_iload_n hC 4 dX11_lumps_80 rfl rfl ?_
                    refine r_aload_n hC 2 dX11_lumps_81 rfl rfl ?_
                    refine r_getR hC 24 fl11_79 ob11 rfl dX11_lumps_82 ?_
                    refine r_iload_n hC 3 dX11_lumps_85 rfl rfl ?_
                    obtain ⟨g40, hO⟩ := hO
                    refine r_iald hC sh11_60 g40 p1.toNatClampNeg rfl dX11_lumps_86 ?_
                    refine r_iconst hC 4 dX11_lumps_87 (by decide) ?_
                    refine r_isub hC dX11_lumps_88 ?_
                    refine r_iconst hC 4 dX11_lumps_89 (by decide) ?_
                    refine r_iload hC 1 dX11_lumps_90 rfl ?_
                    refine r_imul hC dX11_lumps_92 ?_
                    refine r_isub hC dX11_lumps_93 ?_
                    refine r_icmp_gt hC 110 dX11_lumps_94 (by decide) (fun h41 => ?_) (fun h41 => ?_)
                    · have hO := hO.1 h41
                      refine r_iconst hC 0 dX11_lumps_110 (by decide) ?_
                      refine r_istore hC [(5, .int 0), (4, .int v35), (0, .ref (mw_a G 0)), (1, .int p1), (2, .int p2), (3, .int p3)] dX11_lumps_111 (by decide) rfl ?_
                      refine r_bipush hC 60 dX11_lumps_113 (by decide) ?_
                      refine r_iload_n hC 3 dX11_lumps_115 rfl rfl ?_
                      refine r_imul hC dX11_lumps_116 ?_
                      refine r_iload_n hC 4 dX11_lumps_117 rfl rfl ?_
                      refine r_iadd hC dX11_lumps_118 ?_
                      refine r_iconst hC 4 dX11_lumps_119 (by decide) ?_
                      refine r_iload hC 1 dX11_lumps_120 rfl ?_
                      refine r_imul hC dX11_lumps_122 ?_
                      refine r_iadd hC dX11_lumps_123 ?_
                      refine r_nmI (fun x42 hx42 => ?_)
                      have hO := hO x42 hx42
                      refine r_istore hC [(6, .int x42), (5, .int 0), (4, .int v35), (0, .ref (mw_a G 0)), (1, .int p1), (2, .int p2), (3, .int p3)] dX11_lumps_124 (by decide) rfl ?_
                      refine r_iload hC 1 dX11_lumps_126 rfl ?_
                      refine r_if_eq hC 175 dX11_lumps_128 (by decide) (fun _ => ?_) (fun h => absurd (by decide) h)
                      refine r_iconst hC 0 dX11_lumps_175 (by decide) ?_
                      refine r_istore hC [(5, .int 0), (6, .int x42), (4, .int v35), (0, .ref (mw_a G 0)), (1, .int p1), (2, .int p2), (3, .int p3)] dX11_lumps_176 (by decide) rfl ?_
                      refine r_iload hC 0 dX11_lumps_178 rfl ?_
                      refine r_if_eq hC 228 dX11_lumps_180 (by decide) (fun _ => ?_) (fun h => absurd (by decide) h)
                      refine r_goto hC 69 dX11_lumps_228 (by decide) ?_
                      refine r_lv hC [(5, .int 0), (4, .int v35), (0, .ref (mw_a G 0)), (1, .int p1), (2, .int p2), (3, .int p3)] [0, 2, 3, 4, 5, 6] rfl ?_
                      exact ihn37 0 v35 μ36 hO
                    · have hO := hO.2 h41
                      refine r_aload_n hC 2 dX11_lumps_97 rfl rfl ?_
                      refine r_getI hC fl11_103 ob11 rfl dX11_lumps_98 ?_
                      refine r_bipush hC 12 dX11_lumps_101 (by decide) ?_
                      refine r_icmp_ge hC 110 dX11_lumps_103 (by decide) (fun h43 => ?_) (fun h43 => ?_)
                      · have hO := hO.1 h43
                        refine r_iconst hC 0 dX11_lumps_110 (by decide) ?_
                        refine r_istore hC [(5, .int 0), (4, .int v35), (0, .ref (mw_a G 0)), (1, .int p1), (2, .int p2), (3, .int p3)] dX11_lumps_111 (by decide) rfl ?_
                        refine r_bipush hC 60 dX11_lumps_113 (by decide) ?_
                        refine r_iload_n hC 3 dX11_lumps_115 rfl rfl ?_
                        refine r_imul hC dX11_lumps_116 ?_
                        refine r_iload_n hC 4 dX11_lumps_117 rfl rfl ?_
                        refine r_iadd hC dX11_lumps_118 ?_
                        refine r_iconst hC 4 dX11_lumps_119 (by decide) ?_
                        refine r_iload hC 1 dX11_lumps_120 rfl ?_
                        refine r_imul hC dX11_lumps_122 ?_
                        refine r_iadd hC dX11_lumps_123 ?_
                        refine r_nmI (fun x44 hx44 => ?_)
                        have hO := hO x44 hx44
                        refine r_istore hC [(6, .int x44), (5, .int 0), (4, .int v35), (0, .ref (mw_a G 0)), (1, .int p1), (2, .int p2), (3, .int p3)] dX11_lumps_124 (by decide) rfl ?_
                        refine r_iload hC 1 dX11_lumps_126 rfl ?_
                        refine r_if_eq hC 175 dX11_lumps_128 (by decide) (fun _ => ?_) (fun h => absurd (by decide) h)
                        refine r_iconst hC 0 dX11_lumps_175 (by decide) ?_
                        refine r_istore hC [(5, .int 0), (6, .int x44), (4, .int v35), (0, .ref (mw_a G 0)), (1, .int p1), (2, .int p2), (3, .int p3)] dX11_lumps_176 (by decide) rfl ?_
                        refine r_iload hC 0 dX11_lumps_178 rfl ?_
                        refine r_if_eq hC 228 dX11_lumps_180 (by decide) (fun _ => ?_) (fun h => absurd (by decide) h)
                        refine r_goto hC 69 dX11_lumps_228 (by decide) ?_
                        refine r_lv hC [(5, .int 0), (4, .int v35), (0, .ref (mw_a G 0)), (1, .int p1), (2, .int p2), (3, .int p3)] [0, 2, 3, 4, 5, 6] rfl ?_
                        exact ihn37 0 v35 μ36 hO
                      · have hO := hO.2 h43
                        refine r_iconst hC 1 dX11_lumps_106 (by decide) ?_
                        refine r_goto hC 111 dX11_lumps_107 (by decide) ?_
                        refine r_istore hC [(5, .int 1), (4, .int v35), (0, .ref (mw_a G 0)), (1, .int p1), (2, .int p2), (3, .int p3)] dX11_lumps_111 (by decide) rfl ?_
                        refine r_bipush hC 60 dX11_lumps_113 (by decide) ?_
                        refine r_iload_n hC 3 dX11_lumps_115 rfl rfl ?_
                        refine r_imul hC dX11_lumps_116 ?_
                        refine r_iload_n hC 4 dX11_lumps_117 rfl rfl ?_
                        refine r_iadd hC dX11_lumps_118 ?_
                        refine r_iconst hC 4 dX11_lumps_119 (by decide) ?_
                        refine r_iload hC 1 dX11_lumps_120 rfl ?_
                        refine r_imul hC dX11_lumps_122 ?_
                        refine r_iadd hC dX11_lumps_123 ?_
                        refine r_nmI (fun x45 hx45 => ?_)
                        have hO := hO x45 hx45
                        refine r_istore hC [(6, .int x45), (5, .int 1), (4, .int v35), (0, .ref (mw_a G 0)), (1, .int p1), (2, .int p2), (3, .int p3)] dX11_lumps_124 (by decide) rfl ?_
                        refine r_iload hC 1 dX11_lumps_126 rfl ?_
                        refine r_if_eq hC 175 dX11_lumps_128 (by decide) (fun h => absurd h (by decide)) (fun _ => ?_)
                        refine r_aload_n hC 3 dX11_lumps_131 rfl rfl ?_
                        refine r_getR hC 25 fl11_82 ob11 rfl dX11_lumps_132 ?_
                        refine r_iload hC 0 dX11_lumps_135 rfl ?_
                        obtain ⟨g46, hO⟩ := hO
                        refine r_lald hC sh11_61 g46 x45.toNatClampNeg rfl dX11_lumps_137 ?_
                        refine r_aload_n hC 3 dX11_lumps_138 rfl rfl ?_
                        refine r_getR hC 25 fl11_82 ob11 rfl dX11_lumps_139 ?_
                        refine r_iload hC 0 dX11_lumps_142 rfl ?_
                        refine r_iconst hC 1 dX11_lumps_144 (by decide) ?_
                        refine r_iadd hC dX11_lumps_145 ?_
                        obtain ⟨g47, hO⟩ := hO
                        refine r_lald hC sh11_61 g47 ((x45 + 1).toNatClampNeg) rfl dX11_lumps_146 ?_
                        refine r_aload_n hC 3 dX11_lumps_147 rfl rfl ?_
                        refine r_getR hC 25 fl11_82 ob11 rfl dX11_lumps_148 ?_
                        refine r_iload hC 0 dX11_lumps_151 rfl ?_
                        refine r_iconst hC 2 dX11_lumps_153 (by decide) ?_
                        refine r_iadd hC dX11_lumps_154 ?_
                        obtain ⟨g48, hO⟩ := hO
                        refine r_lald hC sh11_61 g48 ((x45 + 2).toNatClampNeg) rfl dX11_lumps_155 ?_
                        refine r_aload_n hC 3 dX11_lumps_156 rfl rfl ?_
                        refine r_getR hC 25 fl11_82 ob11 rfl dX11_lumps_157 ?_
                        refine r_iload hC 0 dX11_lumps_160 rfl ?_
                        refine r_iconst hC 3 dX11_lumps_162 (by decide) ?_
                        refine r_iadd hC dX11_lumps_163 ?_
                        obtain ⟨g49, hO⟩ := hO
                        refine r_lald hC sh11_61 g49 ((x45 + 3).toNatClampNeg) rfl dX11_lumps_164 ?_
                        refine r_callSi hC [.long (μ36.2 25 x45.toNatClampNeg), .long (μ36.2 25 ((x45 + 1).toNatClampNeg)), .long (μ36.2 25 ((x45 + 2).toNatClampNeg)), .long (μ36.2 25 ((x45 + 3).toNatClampNeg))] (T11_isOne  hO) yv11_isOne ml11_118 ⟨Nat.le_of_ble_eq_true rfl, Nat.le_of_ble_eq_true rfl⟩ rfl rfl (Nat.le_of_ble_eq_true rfl) dX11_lumps_165 (fun r50 μ51 hO => ?_)
                        rcases hO with ⟨hr, hO⟩ | ⟨hr, hO⟩
                        · refine r_topEq hr ?_
                          obtain ⟨hO, hm⟩ := hO
                          refine r_memEq hm ?_
                          refine r_if_eq hC 175 dX11_lumps_168 (by decide) (fun h => absurd h (by decide)) (fun _ => ?_)
                          refine r_iconst hC 1 dX11_lumps_171 (by decide) ?_
                          refine r_goto hC 176 dX11_lumps_172 (by decide) ?_
                          refine r_istore hC [(5, .int 1), (6, .int x45), (4, .int v35), (0, .ref (mw_a G 0)), (1, .int p1), (2, .int p2), (3, .int p3)] dX11_lumps_176 (by decide) rfl ?_
                          refine r_iload hC 0 dX11_lumps_178 rfl ?_
                          refine r_if_eq hC 228 dX11_lumps_180 (by decide) (fun h => absurd h (by decide)) (fun _ => ?_)
                          refine r_aload_n hC 3 dX11_lumps_183 rfl rfl ?_
                          refine r_aload_n hC 3 dX11_lumps_184 rfl rfl ?_
                          refine r_getR hC 25 fl11_82 ob11 rfl dX11_lumps_185 ?_
                          refine r_iload hC 1 dX11_lumps_188 rfl ?_
                          obtain ⟨g52, hO⟩ := hO
                          refine r_lald hC sh11_61 g52 x45.toNatClampNeg rfl dX11_lumps_190 ?_
                          refine r_l2i hC dX11_lumps_191 ?_
                          refine r_aload_n hC 3 dX11_lumps_192 rfl rfl ?_
                          refine r_getR hC 25 fl11_82 ob11 rfl dX11_lumps_193 ?_
                          refine r_iload hC 1 dX11_lumps_196 rfl ?_
                          refine r_iconst hC 1 dX11_lumps_198 (by decide) ?_
                          refine r_iadd hC dX11_lumps_199 ?_
                          obtain ⟨g53, hO⟩ := hO
                          refine r_lald hC sh11_61 g53 ((x45 + 1).toNatClampNeg) rfl dX11_lumps_200 ?_
                          refine r_l2i hC dX11_lumps_201 ?_
                          refine r_aload_n hC 3 dX11_lumps_202 rfl rfl ?_
                          refine r_getR hC 25 fl11_82 ob11 rfl dX11_lumps_203 ?_
                          refine r_iload hC 1 dX11_lumps_206 rfl ?_
                          refine r_iconst hC 2 dX11_lumps_208 (by decide) ?_
                          refine r_iadd hC dX11_lumps_209 ?_
                          obtain ⟨g54, hO⟩ := hO
                          refine r_lald hC sh11_61 g54 ((x45 + 2).toNatClampNeg) rfl dX11_lumps_210 ?_
                          refine r_l2i hC dX11_lumps_211 ?_
                          refine r_aload_n hC 3 dX11_lumps_212 rfl rfl ?_
                          refine r_getR hC 25 fl11_82 ob11 rfl dX11_lumps_213 ?_
                          refine r_iload hC 1 dX11_lumps_216 rfl ?_
                          refine r_iconst hC 3 dX11_lumps_218 (by decide) ?_
                          refine r_iadd hC dX11_lumps_219 ?_
                          obtain ⟨g55, hO⟩ := hO
                          refine r_lald hC sh11_61 g55 ((x45 + 3).toNatClampNeg) rfl dX11_lumps_220 ?_
                          refine r_l2i hC dX11_lumps_221 ?_
                          refine r_callVv hC [.int (Int64.toInt32 (μ36.2 25 x45.toNatClampNeg)), .int (Int64.toInt32 (μ36.2 25 ((x45 + 1).toNatClampNeg))), .int (Int64.toInt32 (μ36.2 25 ((x45 + 2).toNatClampNeg))), .int (Int64.toInt32 (μ36.2 25 ((x45 + 3).toNatClampNeg)))] (T11_adds  hO) yv11_adds ml11_122 ob11 rfl ⟨Nat.le_of_ble_eq_true rfl, Nat.le_of_ble_eq_true rfl⟩ rfl rfl (Nat.le_of_ble_eq_true rfl) dX11_lumps_222 (fun μ56 hO => ?_)
                          obtain ⟨x57, hx57⟩ : ∃ y : Int32, y = v35 + 1 := ⟨_, rfl⟩
                          have hO := hO x57 hx57
                          refine r_iinc hC x57 2 [(4, .int x57), (5, .int 1), (6, .int x45), (0, .ref (mw_a G 0)), (1, .int p1), (2, .int p2), (3, .int p3)] dX11_lumps_225 rfl (by rw [hx57]; rfl) (by decide) rfl ?_
                          refine r_goto hC 69 dX11_lumps_228 (by decide) ?_
                          refine r_lv hC [(5, .int 1), (4, .int x57), (0, .ref (mw_a G 0)), (1, .int p1), (2, .int p2), (3, .int p3)] [1, 0, 3, 4, 5, 6] rfl ?_
                          exact ihn37 1 x57 μ56 hO
                        · refine r_topEq hr ?_
                          obtain ⟨hO, hm⟩ := hO
                          refine r_memEq hm ?_
                          refine r_if_eq hC 175 dX11_lumps_168 (by decide) (fun _ => ?_) (fun h => absurd (by decide) h)
                          refine r_iconst hC 0 dX11_lumps_175 (by decide) ?_
                          refine r_istore hC [(5, .int 0), (6, .int x45), (4, .int v35), (0, .ref (mw_a G 0)), (1, .int p1), (2, .int p2), (3, .int p3)] dX11_lumps_176 (by decide) rfl ?_
                          refine r_iload hC 0 dX11_lumps_178 rfl ?_
                          refine r_if_eq hC 228 dX11_lumps_180 (by decide) (fun _ => ?_) (fun h => absurd (by decide) h)
                          refine r_goto hC 69 dX11_lumps_228 (by decide) ?_
                          refine r_lv hC [(5, .int 0), (4, .int v35), (0, .ref (mw_a G 0)), (1, .int p1), (2, .int p2), (3, .int p3)] [0, 2, 3, 4, 5, 6] rfl ?_
                          exact ihn37 0 v35 μ36 hO
            obtain ⟨n37, hO⟩ := hO
            refine hLn37   n37 _ _ _ hO
          · have hO := hO.2 h33
            refine r_iconst hC 1 dX11_lumps_62 (by decide) ?_
            refine r_goto hC 67 dX11_lumps_63 (by decide) ?_
            refine r_istore hC [(5, .int 1), (4, .int 0), (0, .ref (mw_a G 0)), (1, .int p1), (2, .int p2), (3, .int p3)] dX11_lumps_67 (by decide) rfl ?_
            have hLn61 : ∀   (n61 : Nat) (v58 : Int32) (v59 : Int32) (μ60 : mw_M), L11_lumps_69 p1 p2 p3 Q n61 v58 v59 μ60 → mw_W p l e (mw_rm 2 52) s m args below meth c G kdM 7 (MQ below (va_Qi (Q) (mw_B G kdM) (mw_A G kdM)) args s 0 0 (mw_A G kdM)) 69 [(5, .int v58), (4, .int v59), (0, .ref (mw_a G 0)), (1, .int p1), (2, .int p2), (3, .int p3)] [] μ60 := by
              intro   n61
              induction n61 with
              | zero => intro v58 v59 μ60 hO; exact False.elim hO
              | succ n61 ihn61 =>
                intro v58 v59 μ60 hO
                refine r_iload hC 0 dX11_lumps_69 rfl ?_
                refine r_if_eq hC 231 dX11_lumps_71 (by decide) (fun h62 => ?_) (fun h62 => ?_)
                · have hO := hO.1 h62
                  refine r_iload hC 1 dX11_lumps_231 rfl ?_
                  exact r_iret hC rfl dX11_lumps_233 hO
                · have hO := hO.2 h62
                  refine r_iload hC 1 dX11_lumps_74 rfl ?_
                  refine r_iload_n hC 5 dX11_lumps_76 rfl rfl ?_
                  refine r_icmp_ge hC 231 dX11_lumps_77 (by decide) (fun h63 => ?_) (fun h63 => ?_)
                  · have hO := hO.1 h63
                    refine r_iload hC 1 dX11_lumps_231 rfl ?_
                    exact r_iret hC rfl dX11_lumps_233 hO
                  · have hO := hO.2 h63
                    refine r_iload_n hC 4 dX11_lumps_80 rfl rfl ?_
                    refine r_aload_n hC 2 dX11_lumps_81 rfl rfl ?_
                    refine r_getR hC 24 fl11_79 ob11 rfl dX11_lumps_82 ?_
                    refine r_iload_n hC 3 dX11_lumps_85 rfl rfl ?_
                    obtain ⟨g64, hO⟩ := hO
                    refine r_iald hC sh11_60 g64 p1.toNatClampNeg rfl dX11_lumps_86 ?_
                    refine r_iconst hC 4 dX11_lumps_87 (by decide) ?_
                    refine r_isub hC dX11_lumps_88 ?_
                    refine r_iconst hC 4 dX11_lumps_89 (by decide) ?_
                    refine r_iload hC 1 dX11_lumps_90 rfl ?_
                    refine r_imul hC dX11_lumps_92 ?_
                    refine r_isub hC dX11_lumps_93 ?_
                    refine r_icmp_gt hC 110 dX11_lumps_94 (by decide) (fun h65 => ?_) (fun h65 => ?_)
                    · have hO := hO.1 h65
                      refine r_iconst hC 0 dX11_lumps_110 (by decide) ?_
                      refine r_istore hC [(5, .int 0), (4, .int v59), (0, .ref (mw_a G 0)), (1, .int p1), (2, .int p2), (3, .int p3)] dX11_lumps_111 (by decide) rfl ?_
                      refine r_bipush hC 60 dX11_lumps_113 (by decide) ?_
                      refine r_iload_n hC 3 dX11_lumps_115 rfl rfl ?_
                      refine r_imul hC dX11_lumps_116 ?_
                      refine r_iload_n hC 4 dX11_lumps_117 rfl rfl ?_
                      refine r_iadd hC dX11_lumps_118 ?_
                      refine r_iconst hC 4 dX11_lumps_119 (by decide) ?_
                      refine r_iload hC 1 dX11_lumps_120 rfl ?_
                      refine r_imul hC dX11_lumps_122 ?_
                      refine r_iadd hC dX11_lumps_123 ?_
                      refine r_nmI (fun x66 hx66 => ?_)
                      have hO := hO x66 hx66
                      refine r_istore hC [(6, .int x66), (5, .int 0), (4, .int v59), (0, .ref (mw_a G 0)), (1, .int p1), (2, .int p2), (3, .int p3)] dX11_lumps_124 (by decide) rfl ?_
                      refine r_iload hC 1 dX11_lumps_126 rfl ?_
                      refine r_if_eq hC 175 dX11_lumps_128 (by decide) (fun _ => ?_) (fun h => absurd (by decide) h)
                      refine r_iconst hC 0 dX11_lumps_175 (by decide) ?_
                      refine r_istore hC [(5, .int 0), (6, .int x66), (4, .int v59), (0, .ref (mw_a G 0)), (1, .int p1), (2, .int p2), (3, .int p3)] dX11_lumps_176 (by decide) rfl ?_
                      refine r_iload hC 0 dX11_lumps_178 rfl ?_
                      refine r_if_eq hC 228 dX11_lumps_180 (by decide) (fun _ => ?_) (fun h => absurd (by decide) h)
                      refine r_goto hC 69 dX11_lumps_228 (by decide) ?_
                      refine r_lv hC [(5, .int 0), (4, .int v59), (0, .ref (mw_a G 0)), (1, .int p1), (2, .int p2), (3, .int p3)] [0, 2, 3, 4, 5, 6] rfl ?_
                      exact ihn61 0 v59 μ60 hO
                    · have hO := hO.2 h65
                      refine r_aload_n hC 2 dX11_lumps_97 rfl rfl ?_
                      refine r_getI hC fl11_103 ob11 rfl dX11_lumps_98 ?_
                      refine r_bipush hC 12 dX11_lumps_101 (by decide) ?_
                      refine r_icmp_ge hC 110 dX11_lumps_103 (by decide) (fun h67 => ?_) (fun h67 => ?_)
                      · have hO := hO.1 h67
                        refine r_iconst hC 0 dX11_lumps_110 (by decide) ?_
                        refine r_istore hC [(5, .int 0), (4, .int v59), (0, .ref (mw_a G 0)), (1, .int p1), (2, .int p2), (3, .int p3)] dX11_lumps_111 (by decide) rfl ?_
                        refine r_bipush hC 60 dX11_lumps_113 (by decide) ?_
                        refine r_iload_n hC 3 dX11_lumps_115 rfl rfl ?_
                        refine r_imul hC dX11_lumps_116 ?_
                        refine r_iload_n hC 4 dX11_lumps_117 rfl rfl ?_
                        refine r_iadd hC dX11_lumps_118 ?_
                        refine r_iconst hC 4 dX11_lumps_119 (by decide) ?_
                        refine r_iload hC 1 dX11_lumps_120 rfl ?_
                        refine r_imul hC dX11_lumps_122 ?_
                        refine r_iadd hC dX11_lumps_123 ?_
                        refine r_nmI (fun x68 hx68 => ?_)
                        have hO := hO x68 hx68
                        refine r_istore hC [(6, .int x68), (5, .int 0), (4, .int v59), (0, .ref (mw_a G 0)), (1, .int p1), (2, .int p2), (3, .int p3)] dX11_lumps_124 (by decide) rfl ?_
                        refine r_iload hC 1 dX11_lumps_126 rfl ?_
                        refine r_if_eq hC 175 dX11_lumps_128 (by decide) (fun _ => ?_) (fun h => absurd (by decide) h)
                        refine r_iconst hC 0 dX11_lumps_175 (by decide) ?_
                        refine r_istore hC [(5, .int 0), (6, .int x68), (4, .int v59), (0, .ref (mw_a G 0)), (1, .int p1), (2, .int p2), (3, .int p3)] dX11_lumps_176 (by decide) rfl ?_
                        refine r_iload hC 0 dX11_lumps_178 rfl ?_
                        refine r_if_eq hC 228 dX11_lumps_180 (by decide) (fun _ => ?_) (fun h => absurd (by decide) h)
                        refine r_goto hC 69 dX11_lumps_228 (by decide) ?_
                        refine r_lv hC [(5, .int 0), (4, .int v59), (0, .ref (mw_a G 0)), (1, .int p1), (2, .int p2), (3, .int p3)] [0, 2, 3, 4, 5, 6] rfl ?_
                        exact ihn61 0 v59 μ60 hO
                      · have hO := hO.2 h67
                        refine r_iconst hC 1 dX11_lumps_106 (by decide) ?_
                        refine r_goto hC 111 dX11_lumps_107 (by decide) ?_
                        refine r_istore hC [(5, .int 1), (4, .int v59), (0, .ref (mw_a G 0)), (1, .int p1), (2, .int p2), (3, .int p3)] dX11_lumps_111 (by decide) rfl ?_
                        refine r_bipush hC 60 dX11_lumps_113 (by decide) ?_
                        refine r_iload_n hC 3 dX11_lumps_115 rfl rfl ?_
                        refine r_imul hC dX11_lumps_116 ?_
                        refine r_iload_n hC 4 dX11_lumps_117 rfl rfl ?_
                        refine r_iadd hC dX11_lumps_118 ?_
                        refine r_iconst hC 4 dX11_lumps_119 (by decide) ?_
                        refine r_iload hC 1 dX11_lumps_120 rfl ?_
                        refine r_imul hC dX11_lumps_122 ?_
                        refine r_iadd hC dX11_lumps_123 ?_
                        refine r_nmI (fun x69 hx69 => ?_)
                        have hO := hO x69 hx69
                        refine r_istore hC [(6, .int x69), (5, .int 1), (4, .int v59), (0, .ref (mw_a G 0)), (1, .int p1), (2, .int p2), (3, .int p3)] dX11_lumps_124 (by decide) rfl ?_
                        refine r_iload hC 1 dX11_lumps_126 rfl ?_
                        refine r_if_eq hC 175 dX11_lumps_128 (by decide) (fun h => absurd h (by decide)) (fun _ => ?_)
                        refine r_aload_n hC 3 dX11_lumps_131 rfl rfl ?_
                        refine r_getR hC 25 fl11_82 ob11 rfl dX11_lumps_132 ?_
                        refine r_iload hC 0 dX11_lumps_135 rfl ?_
                        obtain ⟨g70, hO⟩ := hO
                        refine r_lald hC sh11_61 g70 x69.toNatClampNeg rfl dX11_lumps_137 ?_
                        refine r_aload_n hC 3 dX11_lumps_138 rfl rfl ?_
                        refine r_getR hC 25 fl11_82 ob11 rfl dX11_lumps_139 ?_
                        refine r_iload hC 0 dX11_lumps_142 rfl ?_
                        refine r_iconst hC 1 dX11_lumps_144 (by decide) ?_
                        refine r_iadd hC dX11_lumps_145 ?_
                        obtain ⟨g71, hO⟩ := hO
                        refine r_lald hC sh11_61 g71 ((x69 + 1).toNatClampNeg) rfl dX11_lumps_146 ?_
                        refine r_aload_n hC 3 dX11_lumps_147 rfl rfl ?_
                        refine r_getR hC 25 fl11_82 ob11 rfl dX11_lumps_148 ?_
                        refine r_iload hC 0 dX11_lumps_151 rfl ?_
                        refine r_iconst hC 2 dX11_lumps_153 (by decide) ?_
                        refine r_iadd hC dX11_lumps_154 ?_
                        obtain ⟨g72, hO⟩ := hO
                        refine r_lald hC sh11_61 g72 ((x69 + 2).toNatClampNeg) rfl dX11_lumps_155 ?_
                        refine r_aload_n hC 3 dX11_lumps_156 rfl rfl ?_
                        refine r_getR hC 25 fl11_82 ob11 rfl dX11_lumps_157 ?_
                        refine r_iload hC 0 dX11_lumps_160 rfl ?_
                        refine r_iconst hC 3 dX11_lumps_162 (by decide) ?_
                        refine r_iadd hC dX11_lumps_163 ?_
                        obtain ⟨g73, hO⟩ := hO
                        refine r_lald hC sh11_61 g73 ((x69 + 3).toNatClampNeg) rfl dX11_lumps_164 ?_
                        refine r_callSi hC [.long (μ60.2 25 x69.toNatClampNeg), .long (μ60.2 25 ((x69 + 1).toNatClampNeg)), .long (μ60.2 25 ((x69 + 2).toNatClampNeg)), .long (μ60.2 25 ((x69 + 3).toNatClampNeg))] (T11_isOne  hO) yv11_isOne ml11_118 ⟨Nat.le_of_ble_eq_true rfl, Nat.le_of_ble_eq_true rfl⟩ rfl rfl (Nat.le_of_ble_eq_true rfl) dX11_lumps_165 (fun r74 μ75 hO => ?_)
                        rcases hO with ⟨hr, hO⟩ | ⟨hr, hO⟩
                        · refine r_topEq hr ?_
                          obtain ⟨hO, hm⟩ := hO
                          refine r_memEq hm ?_
                          refine r_if_eq hC 175 dX11_lumps_168 (by decide) (fun h => absurd h (by decide)) (fun _ => ?_)
                          refine r_iconst hC 1 dX11_lumps_171 (by decide) ?_
                          refine r_goto hC 176 dX11_lumps_172 (by decide) ?_
                          refine r_istore hC [(5, .int 1), (6, .int x69), (4, .int v59), (0, .ref (mw_a G 0)), (1, .int p1), (2, .int p2), (3, .int p3)] dX11_lumps_176 (by decide) rfl ?_
                          refine r_iload hC 0 dX11_lumps_178 rfl ?_
                          refine r_if_eq hC 228 dX11_lumps_180 (by decide) (fun h => absurd h (by decide)) (fun _ => ?_)
                          refine r_aload_n hC 3 dX11_lumps_183 rfl rfl ?_
                          refine r_aload_n hC 3 dX11_lumps_184 rfl rfl ?_
                          refine r_getR hC 25 fl11_82 ob11 rfl dX11_lumps_185 ?_
                          refine r_iload hC 1 dX11_lumps_188 rfl ?_
                          obtain ⟨g76, hO⟩ := hO
                          refine r_lald hC sh11_61 g76 x69.toNatClampNeg rfl dX11_lumps_190 ?_
                          refine r_l2i hC dX11_lumps_191 ?_
                          refine r_aload_n hC 3 dX11_lumps_192 rfl rfl ?_
                          refine r_getR hC 25 fl11_82 ob11 rfl dX11_lumps_193 ?_
                          refine r_iload hC 1 dX11_lumps_196 rfl ?_
                          refine r_iconst hC 1 dX11_lumps_198 (by decide) ?_
                          refine r_iadd hC dX11_lumps_199 ?_
                          obtain ⟨g77, hO⟩ := hO
                          refine r_lald hC sh11_61 g77 ((x69 + 1).toNatClampNeg) rfl dX11_lumps_200 ?_
                          refine r_l2i hC dX11_lumps_201 ?_
                          refine r_aload_n hC 3 dX11_lumps_202 rfl rfl ?_
                          refine r_getR hC 25 fl11_82 ob11 rfl dX11_lumps_203 ?_
                          refine r_iload hC 1 dX11_lumps_206 rfl ?_
                          refine r_iconst hC 2 dX11_lumps_208 (by decide) ?_
                          refine r_iadd hC dX11_lumps_209 ?_
                          obtain ⟨g78, hO⟩ := hO
                          refine r_lald hC sh11_61 g78 ((x69 + 2).toNatClampNeg) rfl dX11_lumps_210 ?_
                          refine r_l2i hC dX11_lumps_211 ?_
                          refine r_aload_n hC 3 dX11_lumps_212 rfl rfl ?_
                          refine r_getR hC 25 fl11_82 ob11 rfl dX11_lumps_213 ?_
                          refine r_iload hC 1 dX11_lumps_216 rfl ?_
                          refine r_iconst hC 3 dX11_lumps_218 (by decide) ?_
                          refine r_iadd hC dX11_lumps_219 ?_
                          obtain ⟨g79, hO⟩ := hO
                          refine r_lald hC sh11_61 g79 ((x69 + 3).toNatClampNeg) rfl dX11_lumps_220 ?_
                          refine r_l2i hC dX11_lumps_221 ?_
                          refine r_callVv hC [.int (Int64.toInt32 (μ60.2 25 x69.toNatClampNeg)), .int (Int64.toInt32 (μ60.2 25 ((x69 + 1).toNatClampNeg))), .int (Int64.toInt32 (μ60.2 25 ((x69 + 2).toNatClampNeg))), .int (Int64.toInt32 (μ60.2 25 ((x69 + 3).toNatClampNeg)))] (T11_adds  hO) yv11_adds ml11_122 ob11 rfl ⟨Nat.le_of_ble_eq_true rfl, Nat.le_of_ble_eq_true rfl⟩ rfl rfl (Nat.le_of_ble_eq_true rfl) dX11_lumps_222 (fun μ80 hO => ?_)
                          obtain ⟨x81, hx81⟩ : ∃ y : Int32, y = v59 + 1 := ⟨_, rfl⟩
                          have hO := hO x81 hx81
                          refine r_iinc hC x81 2 [(4, .int x81), (5, .int 1), (6, .int x69), (0, .ref (mw_a G 0)), (1, .int p1), (2, .int p2), (3, .int p3)] dX11_lumps_225 rfl (by rw [hx81]; rfl) (by decide) rfl ?_
                          refine r_goto hC 69 dX11_lumps_228 (by decide) ?_
                          refine r_lv hC [(5, .int 1), (4, .int x81), (0, .ref (mw_a G 0)), (1, .int p1), (2, .int p2), (3, .int p3)] [1, 0, 3, 4, 5, 6] rfl ?_
                          exact ihn61 1 x81 μ80 hO
                        · refine r_topEq hr ?_
                          obtain ⟨hO, hm⟩ := hO
                          refine r_memEq hm ?_
                          refine r_if_eq hC 175 dX11_lumps_168 (by decide) (fun _ => ?_) (fun h => absurd (by decide) h)
                          refine r_iconst hC 0 dX11_lumps_175 (by decide) ?_
                          refine r_istore hC [(5, .int 0), (6, .int x69), (4, .int v59), (0, .ref (mw_a G 0)), (1, .int p1), (2, .int p2), (3, .int p3)] dX11_lumps_176 (by decide) rfl ?_
                          refine r_iload hC 0 dX11_lumps_178 rfl ?_
                          refine r_if_eq hC 228 dX11_lumps_180 (by decide) (fun _ => ?_) (fun h => absurd (by decide) h)
                          refine r_goto hC 69 dX11_lumps_228 (by decide) ?_
                          refine r_lv hC [(5, .int 0), (4, .int v59), (0, .ref (mw_a G 0)), (1, .int p1), (2, .int p2), (3, .int p3)] [0, 2, 3, 4, 5, 6] rfl ?_
                          exact ihn61 0 v59 μ60 hO
            obtain ⟨n61, hO⟩ := hO
            refine hLn61   n61 _ _ _ hO
      · have hO := hO.2 h6
        refine r_aload_n hC 0 dX11_lumps_30 rfl rfl ?_
        refine r_getR hC 23 fl11_76 ob11 rfl dX11_lumps_31 ?_
        refine r_iload_n hC 1 dX11_lumps_34 rfl rfl ?_
        obtain ⟨g82, hO⟩ := hO
        refine r_iald hC sh11_59 g82 p1.toNatClampNeg rfl dX11_lumps_35 ?_
        refine r_bipush hC 50 dX11_lumps_36 (by decide) ?_
        refine r_icmp_eq hC 44 dX11_lumps_38 (by decide) (fun h83 => ?_) (fun h83 => ?_)
        · have hO := hO.1 h83
          refine r_iconst hC 0 dX11_lumps_44 (by decide) ?_
          refine r_istore hC [(4, .int 0), (0, .ref (mw_a G 0)), (1, .int p1), (2, .int p2), (3, .int p3)] dX11_lumps_45 (by decide) rfl ?_
          refine r_aload_n hC 1 dX11_lumps_47 rfl rfl ?_
          refine r_getR hC 23 fl11_76 ob11 rfl dX11_lumps_48 ?_
          refine r_iload_n hC 2 dX11_lumps_51 rfl rfl ?_
          obtain ⟨g84, hO⟩ := hO
          refine r_iald hC sh11_59 g84 p1.toNatClampNeg rfl dX11_lumps_52 ?_
          refine r_bipush hC 50 dX11_lumps_53 (by decide) ?_
          refine r_icmp_ne hC 66 dX11_lumps_55 (by decide) (fun h85 => ?_) (fun h85 => ?_)
          · have hO := hO.2 h85
            refine r_iconst hC 0 dX11_lumps_66 (by decide) ?_
            refine r_istore hC [(5, .int 0), (4, .int 0), (0, .ref (mw_a G 0)), (1, .int p1), (2, .int p2), (3, .int p3)] dX11_lumps_67 (by decide) rfl ?_
            have hLn89 : ∀   (n89 : Nat) (v86 : Int32) (v87 : Int32) (μ88 : mw_M), L11_lumps_69 p1 p2 p3 Q n89 v86 v87 μ88 → mw_W p l e (mw_rm 2 52) s m args below meth c G kdM 7 (MQ below (va_Qi (Q) (mw_B G kdM) (mw_A G kdM)) args s 0 0 (mw_A G kdM)) 69 [(5, .int v86), (4, .int v87), (0, .ref (mw_a G 0)), (1, .int p1), (2, .int p2), (3, .int p3)] [] μ88 := by
              intro   n89
              induction n89 with
              | zero => intro v86 v87 μ88 hO; exact False.elim hO
              | succ n89 ihn89 =>
                intro v86 v87 μ88 hO
                refine r_iload hC 0 dX11_lumps_69 rfl ?_
                refine r_if_eq hC 231 dX11_lumps_71 (by decide) (fun h90 => ?_) (fun h90 => ?_)
                · have hO := hO.1 h90
                  refine r_iload hC 1 dX11_lumps_231 rfl ?_
                  exact r_iret hC rfl dX11_lumps_233 hO
                · have hO := hO.2 h90
                  refine r_iload hC 1 dX11_lumps_74 rfl ?_
                  refine r_iload_n hC 5 dX11_lumps_76 rfl rfl ?_
                  refine r_icmp_ge hC 231 dX11_lumps_77 (by decide) (fun h91 => ?_) (fun h91 => ?_)
                  · have hO := hO.1 h91
                    refine r_iload hC 1 dX11_lumps_231 rfl ?_
                    exact r_iret hC rfl dX11_lumps_233 hO
                  · have hO := hO.2 h91
                    refine r_iload_n hC 4 dX11_lumps_80 rfl rfl ?_
                    refine r_aload_n hC 2 dX11_lumps_81 rfl rfl ?_
                    refine r_getR hC 24 fl11_79 ob11 rfl dX11_lumps_82 ?_
                    refine r_iload_n hC 3 dX11_lumps_85 rfl rfl ?_
                    obtain ⟨g92, hO⟩ := hO
                    refine r_iald hC sh11_60 g92 p1.toNatClampNeg rfl dX11_lumps_86 ?_
                    refine r_iconst hC 4 dX11_lumps_87 (by decide) ?_
                    refine r_isub hC dX11_lumps_88 ?_
                    refine r_iconst hC 4 dX11_lumps_89 (by decide) ?_
                    refine r_iload hC 1 dX11_lumps_90 rfl ?_
                    refine r_imul hC dX11_lumps_92 ?_
                    refine r_isub hC dX11_lumps_93 ?_
                    refine r_icmp_gt hC 110 dX11_lumps_94 (by decide) (fun h93 => ?_) (fun h93 => ?_)
                    · have hO := hO.1 h93
                      refine r_iconst hC 0 dX11_lumps_110 (by decide) ?_
                      refine r_istore hC [(5, .int 0), (4, .int v87), (0, .ref (mw_a G 0)), (1, .int p1), (2, .int p2), (3, .int p3)] dX11_lumps_111 (by decide) rfl ?_
                      refine r_bipush hC 60 dX11_lumps_113 (by decide) ?_
                      refine r_iload_n hC 3 dX11_lumps_115 rfl rfl ?_
                      refine r_imul hC dX11_lumps_116 ?_
                      refine r_iload_n hC 4 dX11_lumps_117 rfl rfl ?_
                      refine r_iadd hC dX11_lumps_118 ?_
                      refine r_iconst hC 4 dX11_lumps_119 (by decide) ?_
                      refine r_iload hC 1 dX11_lumps_120 rfl ?_
                      refine r_imul hC dX11_lumps_122 ?_
                      refine r_iadd hC dX11_lumps_123 ?_
                      refine r_nmI (fun x94 hx94 => ?_)
                      have hO := hO x94 hx94
                      refine r_istore hC [(6, .int x94), (5, .int 0), (4, .int v87), (0, .ref (mw_a G 0)), (1, .int p1), (2, .int p2), (3, .int p3)] dX11_lumps_124 (by decide) rfl ?_
                      refine r_iload hC 1 dX11_lumps_126 rfl ?_
                      refine r_if_eq hC 175 dX11_lumps_128 (by decide) (fun _ => ?_) (fun h => absurd (by decide) h)
                      refine r_iconst hC 0 dX11_lumps_175 (by decide) ?_
                      refine r_istore hC [(5, .int 0), (6, .int x94), (4, .int v87), (0, .ref (mw_a G 0)), (1, .int p1), (2, .int p2), (3, .int p3)] dX11_lumps_176 (by decide) rfl ?_
                      refine r_iload hC 0 dX11_lumps_178 rfl ?_
                      refine r_if_eq hC 228 dX11_lumps_180 (by decide) (fun _ => ?_) (fun h => absurd (by decide) h)
                      refine r_goto hC 69 dX11_lumps_228 (by decide) ?_
                      refine r_lv hC [(5, .int 0), (4, .int v87), (0, .ref (mw_a G 0)), (1, .int p1), (2, .int p2), (3, .int p3)] [0, 2, 3, 4, 5, 6] rfl ?_
                      exact ihn89 0 v87 μ88 hO
                    · have hO := hO.2 h93
                      refine r_aload_n hC 2 dX11_lumps_97 rfl rfl ?_
                      refine r_getI hC fl11_103 ob11 rfl dX11_lumps_98 ?_
                      refine r_bipush hC 12 dX11_lumps_101 (by decide) ?_
                      refine r_icmp_ge hC 110 dX11_lumps_103 (by decide) (fun h95 => ?_) (fun h95 => ?_)
                      · have hO := hO.1 h95
                        refine r_iconst hC 0 dX11_lumps_110 (by decide) ?_
                        refine r_istore hC [(5, .int 0), (4, .int v87), (0, .ref (mw_a G 0)), (1, .int p1), (2, .int p2), (3, .int p3)] dX11_lumps_111 (by decide) rfl ?_
                        refine r_bipush hC 60 dX11_lumps_113 (by decide) ?_
                        refine r_iload_n hC 3 dX11_lumps_115 rfl rfl ?_
                        refine r_imul hC dX11_lumps_116 ?_
                        refine r_iload_n hC 4 dX11_lumps_117 rfl rfl ?_
                        refine r_iadd hC dX11_lumps_118 ?_
                        refine r_iconst hC 4 dX11_lumps_119 (by decide) ?_
                        refine r_iload hC 1 dX11_lumps_120 rfl ?_
                        refine r_imul hC dX11_lumps_122 ?_
                        refine r_iadd hC dX11_lumps_123 ?_
                        refine r_nmI (fun x96 hx96 => ?_)
                        have hO := hO x96 hx96
                        refine r_istore hC [(6, .int x96), (5, .int 0), (4, .int v87), (0, .ref (mw_a G 0)), (1, .int p1), (2, .int p2), (3, .int p3)] dX11_lumps_124 (by decide) rfl ?_
                        refine r_iload hC 1 dX11_lumps_126 rfl ?_
                        refine r_if_eq hC 175 dX11_lumps_128 (by decide) (fun _ => ?_) (fun h => absurd (by decide) h)
                        refine r_iconst hC 0 dX11_lumps_175 (by decide) ?_
                        refine r_istore hC [(5, .int 0), (6, .int x96), (4, .int v87), (0, .ref (mw_a G 0)), (1, .int p1), (2, .int p2), (3, .int p3)] dX11_lumps_176 (by decide) rfl ?_
                        refine r_iload hC 0 dX11_lumps_178 rfl ?_
                        refine r_if_eq hC 228 dX11_lumps_180 (by decide) (fun _ => ?_) (fun h => absurd (by decide) h)
                        refine r_goto hC 69 dX11_lumps_228 (by decide) ?_
                        refine r_lv hC [(5, .int 0), (4, .int v87), (0, .ref (mw_a G 0)), (1, .int p1), (2, .int p2), (3, .int p3)] [0, 2, 3, 4, 5, 6] rfl ?_
                        exact ihn89 0 v87 μ88 hO
                      · have hO := hO.2 h95
                        refine r_iconst hC 1 dX11_lumps_106 (by decide) ?_
                        refine r_goto hC 111 dX11_lumps_107 (by decide) ?_
                        refine r_istore hC [(5, .int 1), (4, .int v87), (0, .ref (mw_a G 0)), (1, .int p1), (2, .int p2), (3, .int p3)] dX11_lumps_111 (by decide) rfl ?_
                        refine r_bipush hC 60 dX11_lumps_113 (by decide) ?_
                        refine r_iload_n hC 3 dX11_lumps_115 rfl rfl ?_
                        refine r_imul hC dX11_lumps_116 ?_
                        refine r_iload_n hC 4 dX11_lumps_117 rfl rfl ?_
                        refine r_iadd hC dX11_lumps_118 ?_
                        refine r_iconst hC 4 dX11_lumps_119 (by decide) ?_
                        refine r_iload hC 1 dX11_lumps_120 rfl ?_
                        refine r_imul hC dX11_lumps_122 ?_
                        refine r_iadd hC dX11_lumps_123 ?_
                        refine r_nmI (fun x97 hx97 => ?_)
                        have hO := hO x97 hx97
                        refine r_istore hC [(6, .int x97), (5, .int 1), (4, .int v87), (0, .ref (mw_a G 0)), (1, .int p1), (2, .int p2), (3, .int p3)] dX11_lumps_124 (by decide) rfl ?_
                        refine r_iload hC 1 dX11_lumps_126 rfl ?_
                        refine r_if_eq hC 175 dX11_lumps_128 (by decide) (fun h => absurd h (by decide)) (fun _ => ?_)
                        refine r_aload_n hC 3 dX11_lumps_131 rfl rfl ?_
                        refine r_getR hC 25 fl11_82 ob11 rfl dX11_lumps_132 ?_
                        refine r_iload hC 0 dX11_lumps_135 rfl ?_
                        obtain ⟨g98, hO⟩ := hO
                        refine r_lald hC sh11_61 g98 x97.toNatClampNeg rfl dX11_lumps_137 ?_
                        refine r_aload_n hC 3 dX11_lumps_138 rfl rfl ?_
                        refine r_getR hC 25 fl11_82 ob11 rfl dX11_lumps_139 ?_
                        refine r_iload hC 0 dX11_lumps_142 rfl ?_
                        refine r_iconst hC 1 dX11_lumps_144 (by decide) ?_
                        refine r_iadd hC dX11_lumps_145 ?_
                        obtain ⟨g99, hO⟩ := hO
                        refine r_lald hC sh11_61 g99 ((x97 + 1).toNatClampNeg) rfl dX11_lumps_146 ?_
                        refine r_aload_n hC 3 dX11_lumps_147 rfl rfl ?_
                        refine r_getR hC 25 fl11_82 ob11 rfl dX11_lumps_148 ?_
                        refine r_iload hC 0 dX11_lumps_151 rfl ?_
                        refine r_iconst hC 2 dX11_lumps_153 (by decide) ?_
                        refine r_iadd hC dX11_lumps_154 ?_
                        obtain ⟨g100, hO⟩ := hO
                        refine r_lald hC sh11_61 g100 ((x97 + 2).toNatClampNeg) rfl dX11_lumps_155 ?_
                        refine r_aload_n hC 3 dX11_lumps_156 rfl rfl ?_
                        refine r_getR hC 25 fl11_82 ob11 rfl dX11_lumps_157 ?_
                        refine r_iload hC 0 dX11_lumps_160 rfl ?_
                        refine r_iconst hC 3 dX11_lumps_162 (by decide) ?_
                        refine r_iadd hC dX11_lumps_163 ?_
                        obtain ⟨g101, hO⟩ := hO
                        refine r_lald hC sh11_61 g101 ((x97 + 3).toNatClampNeg) rfl dX11_lumps_164 ?_
                        refine r_callSi hC [.long (μ88.2 25 x97.toNatClampNeg), .long (μ88.2 25 ((x97 + 1).toNatClampNeg)), .long (μ88.2 25 ((x97 + 2).toNatClampNeg)), .long (μ88.2 25 ((x97 + 3).toNatClampNeg))] (T11_isOne  hO) yv11_isOne ml11_118 ⟨Nat.le_of_ble_eq_true rfl, Nat.le_of_ble_eq_true rfl⟩ rfl rfl (Nat.le_of_ble_eq_true rfl) dX11_lumps_165 (fun r102 μ103 hO => ?_)
                        rcases hO with ⟨hr, hO⟩ | ⟨hr, hO⟩
                        · refine r_topEq hr ?_
                          obtain ⟨hO, hm⟩ := hO
                          refine r_memEq hm ?_
                          refine r_if_eq hC 175 dX11_lumps_168 (by decide) (fun h => absurd h (by decide)) (fun _ => ?_)
                          refine r_iconst hC 1 dX11_lumps_171 (by decide) ?_
                          refine r_goto hC 176 dX11_lumps_172 (by decide) ?_
                          refine r_istore hC [(5, .int 1), (6, .int x97), (4, .int v87), (0, .ref (mw_a G 0)), (1, .int p1), (2, .int p2), (3, .int p3)] dX11_lumps_176 (by decide) rfl ?_
                          refine r_iload hC 0 dX11_lumps_178 rfl ?_
                          refine r_if_eq hC 228 dX11_lumps_180 (by decide) (fun h => absurd h (by decide)) (fun _ => ?_)
                          refine r_aload_n hC 3 dX11_lumps_183 rfl rfl ?_
                          refine r_aload_n hC 3 dX11_lumps_184 rfl rfl ?_
                          refine r_getR hC 25 fl11_82 ob11 rfl dX11_lumps_185 ?_
                          refine r_iload hC 1 dX11_lumps_188 rfl ?_
                          obtain ⟨g104, hO⟩ := hO
                          refine r_lald hC sh11_61 g104 x97.toNatClampNeg rfl dX11_lumps_190 ?_
                          refine r_l2i hC dX11_lumps_191 ?_
                          refine r_aload_n hC 3 dX11_lumps_192 rfl rfl ?_
                          refine r_getR hC 25 fl11_82 ob11 rfl dX11_lumps_193 ?_
                          refine r_iload hC 1 dX11_lumps_196 rfl ?_
                          refine r_iconst hC 1 dX11_lumps_198 (by decide) ?_
                          refine r_iadd hC dX11_lumps_199 ?_
                          obtain ⟨g105, hO⟩ := hO
                          refine r_lald hC sh11_61 g105 ((x97 + 1).toNatClampNeg) rfl dX11_lumps_200 ?_
                          refine r_l2i hC dX11_lumps_201 ?_
                          refine r_aload_n hC 3 dX11_lumps_202 rfl rfl ?_
                          refine r_getR hC 25 fl11_82 ob11 rfl dX11_lumps_203 ?_
                          refine r_iload hC 1 dX11_lumps_206 rfl ?_
                          refine r_iconst hC 2 dX11_lumps_208 (by decide) ?_
                          refine r_iadd hC dX11_lumps_209 ?_
                          obtain ⟨g106, hO⟩ := hO
                          refine r_lald hC sh11_61 g106 ((x97 + 2).toNatClampNeg) rfl dX11_lumps_210 ?_
                          refine r_l2i hC dX11_lumps_211 ?_
                          refine r_aload_n hC 3 dX11_lumps_212 rfl rfl ?_
                          refine r_getR hC 25 fl11_82 ob11 rfl dX11_lumps_213 ?_
                          refine r_iload hC 1 dX11_lumps_216 rfl ?_
                          refine r_iconst hC 3 dX11_lumps_218 (by decide) ?_
                          refine r_iadd hC dX11_lumps_219 ?_
                          obtain ⟨g107, hO⟩ := hO
                          refine r_lald hC sh11_61 g107 ((x97 + 3).toNatClampNeg) rfl dX11_lumps_220 ?_
                          refine r_l2i hC dX11_lumps_221 ?_
                          refine r_callVv hC [.int (Int64.toInt32 (μ88.2 25 x97.toNatClampNeg)), .int (Int64.toInt32 (μ88.2 25 ((x97 + 1).toNatClampNeg))), .int (Int64.toInt32 (μ88.2 25 ((x97 + 2).toNatClampNeg))), .int (Int64.toInt32 (μ88.2 25 ((x97 + 3).toNatClampNeg)))] (T11_adds  hO) yv11_adds ml11_122 ob11 rfl ⟨Nat.le_of_ble_eq_true rfl, Nat.le_of_ble_eq_true rfl⟩ rfl rfl (Nat.le_of_ble_eq_true rfl) dX11_lumps_222 (fun μ108 hO => ?_)
                          obtain ⟨x109, hx109⟩ : ∃ y : Int32, y = v87 + 1 := ⟨_, rfl⟩
                          have hO := hO x109 hx109
                          refine r_iinc hC x109 2 [(4, .int x109), (5, .int 1), (6, .int x97), (0, .ref (mw_a G 0)), (1, .int p1), (2, .int p2), (3, .int p3)] dX11_lumps_225 rfl (by rw [hx109]; rfl) (by decide) rfl ?_
                          refine r_goto hC 69 dX11_lumps_228 (by decide) ?_
                          refine r_lv hC [(5, .int 1), (4, .int x109), (0, .ref (mw_a G 0)), (1, .int p1), (2, .int p2), (3, .int p3)] [1, 0, 3, 4, 5, 6] rfl ?_
                          exact ihn89 1 x109 μ108 hO
                        · refine r_topEq hr ?_
                          obtain ⟨hO, hm⟩ := hO
                          refine r_memEq hm ?_
                          refine r_if_eq hC 175 dX11_lumps_168 (by decide) (fun _ => ?_) (fun h => absurd (by decide) h)
                          refine r_iconst hC 0 dX11_lumps_175 (by decide) ?_
                          refine r_istore hC [(5, .int 0), (6, .int x97), (4, .int v87), (0, .ref (mw_a G 0)), (1, .int p1), (2, .int p2), (3, .int p3)] dX11_lumps_176 (by decide) rfl ?_
                          refine r_iload hC 0 dX11_lumps_178 rfl ?_
                          refine r_if_eq hC 228 dX11_lumps_180 (by decide) (fun _ => ?_) (fun h => absurd (by decide) h)
                          refine r_goto hC 69 dX11_lumps_228 (by decide) ?_
                          refine r_lv hC [(5, .int 0), (4, .int v87), (0, .ref (mw_a G 0)), (1, .int p1), (2, .int p2), (3, .int p3)] [0, 2, 3, 4, 5, 6] rfl ?_
                          exact ihn89 0 v87 μ88 hO
            obtain ⟨n89, hO⟩ := hO
            refine hLn89   n89 _ _ _ hO
          · have hO := hO.1 h85
            refine r_iload_n hC 3 dX11_lumps_58 rfl rfl ?_
            refine r_if_lt hC 66 dX11_lumps_59 (by decide) (fun h110 => ?_) (fun h110 => ?_)
            · have hO := hO.1 h110
              refine r_iconst hC 0 dX11_lumps_66 (by decide) ?_
              refine r_istore hC [(5, .int 0), (4, .int 0), (0, .ref (mw_a G 0)), (1, .int p1), (2, .int p2), (3, .int p3)] dX11_lumps_67 (by decide) rfl ?_
              have hLn114 : ∀   (n114 : Nat) (v111 : Int32) (v112 : Int32) (μ113 : mw_M), L11_lumps_69 p1 p2 p3 Q n114 v111 v112 μ113 → mw_W p l e (mw_rm 2 52) s m args below meth c G kdM 7 (MQ below (va_Qi (Q) (mw_B G kdM) (mw_A G kdM)) args s 0 0 (mw_A G kdM)) 69 [(5, .int v111), (4, .int v112), (0, .ref (mw_a G 0)), (1, .int p1), (2, .int p2), (3, .int p3)] [] μ113 := by
                intro   n114
                induction n114 with
                | zero => intro v111 v112 μ113 hO; exact False.elim hO
                | succ n114 ihn114 =>
                  intro v111 v112 μ113 hO
                  refine r_iload hC 0 dX11_lumps_69 rfl ?_
                  refine r_if_eq hC 231 dX11_lumps_71 (by decide) (fun h115 => ?_) (fun h115 => ?_)
                  · have hO := hO.1 h115
                    refine r_iload hC 1 dX11_lumps_231 rfl ?_
                    exact r_iret hC rfl dX11_lumps_233 hO
                  · have hO := hO.2 h115
                    refine r_iload hC 1 dX11_lumps_74 rfl ?_
                    refine r_iload_n hC 5 dX11_lumps_76 rfl rfl ?_
                    refine r_icmp_ge hC 231 dX11_lumps_77 (by decide) (fun h116 => ?_) (fun h116 => ?_)
                    · have hO := hO.1 h116
                      refine r_iload hC 1 dX11_lumps_231 rfl ?_
                      exact r_iret hC rfl dX11_lumps_233 hO
                    · have hO := hO.2 h116
                      refine r_iload_n hC 4 dX11_lumps_80 rfl rfl ?_
                      refine r_aload_n hC 2 dX11_lumps_81 rfl rfl ?_
                      refine r_getR hC 24 fl11_79 ob11 rfl dX11_lumps_82 ?_
                      refine r_iload_n hC 3 dX11_lumps_85 rfl rfl ?_
                      obtain ⟨g117, hO⟩ := hO
                      refine r_iald hC sh11_60 g117 p1.toNatClampNeg rfl dX11_lumps_86 ?_
                      refine r_iconst hC 4 dX11_lumps_87 (by decide) ?_
                      refine r_isub hC dX11_lumps_88 ?_
                      refine r_iconst hC 4 dX11_lumps_89 (by decide) ?_
                      refine r_iload hC 1 dX11_lumps_90 rfl ?_
                      refine r_imul hC dX11_lumps_92 ?_
                      refine r_isub hC dX11_lumps_93 ?_
                      refine r_icmp_gt hC 110 dX11_lumps_94 (by decide) (fun h118 => ?_) (fun h118 => ?_)
                      · have hO := hO.1 h118
                        refine r_iconst hC 0 dX11_lumps_110 (by decide) ?_
                        refine r_istore hC [(5, .int 0), (4, .int v112), (0, .ref (mw_a G 0)), (1, .int p1), (2, .int p2), (3, .int p3)] dX11_lumps_111 (by decide) rfl ?_
                        refine r_bipush hC 60 dX11_lumps_113 (by decide) ?_
                        refine r_iload_n hC 3 dX11_lumps_115 rfl rfl ?_
                        refine r_imul hC dX11_lumps_116 ?_
                        refine r_iload_n hC 4 dX11_lumps_117 rfl rfl ?_
                        refine r_iadd hC dX11_lumps_118 ?_
                        refine r_iconst hC 4 dX11_lumps_119 (by decide) ?_
                        refine r_iload hC 1 dX11_lumps_120 rfl ?_
                        refine r_imul hC dX11_lumps_122 ?_
                        refine r_iadd hC dX11_lumps_123 ?_
                        refine r_nmI (fun x119 hx119 => ?_)
                        have hO := hO x119 hx119
                        refine r_istore hC [(6, .int x119), (5, .int 0), (4, .int v112), (0, .ref (mw_a G 0)), (1, .int p1), (2, .int p2), (3, .int p3)] dX11_lumps_124 (by decide) rfl ?_
                        refine r_iload hC 1 dX11_lumps_126 rfl ?_
                        refine r_if_eq hC 175 dX11_lumps_128 (by decide) (fun _ => ?_) (fun h => absurd (by decide) h)
                        refine r_iconst hC 0 dX11_lumps_175 (by decide) ?_
                        refine r_istore hC [(5, .int 0), (6, .int x119), (4, .int v112), (0, .ref (mw_a G 0)), (1, .int p1), (2, .int p2), (3, .int p3)] dX11_lumps_176 (by decide) rfl ?_
                        refine r_iload hC 0 dX11_lumps_178 rfl ?_
                        refine r_if_eq hC 228 dX11_lumps_180 (by decide) (fun _ => ?_) (fun h => absurd (by decide) h)
                        refine r_goto hC 69 dX11_lumps_228 (by decide) ?_
                        refine r_lv hC [(5, .int 0), (4, .int v112), (0, .ref (mw_a G 0)), (1, .int p1), (2, .int p2), (3, .int p3)] [0, 2, 3, 4, 5, 6] rfl ?_
                        exact ihn114 0 v112 μ113 hO
                      · have hO := hO.2 h118
                        refine r_aload_n hC 2 dX11_lumps_97 rfl rfl ?_
                        refine r_getI hC fl11_103 ob11 rfl dX11_lumps_98 ?_
                        refine r_bipush hC 12 dX11_lumps_101 (by decide) ?_
                        refine r_icmp_ge hC 110 dX11_lumps_103 (by decide) (fun h120 => ?_) (fun h120 => ?_)
                        · have hO := hO.1 h120
                          refine r_iconst hC 0 dX11_lumps_110 (by decide) ?_
                          refine r_istore hC [(5, .int 0), (4, .int v112), (0, .ref (mw_a G 0)), (1, .int p1), (2, .int p2), (3, .int p3)] dX11_lumps_111 (by decide) rfl ?_
                          refine r_bipush hC 60 dX11_lumps_113 (by decide) ?_
                          refine r_iload_n hC 3 dX11_lumps_115 rfl rfl ?_
                          refine r_imul hC dX11_lumps_116 ?_
                          refine r_iload_n hC 4 dX11_lumps_117 rfl rfl ?_
                          refine r_iadd hC dX11_lumps_118 ?_
                          refine r_iconst hC 4 dX11_lumps_119 (by decide) ?_
                          refine r_iload hC 1 dX11_lumps_120 rfl ?_
                          refine r_imul hC dX11_lumps_122 ?_
                          refine r_iadd hC dX11_lumps_123 ?_
                          refine r_nmI (fun x121 hx121 => ?_)
                          have hO := hO x121 hx121
                          refine r_istore hC [(6, .int x121), (5, .int 0), (4, .int v112), (0, .ref (mw_a G 0)), (1, .int p1), (2, .int p2), (3, .int p3)] dX11_lumps_124 (by decide) rfl ?_
                          refine r_iload hC 1 dX11_lumps_126 rfl ?_
                          refine r_if_eq hC 175 dX11_lumps_128 (by decide) (fun _ => ?_) (fun h => absurd (by decide) h)
                          refine r_iconst hC 0 dX11_lumps_175 (by decide) ?_
                          refine r_istore hC [(5, .int 0), (6, .int x121), (4, .int v112), (0, .ref (mw_a G 0)), (1, .int p1), (2, .int p2), (3, .int p3)] dX11_lumps_176 (by decide) rfl ?_
                          refine r_iload hC 0 dX11_lumps_178 rfl ?_
                          refine r_if_eq hC 228 dX11_lumps_180 (by decide) (fun _ => ?_) (fun h => absurd (by decide) h)
                          refine r_goto hC 69 dX11_lumps_228 (by decide) ?_
                          refine r_lv hC [(5, .int 0), (4, .int v112), (0, .ref (mw_a G 0)), (1, .int p1), (2, .int p2), (3, .int p3)] [0, 2, 3, 4, 5, 6] rfl ?_
                          exact ihn114 0 v112 μ113 hO
                        · have hO := hO.2 h120
                          refine r_iconst hC 1 dX11_lumps_106 (by decide) ?_
                          refine r_goto hC 111 dX11_lumps_107 (by decide) ?_
                          refine r_istore hC [(5, .int 1), (4, .int v112), (0, .ref (mw_a G 0)), (1, .int p1), (2, .int p2), (3, .int p3)] dX11_lumps_111 (by decide) rfl ?_
                          refine r_bipush hC 60 dX11_lumps_113 (by decide) ?_
                          refine r_iload_n hC 3 dX11_lumps_115 rfl rfl ?_
                          refine r_imul hC dX11_lumps_116 ?_
                          refine r_iload_n hC 4 dX11_lumps_117 rfl rfl ?_
                          refine r_iadd hC dX11_lumps_118 ?_
                          refine r_iconst hC 4 dX11_lumps_119 (by decide) ?_
                          refine r_iload hC 1 dX11_lumps_120 rfl ?_
                          refine r_imul hC dX11_lumps_122 ?_
                          refine r_iadd hC dX11_lumps_123 ?_
                          refine r_nmI (fun x122 hx122 => ?_)
                          have hO := hO x122 hx122
                          refine r_istore hC [(6, .int x122), (5, .int 1), (4, .int v112), (0, .ref (mw_a G 0)), (1, .int p1), (2, .int p2), (3, .int p3)] dX11_lumps_124 (by decide) rfl ?_
                          refine r_iload hC 1 dX11_lumps_126 rfl ?_
                          refine r_if_eq hC 175 dX11_lumps_128 (by decide) (fun h => absurd h (by decide)) (fun _ => ?_)
                          refine r_aload_n hC 3 dX11_lumps_131 rfl rfl ?_
                          refine r_getR hC 25 fl11_82 ob11 rfl dX11_lumps_132 ?_
                          refine r_iload hC 0 dX11_lumps_135 rfl ?_
                          obtain ⟨g123, hO⟩ := hO
                          refine r_lald hC sh11_61 g123 x122.toNatClampNeg rfl dX11_lumps_137 ?_
                          refine r_aload_n hC 3 dX11_lumps_138 rfl rfl ?_
                          refine r_getR hC 25 fl11_82 ob11 rfl dX11_lumps_139 ?_
                          refine r_iload hC 0 dX11_lumps_142 rfl ?_
                          refine r_iconst hC 1 dX11_lumps_144 (by decide) ?_
                          refine r_iadd hC dX11_lumps_145 ?_
                          obtain ⟨g124, hO⟩ := hO
                          refine r_lald hC sh11_61 g124 ((x122 + 1).toNatClampNeg) rfl dX11_lumps_146 ?_
                          refine r_aload_n hC 3 dX11_lumps_147 rfl rfl ?_
                          refine r_getR hC 25 fl11_82 ob11 rfl dX11_lumps_148 ?_
                          refine r_iload hC 0 dX11_lumps_151 rfl ?_
                          refine r_iconst hC 2 dX11_lumps_153 (by decide) ?_
                          refine r_iadd hC dX11_lumps_154 ?_
                          obtain ⟨g125, hO⟩ := hO
                          refine r_lald hC sh11_61 g125 ((x122 + 2).toNatClampNeg) rfl dX11_lumps_155 ?_
                          refine r_aload_n hC 3 dX11_lumps_156 rfl rfl ?_
                          refine r_getR hC 25 fl11_82 ob11 rfl dX11_lumps_157 ?_
                          refine r_iload hC 0 dX11_lumps_160 rfl ?_
                          refine r_iconst hC 3 dX11_lumps_162 (by decide) ?_
                          refine r_iadd hC dX11_lumps_163 ?_
                          obtain ⟨g126, hO⟩ := hO
                          refine r_lald hC sh11_61 g126 ((x122 + 3).toNatClampNeg) rfl dX11_lumps_164 ?_
                          refine r_callSi hC [.long (μ113.2 25 x122.toNatClampNeg), .long (μ113.2 25 ((x122 + 1).toNatClampNeg)), .long (μ113.2 25 ((x122 + 2).toNatClampNeg)), .long (μ113.2 25 ((x122 + 3).toNatClampNeg))] (T11_isOne  hO) yv11_isOne ml11_118 ⟨Nat.le_of_ble_eq_true rfl, Nat.le_of_ble_eq_true rfl⟩ rfl rfl (Nat.le_of_ble_eq_true rfl) dX11_lumps_165 (fun r127 μ128 hO => ?_)
                          rcases hO with ⟨hr, hO⟩ | ⟨hr, hO⟩
                          · refine r_topEq hr ?_
                            obtain ⟨hO, hm⟩ := hO
                            refine r_memEq hm ?_
                            refine r_if_eq hC 175 dX11_lumps_168 (by decide) (fun h => absurd h (by decide)) (fun _ => ?_)
                            refine r_iconst hC 1 dX11_lumps_171 (by decide) ?_
                            refine r_goto hC 176 dX11_lumps_172 (by decide) ?_
                            refine r_istore hC [(5, .int 1), (6, .int x122), (4, .int v112), (0, .ref (mw_a G 0)), (1, .int p1), (2, .int p2), (3, .int p3)] dX11_lumps_176 (by decide) rfl ?_
                            refine r_iload hC 0 dX11_lumps_178 rfl ?_
                            refine r_if_eq hC 228 dX11_lumps_180 (by decide) (fun h => absurd h (by decide)) (fun _ => ?_)
                            refine r_aload_n hC 3 dX11_lumps_183 rfl rfl ?_
                            refine r_aload_n hC 3 dX11_lumps_184 rfl rfl ?_
                            refine r_getR hC 25 fl11_82 ob11 rfl dX11_lumps_185 ?_
                            refine r_iload hC 1 dX11_lumps_188 rfl ?_
                            obtain ⟨g129, hO⟩ := hO
                            refine r_lald hC sh11_61 g129 x122.toNatClampNeg rfl dX11_lumps_190 ?_
                            refine r_l2i hC dX11_lumps_191 ?_
                            refine r_aload_n hC 3 dX11_lumps_192 rfl rfl ?_
                            refine r_getR hC 25 fl11_82 ob11 rfl dX11_lumps_193 ?_
                            refine r_iload hC 1 dX11_lumps_196 rfl ?_
                            refine r_iconst hC 1 dX11_lumps_198 (by decide) ?_
                            refine r_iadd hC dX11_lumps_199 ?_
                            obtain ⟨g130, hO⟩ := hO
                            refine r_lald hC sh11_61 g130 ((x122 + 1).toNatClampNeg) rfl dX11_lumps_200 ?_
                            refine r_l2i hC dX11_lumps_201 ?_
                            refine r_aload_n hC 3 dX11_lumps_202 rfl rfl ?_
                            refine r_getR hC 25 fl11_82 ob11 rfl dX11_lumps_203 ?_
                            refine r_iload hC 1 dX11_lumps_206 rfl ?_
                            refine r_iconst hC 2 dX11_lumps_208 (by decide) ?_
                            refine r_iadd hC dX11_lumps_209 ?_
                            obtain ⟨g131, hO⟩ := hO
                            refine r_lald hC sh11_61 g131 ((x122 + 2).toNatClampNeg) rfl dX11_lumps_210 ?_
                            refine r_l2i hC dX11_lumps_211 ?_
                            refine r_aload_n hC 3 dX11_lumps_212 rfl rfl ?_
                            refine r_getR hC 25 fl11_82 ob11 rfl dX11_lumps_213 ?_
                            refine r_iload hC 1 dX11_lumps_216 rfl ?_
                            refine r_iconst hC 3 dX11_lumps_218 (by decide) ?_
                            refine r_iadd hC dX11_lumps_219 ?_
                            obtain ⟨g132, hO⟩ := hO
                            refine r_lald hC sh11_61 g132 ((x122 + 3).toNatClampNeg) rfl dX11_lumps_220 ?_
                            refine r_l2i hC dX11_lumps_221 ?_
                            refine r_callVv hC [.int (Int64.toInt32 (μ113.2 25 x122.toNatClampNeg)), .int (Int64.toInt32 (μ113.2 25 ((x122 + 1).toNatClampNeg))), .int (Int64.toInt32 (μ113.2 25 ((x122 + 2).toNatClampNeg))), .int (Int64.toInt32 (μ113.2 25 ((x122 + 3).toNatClampNeg)))] (T11_adds  hO) yv11_adds ml11_122 ob11 rfl ⟨Nat.le_of_ble_eq_true rfl, Nat.le_of_ble_eq_true rfl⟩ rfl rfl (Nat.le_of_ble_eq_true rfl) dX11_lumps_222 (fun μ133 hO => ?_)
                            obtain ⟨x134, hx134⟩ : ∃ y : Int32, y = v112 + 1 := ⟨_, rfl⟩
                            have hO := hO x134 hx134
                            refine r_iinc hC x134 2 [(4, .int x134), (5, .int 1), (6, .int x122), (0, .ref (mw_a G 0)), (1, .int p1), (2, .int p2), (3, .int p3)] dX11_lumps_225 rfl (by rw [hx134]; rfl) (by decide) rfl ?_
                            refine r_goto hC 69 dX11_lumps_228 (by decide) ?_
                            refine r_lv hC [(5, .int 1), (4, .int x134), (0, .ref (mw_a G 0)), (1, .int p1), (2, .int p2), (3, .int p3)] [1, 0, 3, 4, 5, 6] rfl ?_
                            exact ihn114 1 x134 μ133 hO
                          · refine r_topEq hr ?_
                            obtain ⟨hO, hm⟩ := hO
                            refine r_memEq hm ?_
                            refine r_if_eq hC 175 dX11_lumps_168 (by decide) (fun _ => ?_) (fun h => absurd (by decide) h)
                            refine r_iconst hC 0 dX11_lumps_175 (by decide) ?_
                            refine r_istore hC [(5, .int 0), (6, .int x122), (4, .int v112), (0, .ref (mw_a G 0)), (1, .int p1), (2, .int p2), (3, .int p3)] dX11_lumps_176 (by decide) rfl ?_
                            refine r_iload hC 0 dX11_lumps_178 rfl ?_
                            refine r_if_eq hC 228 dX11_lumps_180 (by decide) (fun _ => ?_) (fun h => absurd (by decide) h)
                            refine r_goto hC 69 dX11_lumps_228 (by decide) ?_
                            refine r_lv hC [(5, .int 0), (4, .int v112), (0, .ref (mw_a G 0)), (1, .int p1), (2, .int p2), (3, .int p3)] [0, 2, 3, 4, 5, 6] rfl ?_
                            exact ihn114 0 v112 μ113 hO
              obtain ⟨n114, hO⟩ := hO
              refine hLn114   n114 _ _ _ hO
            · have hO := hO.2 h110
              refine r_iconst hC 1 dX11_lumps_62 (by decide) ?_
              refine r_goto hC 67 dX11_lumps_63 (by decide) ?_
              refine r_istore hC [(5, .int 1), (4, .int 0), (0, .ref (mw_a G 0)), (1, .int p1), (2, .int p2), (3, .int p3)] dX11_lumps_67 (by decide) rfl ?_
              have hLn138 : ∀   (n138 : Nat) (v135 : Int32) (v136 : Int32) (μ137 : mw_M), L11_lumps_69 p1 p2 p3 Q n138 v135 v136 μ137 → mw_W p l e (mw_rm 2 52) s m args below meth c G kdM 7 (MQ below (va_Qi (Q) (mw_B G kdM) (mw_A G kdM)) args s 0 0 (mw_A G kdM)) 69 [(5, .int v135), (4, .int v136), (0, .ref (mw_a G 0)), (1, .int p1), (2, .int p2), (3, .int p3)] [] μ137 := by
                intro   n138
                induction n138 with
                | zero => intro v135 v136 μ137 hO; exact False.elim hO
                | succ n138 ihn138 =>
                  intro v135 v136 μ137 hO
                  refine r_iload hC 0 dX11_lumps_69 rfl ?_
                  refine r_if_eq hC 231 dX11_lumps_71 (by decide) (fun h139 => ?_) (fun h139 => ?_)
                  · have hO := hO.1 h139
                    refine r_iload hC 1 dX11_lumps_231 rfl ?_
                    exact r_iret hC rfl dX11_lumps_233 hO
                  · have hO := hO.2 h139
                    refine r_iload hC 1 dX11_lumps_74 rfl ?_
                    refine r_iload_n hC 5 dX11_lumps_76 rfl rfl ?_
                    refine r_icmp_ge hC 231 dX11_lumps_77 (by decide) (fun h140 => ?_) (fun h140 => ?_)
                    · have hO := hO.1 h140
                      refine r_iload hC 1 dX11_lumps_231 rfl ?_
                      exact r_iret hC rfl dX11_lumps_233 hO
                    · have hO := hO.2 h140
                      refine r_iload_n hC 4 dX11_lumps_80 rfl rfl ?_
                      refine r_aload_n hC 2 dX11_lumps_81 rfl rfl ?_
                      refine r_getR hC 24 fl11_79 ob11 rfl dX11_lumps_82 ?_
                      refine r_iload_n hC 3 dX11_lumps_85 rfl rfl ?_
                      obtain ⟨g141, hO⟩ := hO
                      refine r_iald hC sh11_60 g141 p1.toNatClampNeg rfl dX11_lumps_86 ?_
                      refine r_iconst hC 4 dX11_lumps_87 (by decide) ?_
                      refine r_isub hC dX11_lumps_88 ?_
                      refine r_iconst hC 4 dX11_lumps_89 (by decide) ?_
                      refine r_iload hC 1 dX11_lumps_90 rfl ?_
                      refine r_imul hC dX11_lumps_92 ?_
                      refine r_isub hC dX11_lumps_93 ?_
                      refine r_icmp_gt hC 110 dX11_lumps_94 (by decide) (fun h142 => ?_) (fun h142 => ?_)
                      · have hO := hO.1 h142
                        refine r_iconst hC 0 dX11_lumps_110 (by decide) ?_
                        refine r_istore hC [(5, .int 0), (4, .int v136), (0, .ref (mw_a G 0)), (1, .int p1), (2, .int p2), (3, .int p3)] dX11_lumps_111 (by decide) rfl ?_
                        refine r_bipush hC 60 dX11_lumps_113 (by decide) ?_
                        refine r_iload_n hC 3 dX11_lumps_115 rfl rfl ?_
                        refine r_imul hC dX11_lumps_116 ?_
                        refine r_iload_n hC 4 dX11_lumps_117 rfl rfl ?_
                        refine r_iadd hC dX11_lumps_118 ?_
                        refine r_iconst hC 4 dX11_lumps_119 (by decide) ?_
                        refine r_iload hC 1 dX11_lumps_120 rfl ?_
                        refine r_imul hC dX11_lumps_122 ?_
                        refine r_iadd hC dX11_lumps_123 ?_
                        refine r_nmI (fun x143 hx143 => ?_)
                        have hO := hO x143 hx143
                        refine r_istore hC [(6, .int x143), (5, .int 0), (4, .int v136), (0, .ref (mw_a G 0)), (1, .int p1), (2, .int p2), (3, .int p3)] dX11_lumps_124 (by decide) rfl ?_
                        refine r_iload hC 1 dX11_lumps_126 rfl ?_
                        refine r_if_eq hC 175 dX11_lumps_128 (by decide) (fun _ => ?_) (fun h => absurd (by decide) h)
                        refine r_iconst hC 0 dX11_lumps_175 (by decide) ?_
                        refine r_istore hC [(5, .int 0), (6, .int x143), (4, .int v136), (0, .ref (mw_a G 0)), (1, .int p1), (2, .int p2), (3, .int p3)] dX11_lumps_176 (by decide) rfl ?_
                        refine r_iload hC 0 dX11_lumps_178 rfl ?_
                        refine r_if_eq hC 228 dX11_lumps_180 (by decide) (fun _ => ?_) (fun h => absurd (by decide) h)
                        refine r_goto hC 69 dX11_lumps_228 (by decide) ?_
                        refine r_lv hC [(5, .int 0), (4, .int v136), (0, .ref (mw_a G 0)), (1, .int p1), (2, .int p2), (3, .int p3)] [0, 2, 3, 4, 5, 6] rfl ?_
                        exact ihn138 0 v136 μ137 hO
                      · have hO := hO.2 h142
                        refine r_aload_n hC 2 dX11_lumps_97 rfl rfl ?_
                        refine r_getI hC fl11_103 ob11 rfl dX11_lumps_98 ?_
                        refine r_bipush hC 12 dX11_lumps_101 (by decide) ?_
                        refine r_icmp_ge hC 110 dX11_lumps_103 (by decide) (fun h144 => ?_) (fun h144 => ?_)
                        · have hO := hO.1 h144
                          refine r_iconst hC 0 dX11_lumps_110 (by decide) ?_
                          refine r_istore hC [(5, .int 0), (4, .int v136), (0, .ref (mw_a G 0)), (1, .int p1), (2, .int p2), (3, .int p3)] dX11_lumps_111 (by decide) rfl ?_
                          refine r_bipush hC 60 dX11_lumps_113 (by decide) ?_
                          refine r_iload_n hC 3 dX11_lumps_115 rfl rfl ?_
                          refine r_imul hC dX11_lumps_116 ?_
                          refine r_iload_n hC 4 dX11_lumps_117 rfl rfl ?_
                          refine r_iadd hC dX11_lumps_118 ?_
                          refine r_iconst hC 4 dX11_lumps_119 (by decide) ?_
                          refine r_iload hC 1 dX11_lumps_120 rfl ?_
                          refine r_imul hC dX11_lumps_122 ?_
                          refine r_iadd hC dX11_lumps_123 ?_
                          refine r_nmI (fun x145 hx145 => ?_)
                          have hO := hO x145 hx145
                          refine r_istore hC [(6, .int x145), (5, .int 0), (4, .int v136), (0, .ref (mw_a G 0)), (1, .int p1), (2, .int p2), (3, .int p3)] dX11_lumps_124 (by decide) rfl ?_
                          refine r_iload hC 1 dX11_lumps_126 rfl ?_
                          refine r_if_eq hC 175 dX11_lumps_128 (by decide) (fun _ => ?_) (fun h => absurd (by decide) h)
                          refine r_iconst hC 0 dX11_lumps_175 (by decide) ?_
                          refine r_istore hC [(5, .int 0), (6, .int x145), (4, .int v136), (0, .ref (mw_a G 0)), (1, .int p1), (2, .int p2), (3, .int p3)] dX11_lumps_176 (by decide) rfl ?_
                          refine r_iload hC 0 dX11_lumps_178 rfl ?_
                          refine r_if_eq hC 228 dX11_lumps_180 (by decide) (fun _ => ?_) (fun h => absurd (by decide) h)
                          refine r_goto hC 69 dX11_lumps_228 (by decide) ?_
                          refine r_lv hC [(5, .int 0), (4, .int v136), (0, .ref (mw_a G 0)), (1, .int p1), (2, .int p2), (3, .int p3)] [0, 2, 3, 4, 5, 6] rfl ?_
                          exact ihn138 0 v136 μ137 hO
                        · have hO := hO.2 h144
                          refine r_iconst hC 1 dX11_lumps_106 (by decide) ?_
                          refine r_goto hC 111 dX11_lumps_107 (by decide) ?_
                          refine r_istore hC [(5, .int 1), (4, .int v136), (0, .ref (mw_a G 0)), (1, .int p1), (2, .int p2), (3, .int p3)] dX11_lumps_111 (by decide) rfl ?_
                          refine r_bipush hC 60 dX11_lumps_113 (by decide) ?_
                          refine r_iload_n hC 3 dX11_lumps_115 rfl rfl ?_
                          refine r_imul hC dX11_lumps_116 ?_
                          refine r_iload_n hC 4 dX11_lumps_117 rfl rfl ?_
                          refine r_iadd hC dX11_lumps_118 ?_
                          refine r_iconst hC 4 dX11_lumps_119 (by decide) ?_
                          refine r_iload hC 1 dX11_lumps_120 rfl ?_
                          refine r_imul hC dX11_lumps_122 ?_
                          refine r_iadd hC dX11_lumps_123 ?_
                          refine r_nmI (fun x146 hx146 => ?_)
                          have hO := hO x146 hx146
                          refine r_istore hC [(6, .int x146), (5, .int 1), (4, .int v136), (0, .ref (mw_a G 0)), (1, .int p1), (2, .int p2), (3, .int p3)] dX11_lumps_124 (by decide) rfl ?_
                          refine r_iload hC 1 dX11_lumps_126 rfl ?_
                          refine r_if_eq hC 175 dX11_lumps_128 (by decide) (fun h => absurd h (by decide)) (fun _ => ?_)
                          refine r_aload_n hC 3 dX11_lumps_131 rfl rfl ?_
                          refine r_getR hC 25 fl11_82 ob11 rfl dX11_lumps_132 ?_
                          refine r_iload hC 0 dX11_lumps_135 rfl ?_
                          obtain ⟨g147, hO⟩ := hO
                          refine r_lald hC sh11_61 g147 x146.toNatClampNeg rfl dX11_lumps_137 ?_
                          refine r_aload_n hC 3 dX11_lumps_138 rfl rfl ?_
                          refine r_getR hC 25 fl11_82 ob11 rfl dX11_lumps_139 ?_
                          refine r_iload hC 0 dX11_lumps_142 rfl ?_
                          refine r_iconst hC 1 dX11_lumps_144 (by decide) ?_
                          refine r_iadd hC dX11_lumps_145 ?_
                          obtain ⟨g148, hO⟩ := hO
                          refine r_lald hC sh11_61 g148 ((x146 + 1).toNatClampNeg) rfl dX11_lumps_146 ?_
                          refine r_aload_n hC 3 dX11_lumps_147 rfl rfl ?_
                          refine r_getR hC 25 fl11_82 ob11 rfl dX11_lumps_148 ?_
                          refine r_iload hC 0 dX11_lumps_151 rfl ?_
                          refine r_iconst hC 2 dX11_lumps_153 (by decide) ?_
                          refine r_iadd hC dX11_lumps_154 ?_
                          obtain ⟨g149, hO⟩ := hO
                          refine r_lald hC sh11_61 g149 ((x146 + 2).toNatClampNeg) rfl dX11_lumps_155 ?_
                          refine r_aload_n hC 3 dX11_lumps_156 rfl rfl ?_
                          refine r_getR hC 25 fl11_82 ob11 rfl dX11_lumps_157 ?_
                          refine r_iload hC 0 dX11_lumps_160 rfl ?_
                          refine r_iconst hC 3 dX11_lumps_162 (by decide) ?_
                          refine r_iadd hC dX11_lumps_163 ?_
                          obtain ⟨g150, hO⟩ := hO
                          refine r_lald hC sh11_61 g150 ((x146 + 3).toNatClampNeg) rfl dX11_lumps_164 ?_
                          refine r_callSi hC [.long (μ137.2 25 x146.toNatClampNeg), .long (μ137.2 25 ((x146 + 1).toNatClampNeg)), .long (μ137.2 25 ((x146 + 2).toNatClampNeg)), .long (μ137.2 25 ((x146 + 3).toNatClampNeg))] (T11_isOne  hO) yv11_isOne ml11_118 ⟨Nat.le_of_ble_eq_true rfl, Nat.le_of_ble_eq_true rfl⟩ rfl rfl (Nat.le_of_ble_eq_true rfl) dX11_lumps_165 (fun r151 μ152 hO => ?_)
                          rcases hO with ⟨hr, hO⟩ | ⟨hr, hO⟩
                          · refine r_topEq hr ?_
                            obtain ⟨hO, hm⟩ := hO
                            refine r_memEq hm ?_
                            refine r_if_eq hC 175 dX11_lumps_168 (by decide) (fun h => absurd h (by decide)) (fun _ => ?_)
                            refine r_iconst hC 1 dX11_lumps_171 (by decide) ?_
                            refine r_goto hC 176 dX11_lumps_172 (by decide) ?_
                            refine r_istore hC [(5, .int 1), (6, .int x146), (4, .int v136), (0, .ref (mw_a G 0)), (1, .int p1), (2, .int p2), (3, .int p3)] dX11_lumps_176 (by decide) rfl ?_
                            refine r_iload hC 0 dX11_lumps_178 rfl ?_
                            refine r_if_eq hC 228 dX11_lumps_180 (by decide) (fun h => absurd h (by decide)) (fun _ => ?_)
                            refine r_aload_n hC 3 dX11_lumps_183 rfl rfl ?_
                            refine r_aload_n hC 3 dX11_lumps_184 rfl rfl ?_
                            refine r_getR hC 25 fl11_82 ob11 rfl dX11_lumps_185 ?_
                            refine r_iload hC 1 dX11_lumps_188 rfl ?_
                            obtain ⟨g153, hO⟩ := hO
                            refine r_lald hC sh11_61 g153 x146.toNatClampNeg rfl dX11_lumps_190 ?_
                            refine r_l2i hC dX11_lumps_191 ?_
                            refine r_aload_n hC 3 dX11_lumps_192 rfl rfl ?_
                            refine r_getR hC 25 fl11_82 ob11 rfl dX11_lumps_193 ?_
                            refine r_iload hC 1 dX11_lumps_196 rfl ?_
                            refine r_iconst hC 1 dX11_lumps_198 (by decide) ?_
                            refine r_iadd hC dX11_lumps_199 ?_
                            obtain ⟨g154, hO⟩ := hO
                            refine r_lald hC sh11_61 g154 ((x146 + 1).toNatClampNeg) rfl dX11_lumps_200 ?_
                            refine r_l2i hC dX11_lumps_201 ?_
                            refine r_aload_n hC 3 dX11_lumps_202 rfl rfl ?_
                            refine r_getR hC 25 fl11_82 ob11 rfl dX11_lumps_203 ?_
                            refine r_iload hC 1 dX11_lumps_206 rfl ?_
                            refine r_iconst hC 2 dX11_lumps_208 (by decide) ?_
                            refine r_iadd hC dX11_lumps_209 ?_
                            obtain ⟨g155, hO⟩ := hO
                            refine r_lald hC sh11_61 g155 ((x146 + 2).toNatClampNeg) rfl dX11_lumps_210 ?_
                            refine r_l2i hC dX11_lumps_211 ?_
                            refine r_aload_n hC 3 dX11_lumps_212 rfl rfl ?_
                            refine r_getR hC 25 fl11_82 ob11 rfl dX11_lumps_213 ?_
                            refine r_iload hC 1 dX11_lumps_216 rfl ?_
                            refine r_iconst hC 3 dX11_lumps_218 (by decide) ?_
                            refine r_iadd hC dX11_lumps_219 ?_
                            obtain ⟨g156, hO⟩ := hO
                            refine r_lald hC sh11_61 g156 ((x146 + 3).toNatClampNeg) rfl dX11_lumps_220 ?_
                            refine r_l2i hC dX11_lumps_221 ?_
                            refine r_callVv hC [.int (Int64.toInt32 (μ137.2 25 x146.toNatClampNeg)), .int (Int64.toInt32 (μ137.2 25 ((x146 + 1).toNatClampNeg))), .int (Int64.toInt32 (μ137.2 25 ((x146 + 2).toNatClampNeg))), .int (Int64.toInt32 (μ137.2 25 ((x146 + 3).toNatClampNeg)))] (T11_adds  hO) yv11_adds ml11_122 ob11 rfl ⟨Nat.le_of_ble_eq_true rfl, Nat.le_of_ble_eq_true rfl⟩ rfl rfl (Nat.le_of_ble_eq_true rfl) dX11_lumps_222 (fun μ157 hO => ?_)
                            obtain ⟨x158, hx158⟩ : ∃ y : Int32, y = v136 + 1 := ⟨_, rfl⟩
                            have hO := hO x158 hx158
                            refine r_iinc hC x158 2 [(4, .int x158), (5, .int 1), (6, .int x146), (0, .ref (mw_a G 0)), (1, .int p1), (2, .int p2), (3, .int p3)] dX11_lumps_225 rfl (by rw [hx158]; rfl) (by decide) rfl ?_
                            refine r_goto hC 69 dX11_lumps_228 (by decide) ?_
                            refine r_lv hC [(5, .int 1), (4, .int x158), (0, .ref (mw_a G 0)), (1, .int p1), (2, .int p2), (3, .int p3)] [1, 0, 3, 4, 5, 6] rfl ?_
                            exact ihn138 1 x158 μ157 hO
                          · refine r_topEq hr ?_
                            obtain ⟨hO, hm⟩ := hO
                            refine r_memEq hm ?_
                            refine r_if_eq hC 175 dX11_lumps_168 (by decide) (fun _ => ?_) (fun h => absurd (by decide) h)
                            refine r_iconst hC 0 dX11_lumps_175 (by decide) ?_
                            refine r_istore hC [(5, .int 0), (6, .int x146), (4, .int v136), (0, .ref (mw_a G 0)), (1, .int p1), (2, .int p2), (3, .int p3)] dX11_lumps_176 (by decide) rfl ?_
                            refine r_iload hC 0 dX11_lumps_178 rfl ?_
                            refine r_if_eq hC 228 dX11_lumps_180 (by decide) (fun _ => ?_) (fun h => absurd (by decide) h)
                            refine r_goto hC 69 dX11_lumps_228 (by decide) ?_
                            refine r_lv hC [(5, .int 0), (4, .int v136), (0, .ref (mw_a G 0)), (1, .int p1), (2, .int p2), (3, .int p3)] [0, 2, 3, 4, 5, 6] rfl ?_
                            exact ihn138 0 v136 μ137 hO
              obtain ⟨n138, hO⟩ := hO
              refine hLn138   n138 _ _ _ hO
        · have hO := hO.2 h83
          refine r_bipush hC (-12) dX11_lumps_41 (by decide) ?_
          exact r_iret hC rfl dX11_lumps_43 hO
    · refine r_topEq hr ?_
      obtain ⟨hO, hm⟩ := hO
      refine r_memEq hm ?_
      refine r_if_ne hC 21 dX11_lumps_16 (by decide) (fun h => absurd (by decide) h) (fun _ => ?_)
      refine r_iconst hC (-1) dX11_lumps_19 (by decide) ?_
      exact r_iret hC rfl dX11_lumps_20 hO
  · refine r_topEq hr ?_
    obtain ⟨hO, hm⟩ := hO
    refine r_memEq hm ?_
    refine r_if_eq hC 19 dX11_lumps_4 (by decide) (fun _ => ?_) (fun h => absurd (by decide) h)
    refine r_iconst hC (-1) dX11_lumps_19 (by decide) ?_
    exact r_iret hC rfl dX11_lumps_20 hO
