set_option maxHeartbeats 4000000 in
set_option maxRecDepth 100000 in
theorem T11_one_s {l : Launch} {G : mw_G} {fr lo : Nat} (hfr : 2 ≤ fr) (hlo : 41 ≤ lo) {c1 : mw_M → (Int32 → mw_M → Prop) → Prop} {c6 : mw_M → (Int32 → mw_M → Prop) → Prop} (hc1 : ∀  (μ : mw_M) (Q : Int32 → mw_M → Prop), c1 μ Q → mw_Mi l G kdM yX11_either cX11_either 3 (some .int) fr lo [.ref (mw_a G 0)] μ (Q)) (hc6 : ∀  (μ : mw_M) (Q : Int32 → mw_M → Prop), c6 μ Q → mw_Mi l G kdM yX11_one cX11_one 5 (some .int) fr lo [.ref (mw_a G 0)] μ (Q))  {μ : mw_M} {Q : Int32 → mw_M → Prop}  (hO : S11_one c1 c6 μ Q) : mw_Mi l G kdM yX11_one cX11_one 5 (some .int) (fr + 1) (lo + 24) [.ref (mw_a G 0)] μ (Q) := by
  refine mw_enter [(0, .ref (mw_a G 0))] RX11 (by decide) rfl (Nat.le_of_ble_eq_true rfl) rfl ?_
  intro p e s m args below meth c hC
  unfold S11_one at hO
  refine r_aload_n hC 0 dX11_one_0 rfl rfl ?_
  refine r_getI hC fl11_199 ob11 rfl dX11_one_1 ?_
  refine r_if_lt hC 9 dX11_one_4 (by decide) (fun h1 => ?_) (fun h1 => ?_)
  · have hO := hO.1 h1
    refine r_aload_n hC 0 dX11_one_9 rfl rfl ?_
    refine r_callVi hC [] (T11_byteAt  hO) yv11_byteAt ml11_202 ob11 rfl (by constructor <;> (simp only [mw_rm]; omega)) rfl rfl (Nat.le_of_ble_eq_true rfl) dX11_one_10 (fun r2 μ3 hO => ?_)
    obtain ⟨hO, hm⟩ := hO
    refine r_memEq hm ?_
    refine r_istore_n hC [(1, .int r2), (0, .ref (mw_a G 0))] dX11_one_13 rfl (by decide) rfl ?_
    refine r_iload_n hC 0 dX11_one_14 rfl rfl ?_
    refine r_bipush hC 33 dX11_one_15 (by decide) ?_
    refine r_icmp_eq hC 32 dX11_one_17 (by decide) (fun h4 => ?_) (fun h4 => ?_)
    · have hO := hO.1 h4
      refine r_aload_n hC 1 dX11_one_32 rfl rfl ?_
      refine r_getI hC fl11_223 ob11 rfl dX11_one_33 ?_
      refine r_bipush hC 6 dX11_one_36 (by decide) ?_
      refine r_icmp_ne hC 46 dX11_one_38 (by decide) (fun h5 => ?_) (fun h5 => ?_)
      · have hO := hO.2 h5
        refine r_aload_n hC 1 dX11_one_46 rfl rfl ?_
        refine r_dup hC dX11_one_47 rfl ?_
        refine r_getI hC fl11_223 ob11 rfl dX11_one_48 ?_
        refine r_iconst hC 1 dX11_one_51 (by decide) ?_
        refine r_iadd hC dX11_one_52 ?_
        refine r_putI hC fl11_223 ob11 rfl rfl rfl dX11_one_53 ?_
        refine r_nmM (fun μ6 hμ6 => ?_)
        have hO := hO μ6 hμ6
        refine r_aload_n hC 1 dX11_one_56 rfl rfl ?_
        refine r_dup hC dX11_one_57 rfl ?_
        refine r_getI hC fl11_190 ob11 rfl dX11_one_58 ?_
        refine r_iconst hC 1 dX11_one_61 (by decide) ?_
        refine r_iadd hC dX11_one_62 ?_
        refine r_putI hC fl11_190 ob11 rfl rfl rfl dX11_one_63 ?_
        refine r_nmM (fun μ7 hμ7 => ?_)
        have hO := hO μ7 hμ7
        refine r_iload_n hC 0 dX11_one_66 rfl rfl ?_
        refine r_bipush hC 40 dX11_one_67 (by decide) ?_
        refine r_icmp_ne hC 79 dX11_one_69 (by decide) (fun h8 => ?_) (fun h8 => ?_)
        · have hO := hO.2 h8
          refine r_aload_n hC 1 dX11_one_79 rfl rfl ?_
          refine r_callVi hC [] (hc6  _ _ hO) yv11_one ml11_220 ob11 rfl (by constructor <;> (simp only [mw_rm]; omega)) rfl rfl (Nat.le_of_ble_eq_true rfl) dX11_one_80 (fun r9 μ10 hO => ?_)
          refine r_istore_n hC [(2, .int r9), (1, .int r2), (0, .ref (mw_a G 0))] dX11_one_83 rfl (by decide) rfl ?_
          refine r_iload_n hC 1 dX11_one_84 rfl rfl ?_
          refine r_bipush hC 40 dX11_one_85 (by decide) ?_
          refine r_icmp_ne hC 104 dX11_one_87 (by decide) (fun h11 => ?_) (fun h11 => ?_)
          · have hO := hO.2 h11
            refine r_aload_n hC 2 dX11_one_104 rfl rfl ?_
            refine r_dup hC dX11_one_105 rfl ?_
            refine r_getI hC fl11_223 ob11 rfl dX11_one_106 ?_
            refine r_iconst hC 1 dX11_one_109 (by decide) ?_
            refine r_isub hC dX11_one_110 ?_
            refine r_putI hC fl11_223 ob11 rfl rfl rfl dX11_one_111 ?_
            refine r_nmM (fun μ12 hμ12 => ?_)
            have hO := hO μ12 hμ12
            refine r_iload_n hC 1 dX11_one_114 rfl rfl ?_
            refine r_bipush hC 40 dX11_one_115 (by decide) ?_
            refine r_icmp_ne hC 124 dX11_one_117 (by decide) (fun h13 => ?_) (fun h13 => ?_)
            · have hO := hO.2 h13
              refine r_iload_n hC 1 dX11_one_124 rfl rfl ?_
              refine r_bipush hC 45 dX11_one_125 (by decide) ?_
              refine r_icmp_ne hC 135 dX11_one_127 (by decide) (fun h14 => ?_) (fun h14 => ?_)
              · have hO := hO.2 h14
                refine r_iload_n hC 0 dX11_one_135 rfl rfl ?_
                refine r_if_ne hC 143 dX11_one_136 (by decide) (fun h15 => ?_) (fun h15 => ?_)
                · have hO := hO.2 h15
                  refine r_iconst hC 0 dX11_one_143 (by decide) ?_
                  exact r_iret hC rfl dX11_one_144 hO
                · have hO := hO.1 h15
                  refine r_iconst hC 1 dX11_one_139 (by decide) ?_
                  refine r_goto hC 144 dX11_one_140 (by decide) ?_
                  exact r_iret hC rfl dX11_one_144 hO
              · have hO := hO.1 h14
                refine r_iload_n hC 0 dX11_one_130 rfl rfl ?_
                refine r_ineg hC dX11_one_131 ?_
                refine r_goto hC 144 dX11_one_132 (by decide) ?_
                exact r_iret hC rfl dX11_one_144 hO
            · have hO := hO.1 h13
              refine r_iload_n hC 0 dX11_one_120 rfl rfl ?_
              refine r_goto hC 144 dX11_one_121 (by decide) ?_
              exact r_iret hC rfl dX11_one_144 hO
          · have hO := hO.1 h11
            refine r_aload_n hC 2 dX11_one_90 rfl rfl ?_
            refine r_bipush hC 41 dX11_one_91 (by decide) ?_
            refine r_callVi hC [.int 41] (T11_takes  hO) yv11_takes ml11_208 ob11 rfl (by constructor <;> (simp only [mw_rm]; omega)) rfl rfl (Nat.le_of_ble_eq_true rfl) dX11_one_93 (fun r16 μ17 hO => ?_)
            rcases hO with ⟨hr, hO⟩ | ⟨hr, hO⟩
            · refine r_topEq hr ?_
              refine r_if_ne hC 104 dX11_one_96 (by decide) (fun _ => ?_) (fun h => absurd h (by decide))
              refine r_aload_n hC 2 dX11_one_104 rfl rfl ?_
              refine r_dup hC dX11_one_105 rfl ?_
              refine r_getI hC fl11_223 ob11 rfl dX11_one_106 ?_
              refine r_iconst hC 1 dX11_one_109 (by decide) ?_
              refine r_isub hC dX11_one_110 ?_
              refine r_putI hC fl11_223 ob11 rfl rfl rfl dX11_one_111 ?_
              refine r_nmM (fun μ18 hμ18 => ?_)
              have hO := hO μ18 hμ18
              refine r_iload_n hC 1 dX11_one_114 rfl rfl ?_
              refine r_bipush hC 40 dX11_one_115 (by decide) ?_
              refine r_icmp_ne hC 124 dX11_one_117 (by decide) (fun h19 => ?_) (fun h19 => ?_)
              · have hO := hO.2 h19
                refine r_iload_n hC 1 dX11_one_124 rfl rfl ?_
                refine r_bipush hC 45 dX11_one_125 (by decide) ?_
                refine r_icmp_ne hC 135 dX11_one_127 (by decide) (fun h20 => ?_) (fun h20 => ?_)
                · have hO := hO.2 h20
                  refine r_iload_n hC 0 dX11_one_135 rfl rfl ?_
                  refine r_if_ne hC 143 dX11_one_136 (by decide) (fun h21 => ?_) (fun h21 => ?_)
                  · have hO := hO.2 h21
                    refine r_iconst hC 0 dX11_one_143 (by decide) ?_
                    exact r_iret hC rfl dX11_one_144 hO
                  · have hO := hO.1 h21
                    refine r_iconst hC 1 dX11_one_139 (by decide) ?_
                    refine r_goto hC 144 dX11_one_140 (by decide) ?_
                    exact r_iret hC rfl dX11_one_144 hO
                · have hO := hO.1 h20
                  refine r_iload_n hC 0 dX11_one_130 rfl rfl ?_
                  refine r_ineg hC dX11_one_131 ?_
                  refine r_goto hC 144 dX11_one_132 (by decide) ?_
                  exact r_iret hC rfl dX11_one_144 hO
              · have hO := hO.1 h19
                refine r_iload_n hC 0 dX11_one_120 rfl rfl ?_
                refine r_goto hC 144 dX11_one_121 (by decide) ?_
                exact r_iret hC rfl dX11_one_144 hO
            · refine r_topEq hr ?_
              refine r_if_ne hC 104 dX11_one_96 (by decide) (fun h => absurd (by decide) h) (fun _ => ?_)
              refine r_aload_n hC 2 dX11_one_99 rfl rfl ?_
              refine r_callVi hC [] (T11_wrong  hO) yv11_wrong ml11_226 ob11 rfl (by constructor <;> (simp only [mw_rm]; omega)) rfl rfl (Nat.le_of_ble_eq_true rfl) dX11_one_100 (fun r22 μ23 hO => ?_)
              exact r_iret hC rfl dX11_one_103 hO
        · have hO := hO.1 h8
          refine r_aload_n hC 1 dX11_one_72 rfl rfl ?_
          refine r_callVi hC [] (hc1  _ _ hO) yv11_either ml11_229 ob11 rfl (by constructor <;> (simp only [mw_rm]; omega)) rfl rfl (Nat.le_of_ble_eq_true rfl) dX11_one_73 (fun r24 μ25 hO => ?_)
          refine r_goto hC 83 dX11_one_76 (by decide) ?_
          refine r_istore_n hC [(2, .int r24), (1, .int r2), (0, .ref (mw_a G 0))] dX11_one_83 rfl (by decide) rfl ?_
          refine r_iload_n hC 1 dX11_one_84 rfl rfl ?_
          refine r_bipush hC 40 dX11_one_85 (by decide) ?_
          refine r_icmp_ne hC 104 dX11_one_87 (by decide) (fun h26 => ?_) (fun h26 => ?_)
          · have hO := hO.2 h26
            refine r_aload_n hC 2 dX11_one_104 rfl rfl ?_
            refine r_dup hC dX11_one_105 rfl ?_
            refine r_getI hC fl11_223 ob11 rfl dX11_one_106 ?_
            refine r_iconst hC 1 dX11_one_109 (by decide) ?_
            refine r_isub hC dX11_one_110 ?_
            refine r_putI hC fl11_223 ob11 rfl rfl rfl dX11_one_111 ?_
            refine r_nmM (fun μ27 hμ27 => ?_)
            have hO := hO μ27 hμ27
            refine r_iload_n hC 1 dX11_one_114 rfl rfl ?_
            refine r_bipush hC 40 dX11_one_115 (by decide) ?_
            refine r_icmp_ne hC 124 dX11_one_117 (by decide) (fun h28 => ?_) (fun h28 => ?_)
            · have hO := hO.2 h28
              refine r_iload_n hC 1 dX11_one_124 rfl rfl ?_
              refine r_bipush hC 45 dX11_one_125 (by decide) ?_
              refine r_icmp_ne hC 135 dX11_one_127 (by decide) (fun h29 => ?_) (fun h29 => ?_)
              · have hO := hO.2 h29
                refine r_iload_n hC 0 dX11_one_135 rfl rfl ?_
                refine r_if_ne hC 143 dX11_one_136 (by decide) (fun h30 => ?_) (fun h30 => ?_)
                · have hO := hO.2 h30
                  refine r_iconst hC 0 dX11_one_143 (by decide) ?_
                  exact r_iret hC rfl dX11_one_144 hO
                · have hO := hO.1 h30
                  refine r_iconst hC 1 dX11_one_139 (by decide) ?_
                  refine r_goto hC 144 dX11_one_140 (by decide) ?_
                  exact r_iret hC rfl dX11_one_144 hO
              · have hO := hO.1 h29
                refine r_iload_n hC 0 dX11_one_130 rfl rfl ?_
                refine r_ineg hC dX11_one_131 ?_
                refine r_goto hC 144 dX11_one_132 (by decide) ?_
                exact r_iret hC rfl dX11_one_144 hO
            · have hO := hO.1 h28
              refine r_iload_n hC 0 dX11_one_120 rfl rfl ?_
              refine r_goto hC 144 dX11_one_121 (by decide) ?_
              exact r_iret hC rfl dX11_one_144 hO
          · have hO := hO.1 h26
            refine r_aload_n hC 2 dX11_one_90 rfl rfl ?_
            refine r_bipush hC 41 dX11_one_91 (by decide) ?_
            refine r_callVi hC [.int 41] (T11_takes  hO) yv11_takes ml11_208 ob11 rfl (by constructor <;> (simp only [mw_rm]; omega)) rfl rfl (Nat.le_of_ble_eq_true rfl) dX11_one_93 (fun r31 μ32 hO => ?_)
            rcases hO with ⟨hr, hO⟩ | ⟨hr, hO⟩
            · refine r_topEq hr ?_
              refine r_if_ne hC 104 dX11_one_96 (by decide) (fun _ => ?_) (fun h => absurd h (by decide))
              refine r_aload_n hC 2 dX11_one_104 rfl rfl ?_
              refine r_dup hC dX11_one_105 rfl ?_
              refine r_getI hC fl11_223 ob11 rfl dX11_one_106 ?_
              refine r_iconst hC 1 dX11_one_109 (by decide) ?_
              refine r_isub hC dX11_one_110 ?_
              refine r_putI hC fl11_223 ob11 rfl rfl rfl dX11_one_111 ?_
              refine r_nmM (fun μ33 hμ33 => ?_)
              have hO := hO μ33 hμ33
              refine r_iload_n hC 1 dX11_one_114 rfl rfl ?_
              refine r_bipush hC 40 dX11_one_115 (by decide) ?_
              refine r_icmp_ne hC 124 dX11_one_117 (by decide) (fun h34 => ?_) (fun h34 => ?_)
              · have hO := hO.2 h34
                refine r_iload_n hC 1 dX11_one_124 rfl rfl ?_
                refine r_bipush hC 45 dX11_one_125 (by decide) ?_
                refine r_icmp_ne hC 135 dX11_one_127 (by decide) (fun h35 => ?_) (fun h35 => ?_)
                · have hO := hO.2 h35
                  refine r_iload_n hC 0 dX11_one_135 rfl rfl ?_
                  refine r_if_ne hC 143 dX11_one_136 (by decide) (fun h36 => ?_) (fun h36 => ?_)
                  · have hO := hO.2 h36
                    refine r_iconst hC 0 dX11_one_143 (by decide) ?_
                    exact r_iret hC rfl dX11_one_144 hO
                  · have hO := hO.1 h36
                    refine r_iconst hC 1 dX11_one_139 (by decide) ?_
                    refine r_goto hC 144 dX11_one_140 (by decide) ?_
                    exact r_iret hC rfl dX11_one_144 hO
                · have hO := hO.1 h35
                  refine r_iload_n hC 0 dX11_one_130 rfl rfl ?_
                  refine r_ineg hC dX11_one_131 ?_
                  refine r_goto hC 144 dX11_one_132 (by decide) ?_
                  exact r_iret hC rfl dX11_one_144 hO
              · have hO := hO.1 h34
                refine r_iload_n hC 0 dX11_one_120 rfl rfl ?_
                refine r_goto hC 144 dX11_one_121 (by decide) ?_
                exact r_iret hC rfl dX11_one_144 hO
            · refine r_topEq hr ?_
              refine r_if_ne hC 104 dX11_one_96 (by decide) (fun h => absurd (by decide) h) (fun _ => ?_)
              refine r_aload_n hC 2 dX11_one_99 rfl rfl ?_
              refine r_callVi hC [] (T11_wrong  hO) yv11_wrong ml11_226 ob11 rfl (by constructor <;> (simp only [mw_rm]; omega)) rfl rfl (Nat.le_of_ble_eq_true rfl) dX11_one_100 (fun r37 μ38 hO => ?_)
              exact r_iret hC rfl dX11_one_103 hO
      · have hO := hO.1 h5
        refine r_aload_n hC 1 dX11_one_41 rfl rfl ?_
        refine r_callVi hC [] (T11_wrong  hO) yv11_wrong ml11_226 ob11 rfl (by constructor <;> (simp only [mw_rm]; omega)) rfl rfl (Nat.le_of_ble_eq_true rfl) dX11_one_42 (fun r39 μ40 hO => ?_)
        exact r_iret hC rfl dX11_one_45 hO
    · have hO := hO.2 h4
      refine r_iload_n hC 0 dX11_one_20 rfl rfl ?_
      refine r_bipush hC 45 dX11_one_21 (by decide) ?_
      refine r_icmp_eq hC 32 dX11_one_23 (by decide) (fun h41 => ?_) (fun h41 => ?_)
      · have hO := hO.1 h41
        refine r_aload_n hC 1 dX11_one_32 rfl rfl ?_
        refine r_getI hC fl11_223 ob11 rfl dX11_one_33 ?_
        refine r_bipush hC 6 dX11_one_36 (by decide) ?_
        refine r_icmp_ne hC 46 dX11_one_38 (by decide) (fun h42 => ?_) (fun h42 => ?_)
        · have hO := hO.2 h42
          refine r_aload_n hC 1 dX11_one_46 rfl rfl ?_
          refine r_dup hC dX11_one_47 rfl ?_
          refine r_getI hC fl11_223 ob11 rfl dX11_one_48 ?_
          refine r_iconst hC 1 dX11_one_51 (by decide) ?_
          refine r_iadd hC dX11_one_52 ?_
          refine r_putI hC fl11_223 ob11 rfl rfl rfl dX11_one_53 ?_
          refine r_nmM (fun μ43 hμ43 => ?_)
          have hO := hO μ43 hμ43
          refine r_aload_n hC 1 dX11_one_56 rfl rfl ?_
          refine r_dup hC dX11_one_57 rfl ?_
          refine r_getI hC fl11_190 ob11 rfl dX11_one_58 ?_
          refine r_iconst hC 1 dX11_one_61 (by decide) ?_
          refine r_iadd hC dX11_one_62 ?_
          refine r_putI hC fl11_190 ob11 rfl rfl rfl dX11_one_63 ?_
          refine r_nmM (fun μ44 hμ44 => ?_)
          have hO := hO μ44 hμ44
          refine r_iload_n hC 0 dX11_one_66 rfl rfl ?_
          refine r_bipush hC 40 dX11_one_67 (by decide) ?_
          refine r_icmp_ne hC 79 dX11_one_69 (by decide) (fun h45 => ?_) (fun h45 => ?_)
          · have hO := hO.2 h45
            refine r_aload_n hC 1 dX11_one_79 rfl rfl ?_
            refine r_callVi hC [] (hc6  _ _ hO) yv11_one ml11_220 ob11 rfl (by constructor <;> (simp only [mw_rm]; omega)) rfl rfl (Nat.le_of_ble_eq_true rfl) dX11_one_80 (fun r46 μ47 hO => ?_)
            refine r_istore_n hC [(2, .int r46), (1, .int r2), (0, .ref (mw_a G 0))] dX11_one_83 rfl (by decide) rfl ?_
            refine r_iload_n hC 1 dX11_one_84 rfl rfl ?_
            refine r_bipush hC 40 dX11_one_85 (by decide) ?_
            refine r_icmp_ne hC 104 dX11_one_87 (by decide) (fun h48 => ?_) (fun h48 => ?_)
            · have hO := hO.2 h48
              refine r_aload_n hC 2 dX11_one_104 rfl rfl ?_
              refine r_dup hC dX11_one_105 rfl ?_
              refine r_getI hC fl11_223 ob11 rfl dX11_one_106 ?_
              refine r_iconst hC 1 dX11_one_109 (by decide) ?_
              refine r_isub hC dX11_one_110 ?_
              refine r_putI hC fl11_223 ob11 rfl rfl rfl dX11_one_111 ?_
              refine r_nmM (fun μ49 hμ49 => ?_)
              have hO := hO μ49 hμ49
              refine r_iload_n hC 1 dX11_one_114 rfl rfl ?_
              refine r_bipush hC 40 dX11_one_115 (by decide) ?_
              refine r_icmp_ne hC 124 dX11_one_117 (by decide) (fun h50 => ?_) (fun h50 => ?_)
              · have hO := hO.2 h50
                refine r_iload_n hC 1 dX11_one_124 rfl rfl ?_
                refine r_bipush hC 45 dX11_one_125 (by decide) ?_
                refine r_icmp_ne hC 135 dX11_one_127 (by decide) (fun h51 => ?_) (fun h51 => ?_)
                · have hO := hO.2 h51
                  refine r_iload_n hC 0 dX11_one_135 rfl rfl ?_
                  refine r_if_ne hC 143 dX11_one_136 (by decide) (fun h52 => ?_) (fun h52 => ?_)
                  · have hO := hO.2 h52
                    refine r_iconst hC 0 dX11_one_143 (by decide) ?_
                    exact r_iret hC rfl dX11_one_144 hO
                  · have hO := hO.1 h52
                    refine r_iconst hC 1 dX11_one_139 (by decide) ?_
                    refine r_goto hC 144 dX11_one_140 (by decide) ?_
                    exact r_iret hC rfl dX11_one_144 hO
                · have hO := hO.1 h51
                  refine r_iload_n hC 0 dX11_one_130 rfl rfl ?_
                  refine r_ineg hC dX11_one_131 ?_
                  refine r_goto hC 144 dX11_one_132 (by decide) ?_
                  exact r_iret hC rfl dX11_one_144 hO
              · have hO := hO.1 h50
                refine r_iload_n hC 0 dX11_one_120 rfl rfl ?_
                refine r_goto hC 144 dX11_one_121 (by decide) ?_
                exact r_iret hC rfl dX11_one_144 hO
            · have hO := hO.1 h48
              refine r_aload_n hC 2 dX11_one_90 rfl rfl ?_
              refine r_bipush hC 41 dX11_one_91 (by decide) ?_
              refine r_callVi hC [.int 41] (T11_takes  hO) yv11_takes ml11_208 ob11 rfl (by constructor <;> (simp only [mw_rm]; omega)) rfl rfl (Nat.le_of_ble_eq_true rfl) dX11_one_93 (fun r53 μ54 hO => ?_)
              rcases hO with ⟨hr, hO⟩ | ⟨hr, hO⟩
              · refine r_topEq hr ?_
                refine r_if_ne hC 104 dX11_one_96 (by decide) (fun _ => ?_) (fun h => absurd h (by decide))
                refine r_aload_n hC 2 dX11_one_104 rfl rfl ?_
                refine r_dup hC dX11_one_105 rfl ?_
                refine r_getI hC fl11_223 ob11 rfl dX11_one_106 ?_
                refine r_iconst hC 1 dX11_one_109 (by decide) ?_
                refine r_isub hC dX11_one_110 ?_
                refine r_putI hC fl11_223 ob11 rfl rfl rfl dX11_one_111 ?_
                refine r_nmM (fun μ55 hμ55 => ?_)
                have hO := hO μ55 hμ55
                refine r_iload_n hC 1 dX11_one_114 rfl rfl ?_
                refine r_bipush hC 40 dX11_one_115 (by decide) ?_
                refine r_icmp_ne hC 124 dX11_one_117 (by decide) (fun h56 => ?_) (fun h56 => ?_)
                · have hO := hO.2 h56
                  refine r_iload_n hC 1 dX11_one_124 rfl rfl ?_
                  refine r_bipush hC 45 dX11_one_125 (by decide) ?_
                  refine r_icmp_ne hC 135 dX11_one_127 (by decide) (fun h57 => ?_) (fun h57 => ?_)
                  · have hO := hO.2 h57
                    refine r_iload_n hC 0 dX11_one_135 rfl rfl ?_
                    refine r_if_ne hC 143 dX11_one_136 (by decide) (fun h58 => ?_) (fun h58 => ?_)
                    · have hO := hO.2 h58
                      refine r_iconst hC 0 dX11_one_143 (by decide) ?_
                      exact r_iret hC rfl dX11_one_144 hO
                    · have hO := hO.1 h58
                      refine r_iconst hC 1 dX11_one_139 (by decide) ?_
                      refine r_goto hC 144 dX11_one_140 (by decide) ?_
                      exact r_iret hC rfl dX11_one_144 hO
                  · have hO := hO.1 h57
                    refine r_iload_n hC 0 dX11_one_130 rfl rfl ?_
                    refine r_ineg hC dX11_one_131 ?_
                    refine r_goto hC 144 dX11_one_132 (by decide) ?_
                    exact r_iret hC rfl dX11_one_144 hO
                · have hO := hO.1 h56
                  refine r_iload_n hC 0 dX11_one_120 rfl rfl ?_
                  refine r_goto hC 144 dX11_one_121 (by decide) ?_
                  exact r_iret hC rfl dX11_one_144 hO
              · refine r_topEq hr ?_
                refine r_if_ne hC 104 dX11_one_96 (by decide) (fun h => absurd (by decide) h) (fun _ => ?_)
                refine r_aload_n hC 2 dX11_one_99 rfl rfl ?_
                refine r_callVi hC [] (T11_wrong  hO) yv11_wrong ml11_226 ob11 rfl (by constructor <;> (simp only [mw_rm]; omega)) rfl rfl (Nat.le_of_ble_eq_true rfl) dX11_one_100 (fun r59 μ60 hO => ?_)
                exact r_iret hC rfl dX11_one_103 hO
          · have hO := hO.1 h45
            refine r_aload_n hC 1 dX11_one_72 rfl rfl ?_
            refine r_callVi hC [] (hc1  _ _ hO) yv11_either ml11_229 ob11 rfl (by constructor <;> (simp only [mw_rm]; omega)) rfl rfl (Nat.le_of_ble_eq_true rfl) dX11_one_73 (fun r61 μ62 hO => ?_)
            refine r_goto hC 83 dX11_one_76 (by decide) ?_
            refine r_istore_n hC [(2, .int r61), (1, .int r2), (0, .ref (mw_a G 0))] dX11_one_83 rfl (by decide) rfl ?_
            refine r_iload_n hC 1 dX11_one_84 rfl rfl ?_
            refine r_bipush hC 40 dX11_one_85 (by decide) ?_
            refine r_icmp_ne hC 104 dX11_one_87 (by decide) (fun h63 => ?_) (fun h63 => ?_)
            · have hO := hO.2 h63
              refine r_aload_n hC 2 dX11_one_104 rfl rfl ?_
              refine r_dup hC dX11_one_105 rfl ?_
              refine r_getI hC fl11_223 ob11 rfl dX11_one_106 ?_
              refine r_iconst hC 1 dX11_one_109 (by decide) ?_
              refine r_isub hC dX11_one_110 ?_
              refine r_putI hC fl11_223 ob11 rfl rfl rfl dX11_one_111 ?_
              refine r_nmM (fun μ64 hμ64 => ?_)
              have hO := hO μ64 hμ64
              refine r_iload_n hC 1 dX11_one_114 rfl rfl ?_
              refine r_bipush hC 40 dX11_one_115 (by decide) ?_
              refine r_icmp_ne hC 124 dX11_one_117 (by decide) (fun h65 => ?_) (fun h65 => ?_)
              · have hO := hO.2 h65
                refine r_iload_n hC 1 dX11_one_124 rfl rfl ?_
                refine r_bipush hC 45 dX11_one_125 (by decide) ?_
                refine r_icmp_ne hC 135 dX11_one_127 (by decide) (fun h66 => ?_) (fun h66 => ?_)
                · have hO := hO.2 h66
                  refine r_iload_n hC 0 dX11_one_135 rfl rfl ?_
                  refine r_if_ne hC 143 dX11_one_136 (by decide) (fun h67 => ?_) (fun h67 => ?_)
                  · have hO := hO.2 h67
                    refine r_iconst hC 0 dX11_one_143 (by decide) ?_
                    exact r_iret hC rfl dX11_one_144 hO
                  · have hO := hO.1 h67
                    refine r_iconst hC 1 dX11_one_139 (by decide) ?_
                    refine r_goto hC 144 dX11_one_140 (by decide) ?_
                    exact r_iret hC rfl dX11_one_144 hO
                · have hO := hO.1 h66
                  refine r_iload_n hC 0 dX11_one_130 rfl rfl ?_
                  refine r_ineg hC dX11_one_131 ?_
                  refine r_goto hC 144 dX11_one_132 (by decide) ?_
                  exact r_iret hC rfl dX11_one_144 hO
              · have hO := hO.1 h65
                refine r_iload_n hC 0 dX11_one_120 rfl rfl ?_
                refine r_goto hC 144 dX11_one_121 (by decide) ?_
                exact r_iret hC rfl dX11_one_144 hO
            · have hO := hO.1 h63
              refine r_aload_n hC 2 dX11_one_90 rfl rfl ?_
              refine r_bipush hC 41 dX11_one_91 (by decide) ?_
              refine r_callVi hC [.int 41] (T11_takes  hO) yv11_takes ml11_208 ob11 rfl (by constructor <;> (simp only [mw_rm]; omega)) rfl rfl (Nat.le_of_ble_eq_true rfl) dX11_one_93 (fun r68 μ69 hO => ?_)
              rcases hO with ⟨hr, hO⟩ | ⟨hr, hO⟩
              · refine r_topEq hr ?_
                refine r_if_ne hC 104 dX11_one_96 (by decide) (fun _ => ?_) (fun h => absurd h (by decide))
                refine r_aload_n hC 2 dX11_one_104 rfl rfl ?_
                refine r_dup hC dX11_one_105 rfl ?_
                refine r_getI hC fl11_223 ob11 rfl dX11_one_106 ?_
                refine r_iconst hC 1 dX11_one_109 (by decide) ?_
                refine r_isub hC dX11_one_110 ?_
                refine r_putI hC fl11_223 ob11 rfl rfl rfl dX11_one_111 ?_
                refine r_nmM (fun μ70 hμ70 => ?_)
                have hO := hO μ70 hμ70
                refine r_iload_n hC 1 dX11_one_114 rfl rfl ?_
                refine r_bipush hC 40 dX11_one_115 (by decide) ?_
                refine r_icmp_ne hC 124 dX11_one_117 (by decide) (fun h71 => ?_) (fun h71 => ?_)
                · have hO := hO.2 h71
                  refine r_iload_n hC 1 dX11_one_124 rfl rfl ?_
                  refine r_bipush hC 45 dX11_one_125 (by decide) ?_
                  refine r_icmp_ne hC 135 dX11_one_127 (by decide) (fun h72 => ?_) (fun h72 => ?_)
                  · have hO := hO.2 h72
                    refine r_iload_n hC 0 dX11_one_135 rfl rfl ?_
                    refine r_if_ne hC 143 dX11_one_136 (by decide) (fun h73 => ?_) (fun h73 => ?_)
                    · have hO := hO.2 h73
                      refine r_iconst hC 0 dX11_one_143 (by decide) ?_
                      exact r_iret hC rfl dX11_one_144 hO
                    · have hO := hO.1 h73
                      refine r_iconst hC 1 dX11_one_139 (by decide) ?_
                      refine r_goto hC 144 dX11_one_140 (by decide) ?_
                      exact r_iret hC rfl dX11_one_144 hO
                  · have hO := hO.1 h72
                    refine r_iload_n hC 0 dX11_one_130 rfl rfl ?_
                    refine r_ineg hC dX11_one_131 ?_
                    refine r_goto hC 144 dX11_one_132 (by decide) ?_
                    exact r_iret hC rfl dX11_one_144 hO
                · have hO := hO.1 h71
                  refine r_iload_n hC 0 dX11_one_120 rfl rfl ?_
                  refine r_goto hC 144 dX11_one_121 (by decide) ?_
                  exact r_iret hC rfl dX11_one_144 hO
              · refine r_topEq hr ?_
                refine r_if_ne hC 104 dX11_one_96 (by decide) (fun h => absurd (by decide) h) (fun _ => ?_)
                refine r_aload_n hC 2 dX11_one_99 rfl rfl ?_
                refine r_callVi hC [] (T11_wrong  hO) yv11_wrong ml11_226 ob11 rfl (by constructor <;> (simp only [mw_rm]; omega)) rfl rfl (Nat.le_of_ble_eq_true rfl) dX11_one_100 (fun r74 μ75 hO => ?_)
                exact r_iret hC rfl dX11_one_103 hO
        · have hO := hO.1 h42
          refine r_aload_n hC 1 dX11_one_41 rfl rfl ?_
          refine r_callVi hC [] (T11_wrong  hO) yv11_wrong ml11_226 ob11 rfl (by constructor <;> (simp only [mw_rm]; omega)) rfl rfl (Nat.le_of_ble_eq_true rfl) dX11_one_42 (fun r76 μ77 hO => ?_)
          exact r_iret hC rfl dX11_one_45 hO
      · have hO := hO.2 h41
        refine r_iload_n hC 0 dX11_one_26 rfl rfl ?_
        refine r_bipush hC 40 dX11_one_27 (by decide) ?_
        refine r_icmp_ne hC 145 dX11_one_29 (by decide) (fun h78 => ?_) (fun h78 => ?_)
        · have hO := hO.2 h78
          refine r_iload_n hC 0 dX11_one_145 rfl rfl ?_
          refine r_callSi hC [.int r2] (T11_nameOf  hO) yv11_nameOf ml11_232 (by constructor <;> (simp only [mw_rm]; omega)) rfl rfl (Nat.le_of_ble_eq_true rfl) dX11_one_146 (fun r79 μ80 hO => ?_)
          obtain ⟨hO, hm⟩ := hO
          refine r_memEq hm ?_
          refine r_istore_n hC [(2, .int r79), (1, .int r2), (0, .ref (mw_a G 0))] dX11_one_149 rfl (by decide) rfl ?_
          refine r_iload_n hC 0 dX11_one_150 rfl rfl ?_
          refine r_if_lt hC 171 dX11_one_151 (by decide) (fun h81 => ?_) (fun h81 => ?_)
          · have hO := hO.1 h81
            refine r_iconst hC 0 dX11_one_171 (by decide) ?_
            refine r_istore_n hC [(3, .int 0), (2, .int r79), (1, .int r2), (0, .ref (mw_a G 0))] dX11_one_172 rfl (by decide) rfl ?_
            refine r_iconst hC 0 dX11_one_173 (by decide) ?_
            refine r_istore hC [(4, .int 0), (3, .int 0), (2, .int r79), (1, .int r2), (0, .ref (mw_a G 0))] dX11_one_174 (by decide) rfl ?_
            have hLn85 : ∀  (K1 : Int32 → Int32 → mw_M → Prop) (hK1 : ∀ (v82 : Int32) (v83 : Int32) (μ84 : mw_M), K1 v82 v83 μ84 → mw_W p l e (mw_rm (fr + 1) (lo + 24)) s m args below meth c G kdM 5 (MQ below (va_Qi (Q) (mw_B G kdM) (mw_A G kdM)) args s 0 0 (mw_A G kdM)) 229 [(4, .int v82), (3, .int v83), (2, .int r79), (1, .int r2), (0, .ref (mw_a G 0))] [] μ84) (n85 : Nat) (v82 : Int32) (v83 : Int32) (μ84 : mw_M), L11_one_176 c1 c6 r79 r2 Q K1 n85 v82 v83 μ84 → mw_W p l e (mw_rm (fr + 1) (lo + 24)) s m args below meth c G kdM 5 (MQ below (va_Qi (Q) (mw_B G kdM) (mw_A G kdM)) args s 0 0 (mw_A G kdM)) 176 [(4, .int v82), (3, .int v83), (2, .int r79), (1, .int r2), (0, .ref (mw_a G 0))] [] μ84 := by
              intro  K1 hK1 n85
              induction n85 with
              | zero => intro v82 v83 μ84 hO; exact False.elim hO
              | succ n85 ihn85 =>
                intro v82 v83 μ84 hO
                refine r_iload hC 0 dX11_one_176 rfl ?_
                refine r_iconst hC 4 dX11_one_178 (by decide) ?_
                refine r_icmp_ge hC 229 dX11_one_179 (by decide) (fun h86 => ?_) (fun h86 => ?_)
                · have hO := hO.1 h86
                  refine r_lv hC [(4, .int v82), (3, .int v83), (2, .int r79), (1, .int r2), (0, .ref (mw_a G 0))] [0, 1, 2, 3, 4] rfl ?_
                  exact hK1 v82 v83 μ84 hO
                · have hO := hO.2 h86
                  refine r_aload_n hC 4 dX11_one_182 rfl rfl ?_
                  refine r_callVi hC [] (T11_byteAt  hO) yv11_byteAt ml11_202 ob11 rfl (by constructor <;> (simp only [mw_rm]; omega)) rfl rfl (Nat.le_of_ble_eq_true rfl) dX11_one_183 (fun r87 μ88 hO => ?_)
                  obtain ⟨hO, hm⟩ := hO
                  refine r_memEq hm ?_
                  refine r_bipush hC 48 dX11_one_186 (by decide) ?_
                  refine r_icmp_lt hC 229 dX11_one_188 (by decide) (fun h89 => ?_) (fun h89 => ?_)
                  · have hO := hO.1 h89
                    refine r_lv hC [(4, .int v82), (3, .int v83), (2, .int r79), (1, .int r2), (0, .ref (mw_a G 0))] [0, 1, 2, 3, 4] rfl ?_
                    exact hK1 v82 v83 μ84 hO
                  · have hO := hO.2 h89
                    refine r_aload_n hC 4 dX11_one_191 rfl rfl ?_
                    refine r_callVi hC [] (T11_byteAt  hO) yv11_byteAt ml11_202 ob11 rfl (by constructor <;> (simp only [mw_rm]; omega)) rfl rfl (Nat.le_of_ble_eq_true rfl) dX11_one_192 (fun r90 μ91 hO => ?_)
                    obtain ⟨hO, hm⟩ := hO
                    refine r_memEq hm ?_
                    refine r_bipush hC 57 dX11_one_195 (by decide) ?_
                    refine r_icmp_gt hC 229 dX11_one_197 (by decide) (fun h92 => ?_) (fun h92 => ?_)
                    · have hO := hO.1 h92
                      refine r_lv hC [(4, .int v82), (3, .int v83), (2, .int r79), (1, .int r2), (0, .ref (mw_a G 0))] [0, 1, 2, 3, 4] rfl ?_
                      exact hK1 v82 v83 μ84 hO
                    · have hO := hO.2 h92
                      refine r_bipush hC 10 dX11_one_200 (by decide) ?_
                      refine r_iload_n hC 1 dX11_one_202 rfl rfl ?_
                      refine r_imul hC dX11_one_203 ?_
                      refine r_aload_n hC 4 dX11_one_204 rfl rfl ?_
                      refine r_callVi hC [] (T11_byteAt  hO) yv11_byteAt ml11_202 ob11 rfl (by constructor <;> (simp only [mw_rm]; omega)) rfl rfl (Nat.le_of_ble_eq_true rfl) dX11_one_205 (fun r93 μ94 hO => ?_)
                      obtain ⟨hO, hm⟩ := hO
                      refine r_memEq hm ?_
                      refine r_iadd hC dX11_one_208 ?_
                      refine r_bipush hC 48 dX11_one_209 (by decide) ?_
                      refine r_isub hC dX11_one_211 ?_
                      refine r_nmI (fun x95 hx95 => ?_)
                      have hO := hO x95 hx95
                      refine r_istore_n hC [(3, .int x95), (4, .int v82), (2, .int r79), (1, .int r2), (0, .ref (mw_a G 0))] dX11_one_212 rfl (by decide) rfl ?_
                      obtain ⟨x96, hx96⟩ : ∃ y : Int32, y = v82 + 1 := ⟨_, rfl⟩
                      have hO := hO x96 hx96
                      refine r_iinc hC x96 1 [(4, .int x96), (3, .int x95), (2, .int r79), (1, .int r2), (0, .ref (mw_a G 0))] dX11_one_213 rfl (by rw [hx96]; rfl) (by decide) rfl ?_
                      refine r_aload_n hC 4 dX11_one_216 rfl rfl ?_
                      refine r_dup hC dX11_one_217 rfl ?_
                      refine r_getI hC fl11_190 ob11 rfl dX11_one_218 ?_
                      refine r_iconst hC 1 dX11_one_221 (by decide) ?_
                      refine r_iadd hC dX11_one_222 ?_
                      refine r_putI hC fl11_190 ob11 rfl rfl rfl dX11_one_223 ?_
                      refine r_nmM (fun μ97 hμ97 => ?_)
                      have hO := hO μ97 hμ97
                      refine r_goto hC 176 dX11_one_226 (by decide) ?_
                      refine r_lv hC [(4, .int x96), (3, .int x95), (2, .int r79), (1, .int r2), (0, .ref (mw_a G 0))] [0, 1, 2, 3, 4] rfl ?_
                      exact ihn85 x96 x95 μ97 hO
            obtain ⟨n85, hO⟩ := hO
            refine hLn85  _ (fun v82 v83 μ84 hO => ?_) n85 _ _ _ hO
            refine r_iload hC 0 dX11_one_229 rfl ?_
            refine r_if_ne hC 241 dX11_one_231 (by decide) (fun h98 => ?_) (fun h98 => ?_)
            · have hO := hO.2 h98
              refine r_iload_n hC 1 dX11_one_241 rfl rfl ?_
              exact r_iret hC rfl dX11_one_242 hO
            · have hO := hO.1 h98
              refine r_aload_n hC 4 dX11_one_234 rfl rfl ?_
              refine r_callVi hC [] (T11_wrong  hO) yv11_wrong ml11_226 ob11 rfl (by constructor <;> (simp only [mw_rm]; omega)) rfl rfl (Nat.le_of_ble_eq_true rfl) dX11_one_235 (fun r99 μ100 hO => ?_)
              refine r_goto hC 242 dX11_one_238 (by decide) ?_
              exact r_iret hC rfl dX11_one_242 hO
          · have hO := hO.2 h81
            refine r_aload_n hC 2 dX11_one_154 rfl rfl ?_
            refine r_dup hC dX11_one_155 rfl ?_
            refine r_getI hC fl11_190 ob11 rfl dX11_one_156 ?_
            refine r_iconst hC 1 dX11_one_159 (by decide) ?_
            refine r_iadd hC dX11_one_160 ?_
            refine r_putI hC fl11_190 ob11 rfl rfl rfl dX11_one_161 ?_
            refine r_nmM (fun μ101 hμ101 => ?_)
            have hO := hO μ101 hμ101
            refine r_aload_n hC 2 dX11_one_164 rfl rfl ?_
            refine r_getR hC 13 fl11_46 ob11 rfl dX11_one_165 ?_
            refine r_iload_n hC 0 dX11_one_168 rfl rfl ?_
            obtain ⟨g102, hO⟩ := hO
            refine r_iald hC sh11_24 g102 r79.toNatClampNeg rfl dX11_one_169 ?_
            exact r_iret hC rfl dX11_one_170 hO
        · have hO := hO.1 h78
          refine r_aload_n hC 1 dX11_one_32 rfl rfl ?_
          refine r_getI hC fl11_223 ob11 rfl dX11_one_33 ?_
          refine r_bipush hC 6 dX11_one_36 (by decide) ?_
          refine r_icmp_ne hC 46 dX11_one_38 (by decide) (fun h103 => ?_) (fun h103 => ?_)
          · have hO := hO.2 h103
            refine r_aload_n hC 1 dX11_one_46 rfl rfl ?_
            refine r_dup hC dX11_one_47 rfl ?_
            refine r_getI hC fl11_223 ob11 rfl dX11_one_48 ?_
            refine r_iconst hC 1 dX11_one_51 (by decide) ?_
            refine r_iadd hC dX11_one_52 ?_
            refine r_putI hC fl11_223 ob11 rfl rfl rfl dX11_one_53 ?_
            refine r_nmM (fun μ104 hμ104 => ?_)
            have hO := hO μ104 hμ104
            refine r_aload_n hC 1 dX11_one_56 rfl rfl ?_
            refine r_dup hC dX11_one_57 rfl ?_
            refine r_getI hC fl11_190 ob11 rfl dX11_one_58 ?_
            refine r_iconst hC 1 dX11_one_61 (by decide) ?_
            refine r_iadd hC dX11_one_62 ?_
            refine r_putI hC fl11_190 ob11 rfl rfl rfl dX11_one_63 ?_
            refine r_nmM (fun μ105 hμ105 => ?_)
            have hO := hO μ105 hμ105
            refine r_iload_n hC 0 dX11_one_66 rfl rfl ?_
            refine r_bipush hC 40 dX11_one_67 (by decide) ?_
            refine r_icmp_ne hC 79 dX11_one_69 (by decide) (fun h106 => ?_) (fun h106 => ?_)
            · have hO := hO.2 h106
              refine r_aload_n hC 1 dX11_one_79 rfl rfl ?_
              refine r_callVi hC [] (hc6  _ _ hO) yv11_one ml11_220 ob11 rfl (by constructor <;> (simp only [mw_rm]; omega)) rfl rfl (Nat.le_of_ble_eq_true rfl) dX11_one_80 (fun r107 μ108 hO => ?_)
              refine r_istore_n hC [(2, .int r107), (1, .int r2), (0, .ref (mw_a G 0))] dX11_one_83 rfl (by decide) rfl ?_
              refine r_iload_n hC 1 dX11_one_84 rfl rfl ?_
              refine r_bipush hC 40 dX11_one_85 (by decide) ?_
              refine r_icmp_ne hC 104 dX11_one_87 (by decide) (fun h109 => ?_) (fun h109 => ?_)
              · have hO := hO.2 h109
                refine r_aload_n hC 2 dX11_one_104 rfl rfl ?_
                refine r_dup hC dX11_one_105 rfl ?_
                refine r_getI hC fl11_223 ob11 rfl dX11_one_106 ?_
                refine r_iconst hC 1 dX11_one_109 (by decide) ?_
                refine r_isub hC dX11_one_110 ?_
                refine r_putI hC fl11_223 ob11 rfl rfl rfl dX11_one_111 ?_
                refine r_nmM (fun μ110 hμ110 => ?_)
                have hO := hO μ110 hμ110
                refine r_iload_n hC 1 dX11_one_114 rfl rfl ?_
                refine r_bipush hC 40 dX11_one_115 (by decide) ?_
                refine r_icmp_ne hC 124 dX11_one_117 (by decide) (fun h111 => ?_) (fun h111 => ?_)
                · have hO := hO.2 h111
                  refine r_iload_n hC 1 dX11_one_124 rfl rfl ?_
                  refine r_bipush hC 45 dX11_one_125 (by decide) ?_
                  refine r_icmp_ne hC 135 dX11_one_127 (by decide) (fun h112 => ?_) (fun h112 => ?_)
                  · have hO := hO.2 h112
                    refine r_iload_n hC 0 dX11_one_135 rfl rfl ?_
                    refine r_if_ne hC 143 dX11_one_136 (by decide) (fun h113 => ?_) (fun h113 => ?_)
                    · have hO := hO.2 h113
                      refine r_iconst hC 0 dX11_one_143 (by decide) ?_
                      exact r_iret hC rfl dX11_one_144 hO
                    · have hO := hO.1 h113
                      refine r_iconst hC 1 dX11_one_139 (by decide) ?_
                      refine r_goto hC 144 dX11_one_140 (by decide) ?_
                      exact r_iret hC rfl dX11_one_144 hO
                  · have hO := hO.1 h112
                    refine r_iload_n hC 0 dX11_one_130 rfl rfl ?_
                    refine r_ineg hC dX11_one_131 ?_
                    refine r_goto hC 144 dX11_one_132 (by decide) ?_
                    exact r_iret hC rfl dX11_one_144 hO
                · have hO := hO.1 h111
                  refine r_iload_n hC 0 dX11_one_120 rfl rfl ?_
                  refine r_goto hC 144 dX11_one_121 (by decide) ?_
                  exact r_iret hC rfl dX11_one_144 hO
              · have hO := hO.1 h109
                refine r_aload_n hC 2 dX11_one_90 rfl rfl ?_
                refine r_bipush hC 41 dX11_one_91 (by decide) ?_
                refine r_callVi hC [.int 41] (T11_takes  hO) yv11_takes ml11_208 ob11 rfl (by constructor <;> (simp only [mw_rm]; omega)) rfl rfl (Nat.le_of_ble_eq_true rfl) dX11_one_93 (fun r114 μ115 hO => ?_)
                rcases hO with ⟨hr, hO⟩ | ⟨hr, hO⟩
                · refine r_topEq hr ?_
                  refine r_if_ne hC 104 dX11_one_96 (by decide) (fun _ => ?_) (fun h => absurd h (by decide))
                  refine r_aload_n hC 2 dX11_one_104 rfl rfl ?_
                  refine r_dup hC dX11_one_105 rfl ?_
                  refine r_getI hC fl11_223 ob11 rfl dX11_one_106 ?_
                  refine r_iconst hC 1 dX11_one_109 (by decide) ?_
                  refine r_isub hC dX11_one_110 ?_
                  refine r_putI hC fl11_223 ob11 rfl rfl rfl dX11_one_111 ?_
                  refine r_nmM (fun μ116 hμ116 => ?_)
                  have hO := hO μ116 hμ116
                  refine r_iload_n hC 1 dX11_one_114 rfl rfl ?_
                  refine r_bipush hC 40 dX11_one_115 (by decide) ?_
                  refine r_icmp_ne hC 124 dX11_one_117 (by decide) (fun h117 => ?_) (fun h117 => ?_)
                  · have hO := hO.2 h117
                    refine r_iload_n hC 1 dX11_one_124 rfl rfl ?_
                    refine r_bipush hC 45 dX11_one_125 (by decide) ?_
                    refine r_icmp_ne hC 135 dX11_one_127 (by decide) (fun h118 => ?_) (fun h118 => ?_)
                    · have hO := hO.2 h118
                      refine r_iload_n hC 0 dX11_one_135 rfl rfl ?_
                      refine r_if_ne hC 143 dX11_one_136 (by decide) (fun h119 => ?_) (fun h119 => ?_)
                      · have hO := hO.2 h119
                        refine r_iconst hC 0 dX11_one_143 (by decide) ?_
                        exact r_iret hC rfl dX11_one_144 hO
                      · have hO := hO.1 h119
                        refine r_iconst hC 1 dX11_one_139 (by decide) ?_
                        refine r_goto hC 144 dX11_one_140 (by decide) ?_
                        exact r_iret hC rfl dX11_one_144 hO
                    · have hO := hO.1 h118
                      refine r_iload_n hC 0 dX11_one_130 rfl rfl ?_
                      refine r_ineg hC dX11_one_131 ?_
                      refine r_goto hC 144 dX11_one_132 (by decide) ?_
                      exact r_iret hC rfl dX11_one_144 hO
                  · have hO := hO.1 h117
                    refine r_iload_n hC 0 dX11_one_120 rfl rfl ?_
                    refine r_goto hC 144 dX11_one_121 (by decide) ?_
                    exact r_iret hC rfl dX11_one_144 hO
                · refine r_topEq hr ?_
                  refine r_if_ne hC 104 dX11_one_96 (by decide) (fun h => absurd (by decide) h) (fun _ => ?_)
                  refine r_aload_n hC 2 dX11_one_99 rfl rfl ?_
                  refine r_callVi hC [] (T11_wrong  hO) yv11_wrong ml11_226 ob11 rfl (by constructor <;> (simp only [mw_rm]; omega)) rfl rfl (Nat.le_of_ble_eq_true rfl) dX11_one_100 (fun r120 μ121 hO => ?_)
                  exact r_iret hC rfl dX11_one_103 hO
            · have hO := hO.1 h106
              refine r_aload_n hC 1 dX11_one_72 rfl rfl ?_
              refine r_callVi hC [] (hc1  _ _ hO) yv11_either ml11_229 ob11 rfl (by constructor <;> (simp only [mw_rm]; omega)) rfl rfl (Nat.le_of_ble_eq_true rfl) dX11_one_73 (fun r122 μ123 hO => ?_)
              refine r_goto hC 83 dX11_one_76 (by decide) ?_
              refine r_istore_n hC [(2, .int r122), (1, .int r2), (0, .ref (mw_a G 0))] dX11_one_83 rfl (by decide) rfl ?_
              refine r_iload_n hC 1 dX11_one_84 rfl rfl ?_
              refine r_bipush hC 40 dX11_one_85 (by decide) ?_
              refine r_icmp_ne hC 104 dX11_one_87 (by decide) (fun h124 => ?_) (fun h124 => ?_)
              · have hO := hO.2 h124
                refine r_aload_n hC 2 dX11_one_104 rfl rfl ?_
                refine r_dup hC dX11_one_105 rfl ?_
                refine r_getI hC fl11_223 ob11 rfl dX11_one_106 ?_
                refine r_iconst hC 1 dX11_one_109 (by decide) ?_
                refine r_isub hC dX11_one_110 ?_
                refine r_putI hC fl11_223 ob11 rfl rfl rfl dX11_one_111 ?_
                refine r_nmM (fun μ125 hμ125 => ?_)
                have hO := hO μ125 hμ125
                refine r_iload_n hC 1 dX11_one_114 rfl rfl ?_
                refine r_bipush hC 40 dX11_one_115 (by decide) ?_
                refine r_icmp_ne hC 124 dX11_one_117 (by decide) (fun h126 => ?_) (fun h126 => ?_)
                · have hO := hO.2 h126
                  refine r_iload_n hC 1 dX11_one_124 rfl rfl ?_
                  refine r_bipush hC 45 dX11_one_125 (by decide) ?_
                  refine r_icmp_ne hC 135 dX11_one_127 (by decide) (fun h127 => ?_) (fun h127 => ?_)
                  · have hO := hO.2 h127
                    refine r_iload_n hC 0 dX11_one_135 rfl rfl ?_
                    refine r_if_ne hC 143 dX11_one_136 (by decide) (fun h128 => ?_) (fun h128 => ?_)
                    · have hO := hO.2 h128
                      refine r_iconst hC 0 dX11_one_143 (by decide) ?_
                      exact r_iret hC rfl dX11_one_144 hO
                    · have hO := hO.1 h128
                      refine r_iconst hC 1 dX11_one_139 (by decide) ?_
                      refine r_goto hC 144 dX11_one_140 (by decide) ?_
                      exact r_iret hC rfl dX11_one_144 hO
                  · have hO := hO.1 h127
                    refine r_iload_n hC 0 dX11_one_130 rfl rfl ?_
                    refine r_ineg hC dX11_one_131 ?_
                    refine r_goto hC 144 dX11_one_132 (by decide) ?_
                    exact r_iret hC rfl dX11_one_144 hO
                · have hO := hO.1 h126
                  refine r_iload_n hC 0 dX11_one_120 rfl rfl ?_
                  refine r_goto hC 144 dX11_one_121 (by decide) ?_
                  exact r_iret hC rfl dX11_one_144 hO
              · have hO := hO.1 h124
                refine r_aload_n hC 2 dX11_one_90 rfl rfl ?_
                refine r_bipush hC 41 dX11_one_91 (by decide) ?_
                refine r_callVi hC [.int 41] (T11_takes  hO) yv11_takes ml11_208 ob11 rfl (by constructor <;> (simp only [mw_rm]; omega)) rfl rfl (Nat.le_of_ble_eq_true rfl) dX11_one_93 (fun r129 μ130 hO => ?_)
                rcases hO with ⟨hr, hO⟩ | ⟨hr, hO⟩
                · refine r_topEq hr ?_
                  refine r_if_ne hC 104 dX11_one_96 (by decide) (fun _ => ?_) (fun h => absurd h (by decide))
                  refine r_aload_n hC 2 dX11_one_104 rfl rfl ?_
                  refine r_dup hC dX11_one_105 rfl ?_
                  refine r_getI hC fl11_223 ob11 rfl dX11_one_106 ?_
                  refine r_iconst hC 1 dX11_one_109 (by decide) ?_
                  refine r_isub hC dX11_one_110 ?_
                  refine r_putI hC fl11_223 ob11 rfl rfl rfl dX11_one_111 ?_
                  refine r_nmM (fun μ131 hμ131 => ?_)
                  have hO := hO μ131 hμ131
                  refine r_iload_n hC 1 dX11_one_114 rfl rfl ?_
                  refine r_bipush hC 40 dX11_one_115 (by decide) ?_
                  refine r_icmp_ne hC 124 dX11_one_117 (by decide) (fun h132 => ?_) (fun h132 => ?_)
                  · have hO := hO.2 h132
                    refine r_iload_n hC 1 dX11_one_124 rfl rfl ?_
                    refine r_bipush hC 45 dX11_one_125 (by decide) ?_
                    refine r_icmp_ne hC 135 dX11_one_127 (by decide) (fun h133 => ?_) (fun h133 => ?_)
                    · have hO := hO.2 h133
                      refine r_iload_n hC 0 dX11_one_135 rfl rfl ?_
                      refine r_if_ne hC 143 dX11_one_136 (by decide) (fun h134 => ?_) (fun h134 => ?_)
                      · have hO := hO.2 h134
                        refine r_iconst hC 0 dX11_one_143 (by decide) ?_
                        exact r_iret hC rfl dX11_one_144 hO
                      · have hO := hO.1 h134
                        refine r_iconst hC 1 dX11_one_139 (by decide) ?_
                        refine r_goto hC 144 dX11_one_140 (by decide) ?_
                        exact r_iret hC rfl dX11_one_144 hO
                    · have hO := hO.1 h133
                      refine r_iload_n hC 0 dX11_one_130 rfl rfl ?_
                      refine r_ineg hC dX11_one_131 ?_
                      refine r_goto hC 144 dX11_one_132 (by decide) ?_
                      exact r_iret hC rfl dX11_one_144 hO
                  · have hO := hO.1 h132
                    refine r_iload_n hC 0 dX11_one_120 rfl rfl ?_
                    refine r_goto hC 144 dX11_one_121 (by decide) ?_
                    exact r_iret hC rfl dX11_one_144 hO
                · refine r_topEq hr ?_
                  refine r_if_ne hC 104 dX11_one_96 (by decide) (fun h => absurd (by decide) h) (fun _ => ?_)
                  refine r_aload_n hC 2 dX11_one_99 rfl rfl ?_
                  refine r_callVi hC [] (T11_wrong  hO) yv11_wrong ml11_226 ob11 rfl (by constructor <;> (simp only [mw_rm]; omega)) rfl rfl (Nat.le_of_ble_eq_true rfl) dX11_one_100 (fun r135 μ136 hO => ?_)
                  exact r_iret hC rfl dX11_one_103 hO
          · have hO := hO.1 h103
            refine r_aload_n hC 1 dX11_one_41 rfl rfl ?_
            refine r_callVi hC [] (T11_wrong  hO) yv11_wrong ml11_226 ob11 rfl (by constructor <;> (simp only [mw_rm]; omega)) rfl rfl (Nat.le_of_ble_eq_true rfl) dX11_one_42 (fun r137 μ138 hO => ?_)
            exact r_iret hC rfl dX11_one_45 hO
  · have hO := hO.2 h1
    refine r_iconst hC 0 dX11_one_7 (by decide) ?_
    exact r_iret hC rfl dX11_one_8 hO
set_option maxHeartbeats 4000000 in
theorem TG2 {l : Launch} {G : mw_G} (n : Nat) : (∀  (μ : mw_M) (Q : Int32 → mw_M → Prop), (G2 n).1 μ Q → mw_Mi l G kdM yX11_either cX11_either 3 (some .int) (n + 2) (n * 24 + 41) [.ref (mw_a G 0)] μ (Q)) ∧ (∀  (μ : mw_M) (Q : Int32 → mw_M → Prop), (G2 n).2.1 μ Q → mw_Mi l G kdM yX11_both cX11_both 3 (some .int) (n + 2) (n * 24 + 41) [.ref (mw_a G 0)] μ (Q)) ∧ (∀  (μ : mw_M) (Q : Int32 → mw_M → Prop), (G2 n).2.2.1 μ Q → mw_Mi l G kdM yX11_compared cX11_compared 4 (some .int) (n + 2) (n * 24 + 41) [.ref (mw_a G 0)] μ (Q)) ∧ (∀  (μ : mw_M) (Q : Int32 → mw_M → Prop), (G2 n).2.2.2.1 μ Q → mw_Mi l G kdM yX11_sums cX11_sums 4 (some .int) (n + 2) (n * 24 + 41) [.ref (mw_a G 0)] μ (Q)) ∧ (∀  (μ : mw_M) (Q : Int32 → mw_M → Prop), (G2 n).2.2.2.2.1 μ Q → mw_Mi l G kdM yX11_product cX11_product 4 (some .int) (n + 2) (n * 24 + 41) [.ref (mw_a G 0)] μ (Q)) ∧ (∀  (μ : mw_M) (Q : Int32 → mw_M → Prop), (G2 n).2.2.2.2.2 μ Q → mw_Mi l G kdM yX11_one cX11_one 5 (some .int) (n + 2) (n * 24 + 41) [.ref (mw_a G 0)] μ (Q)) := by
  induction n with
  | zero => exact ⟨fun _ _ hO => False.elim hO, fun _ _ hO => False.elim hO, fun _ _ hO => False.elim hO, fun _ _ hO => False.elim hO, fun _ _ hO => False.elim hO, fun _ _ hO => False.elim hO⟩
  | succ n ih =>
    exact ⟨(fun  μ Q hO => by
      have h := T11_either_s (l := l) (G := G) (fr := n + 2) (lo := n * 24 + 41) (by omega) (by omega) (ih.2.1) hO
      rw [show n + 1 + 2 = n + 2 + 1 by omega, show (n + 1) * 24 + 41 = n * 24 + 41 + 24 by omega]
      exact h), (fun  μ Q hO => by
      have h := T11_both_s (l := l) (G := G) (fr := n + 2) (lo := n * 24 + 41) (by omega) (by omega) (ih.2.2.1) hO
      rw [show n + 1 + 2 = n + 2 + 1 by omega, show (n + 1) * 24 + 41 = n * 24 + 41 + 24 by omega]
      exact h), (fun  μ Q hO => by
      have h := T11_compared_s (l := l) (G := G) (fr := n + 2) (lo := n * 24 + 41) (by omega) (by omega) (ih.2.2.2.1) hO
      rw [show n + 1 + 2 = n + 2 + 1 by omega, show (n + 1) * 24 + 41 = n * 24 + 41 + 24 by omega]
      exact h), (fun  μ Q hO => by
      have h := T11_sums_s (l := l) (G := G) (fr := n + 2) (lo := n * 24 + 41) (by omega) (by omega) (ih.2.2.2.2.1) hO
      rw [show n + 1 + 2 = n + 2 + 1 by omega, show (n + 1) * 24 + 41 = n * 24 + 41 + 24 by omega]
      exact h), (fun  μ Q hO => by
      have h := T11_product_s (l := l) (G := G) (fr := n + 2) (lo := n * 24 + 41) (by omega) (by omega) (ih.2.2.2.2.2) hO
      rw [show n + 1 + 2 = n + 2 + 1 by omega, show (n + 1) * 24 + 41 = n * 24 + 41 + 24 by omega]
      exact h), (fun  μ Q hO => by
      have h := T11_one_s (l := l) (G := G) (fr := n + 2) (lo := n * 24 + 41) (by omega) (by omega) (ih.1) (ih.2.2.2.2.2) hO
      rw [show n + 1 + 2 = n + 2 + 1 by omega, show (n + 1) * 24 + 41 = n * 24 + 41 + 24 by omega]
      exact h)⟩
theorem T11_either {l : Launch} {G : mw_G}  {μ : mw_M} {Q : Int32 → mw_M → Prop} (hO : P11_either μ Q) : mw_Mi l G kdM yX11_either cX11_either 3 (some .int) 66 1577 [.ref (mw_a G 0)] μ (Q) := (TG2 (l := l) (G := G) 64).1  _ _ hO
theorem T11_both {l : Launch} {G : mw_G}  {μ : mw_M} {Q : Int32 → mw_M → Prop} (hO : P11_both μ Q) : mw_Mi l G kdM yX11_both cX11_both 3 (some .int) 66 1577 [.ref (mw_a G 0)] μ (Q) := (TG2 (l := l) (G := G) 64).2.1  _ _ hO
theorem T11_compared {l : Launch} {G : mw_G}  {μ : mw_M} {Q : Int32 → mw_M → Prop} (hO : P11_compared μ Q) : mw_Mi l G kdM yX11_compared cX11_compared 4 (some .int) 66 1577 [.ref (mw_a G 0)] μ (Q) := (TG2 (l := l) (G := G) 64).2.2.1  _ _ hO
theorem T11_sums {l : Launch} {G : mw_G}  {μ : mw_M} {Q : Int32 → mw_M → Prop} (hO : P11_sums μ Q) : mw_Mi l G kdM yX11_sums cX11_sums 4 (some .int) 66 1577 [.ref (mw_a G 0)] μ (Q) := (TG2 (l := l) (G := G) 64).2.2.2.1  _ _ hO
theorem T11_product {l : Launch} {G : mw_G}  {μ : mw_M} {Q : Int32 → mw_M → Prop} (hO : P11_product μ Q) : mw_Mi l G kdM yX11_product cX11_product 4 (some .int) 66 1577 [.ref (mw_a G 0)] μ (Q) := (TG2 (l := l) (G := G) 64).2.2.2.2.1  _ _ hO
theorem T11_one {l : Launch} {G : mw_G}  {μ : mw_M} {Q : Int32 → mw_M → Prop} (hO : P11_one μ Q) : mw_Mi l G kdM yX11_one cX11_one 5 (some .int) 66 1577 [.ref (mw_a G 0)] μ (Q) := (TG2 (l := l) (G := G) 64).2.2.2.2.2  _ _ hO
set_option maxHeartbeats 4000000 in
set_option maxRecDepth 100000 in
theorem T11_workOut {l : Launch} {G : mw_G} {p1 : Int32} {p2 : Int32} {μ : mw_M} {Q : Int32 → mw_M → Prop}  (hO : P11_workOut p1 p2 μ Q) : mw_Mi l G kdM yX11_workOut cX11_workOut 8 (some .int) 67 1599 [.ref (mw_a G 0), .int p1, .int p2] μ (Q) := by
  refine mw_enter [(0, .ref (mw_a G 0)), (1, .int p1), (2, .int p2)] RX11 (by decide) rfl (Nat.le_of_ble_eq_true rfl) rfl ?_
  intro p e s m args below meth c hC
  unfold P11_workOut at hO
  refine r_aload_n hC 0 dX11_workOut_0 rfl rfl ?_
  refine r_iload_n hC 1 dX11_workOut_1 rfl rfl ?_
  refine r_putI hC fl11_196 ob11 rfl rfl rfl dX11_workOut_2 ?_
  refine r_nmM (fun μ1 hμ1 => ?_)
  have hO := hO μ1 hμ1
  refine r_aload_n hC 0 dX11_workOut_5 rfl rfl ?_
  refine r_iconst hC 0 dX11_workOut_6 (by decide) ?_
  refine r_putI hC fl11_190 ob11 rfl rfl rfl dX11_workOut_7 ?_
  refine r_nmM (fun μ2 hμ2 => ?_)
  have hO := hO μ2 hμ2
  refine r_aload_n hC 0 dX11_workOut_10 rfl rfl ?_
  refine r_iload_n hC 2 dX11_workOut_11 rfl rfl ?_
  refine r_putI hC fl11_193 ob11 rfl rfl rfl dX11_workOut_12 ?_
  refine r_nmM (fun μ3 hμ3 => ?_)
  have hO := hO μ3 hμ3
  refine r_aload_n hC 0 dX11_workOut_15 rfl rfl ?_
  refine r_iconst hC (-1) dX11_workOut_16 (by decide) ?_
  refine r_putI hC fl11_199 ob11 rfl rfl rfl dX11_workOut_17 ?_
  refine r_nmM (fun μ4 hμ4 => ?_)
  have hO := hO μ4 hμ4
  refine r_aload_n hC 0 dX11_workOut_20 rfl rfl ?_
  refine r_iconst hC 0 dX11_workOut_21 (by decide) ?_
  refine r_putI hC fl11_223 ob11 rfl rfl rfl dX11_workOut_22 ?_
  refine r_nmM (fun μ5 hμ5 => ?_)
  have hO := hO μ5 hμ5
  refine r_iconst hC 0 dX11_workOut_25 (by decide) ?_
  refine r_istore_n hC [(3, .int 0), (0, .ref (mw_a G 0)), (1, .int p1), (2, .int p2)] dX11_workOut_26 rfl (by decide) rfl ?_
  refine r_iconst hC 0 dX11_workOut_27 (by decide) ?_
  refine r_istore hC [(4, .int 0), (3, .int 0), (0, .ref (mw_a G 0)), (1, .int p1), (2, .int p2)] dX11_workOut_28 (by decide) rfl ?_
  refine r_iconst hC 1 dX11_workOut_30 (by decide) ?_
  refine r_istore hC [(5, .int 1), (4, .int 0), (3, .int 0), (0, .ref (mw_a G 0)), (1, .int p1), (2, .int p2)] dX11_workOut_31 (by decide) rfl ?_
  have hLn10 : ∀  (K1 : Int32 → Int32 → Int32 → mw_M → Prop) (hK1 : ∀ (v6 : Int32) (v7 : Int32) (v8 : Int32) (μ9 : mw_M), K1 v6 v7 v8 μ9 → mw_W p l e (mw_rm 67 1599) s m args below meth c G kdM 8 (MQ below (va_Qi (Q) (mw_B G kdM) (mw_A G kdM)) args s 0 0 (mw_A G kdM)) 107 [(5, .int v6), (4, .int v7), (3, .int v8), (0, .ref (mw_a G 0)), (1, .int p1), (2, .int p2)] [] μ9) (n10 : Nat) (v6 : Int32) (v7 : Int32) (v8 : Int32) (μ9 : mw_M), L11_workOut_33 p1 p2 Q K1 n10 v6 v7 v8 μ9 → mw_W p l e (mw_rm 67 1599) s m args below meth c G kdM 8 (MQ below (va_Qi (Q) (mw_B G kdM) (mw_A G kdM)) args s 0 0 (mw_A G kdM)) 33 [(5, .int v6), (4, .int v7), (3, .int v8), (0, .ref (mw_a G 0)), (1, .int p1), (2, .int p2)] [] μ9 := by
    intro  K1 hK1 n10
    induction n10 with
    | zero => intro v6 v7 v8 μ9 hO; exact False.elim hO
    | succ n10 ihn10 =>
      intro v6 v7 v8 μ9 hO
      refine r_iload hC 0 dX11_workOut_33 rfl ?_
      refine r_if_eq hC 107 dX11_workOut_35 (by decide) (fun h11 => ?_) (fun h11 => ?_)
      · have hO := hO.1 h11
        refine r_lv hC [(5, .int v6), (4, .int v7), (3, .int v8), (0, .ref (mw_a G 0)), (1, .int p1), (2, .int p2)] [0, 1, 2, 3, 4, 5] rfl ?_
        exact hK1 v6 v7 v8 μ9 hO
      · have hO := hO.2 h11
        refine r_aload_n hC 3 dX11_workOut_38 rfl rfl ?_
        refine r_callVi hC [] (T11_either  hO) yv11_either ml11_229 ob11 rfl ⟨Nat.le_of_ble_eq_true rfl, Nat.le_of_ble_eq_true rfl⟩ rfl rfl (Nat.le_of_ble_eq_true rfl) dX11_workOut_39 (fun r12 μ13 hO => ?_)
        refine r_istore hC [(6, .int r12), (5, .int v6), (4, .int v7), (3, .int v8), (0, .ref (mw_a G 0)), (1, .int p1), (2, .int p2)] dX11_workOut_42 (by decide) rfl ?_
        refine r_iconst hC 1 dX11_workOut_44 (by decide) ?_
        refine r_istore hC [(7, .int 1), (6, .int r12), (5, .int v6), (4, .int v7), (3, .int v8), (0, .ref (mw_a G 0)), (1, .int p1), (2, .int p2)] dX11_workOut_45 (by decide) rfl ?_
        refine r_aload_n hC 5 dX11_workOut_47 rfl rfl ?_
        refine r_bipush hC 63 dX11_workOut_48 (by decide) ?_
        refine r_callVi hC [.int 63] (T11_takes  hO) yv11_takes ml11_208 ob11 rfl ⟨Nat.le_of_ble_eq_true rfl, Nat.le_of_ble_eq_true rfl⟩ rfl rfl (Nat.le_of_ble_eq_true rfl) dX11_workOut_50 (fun r14 μ15 hO => ?_)
        rcases hO with ⟨hr, hO⟩ | ⟨hr, hO⟩
        · refine r_topEq hr ?_
          refine r_if_eq hC 74 dX11_workOut_53 (by decide) (fun h => absurd h (by decide)) (fun _ => ?_)
          refine r_iload hC 1 dX11_workOut_56 rfl ?_
          refine r_if_eq hC 65 dX11_workOut_58 (by decide) (fun h16 => ?_) (fun h16 => ?_)
          · have hO := hO.1 h16
            refine r_iconst hC 0 dX11_workOut_65 (by decide) ?_
            refine r_istore hC [(7, .int 0), (6, .int r12), (5, .int v6), (4, .int v7), (3, .int v8), (0, .ref (mw_a G 0)), (1, .int p1), (2, .int p2)] dX11_workOut_66 (by decide) rfl ?_
            refine r_aload_n hC 5 dX11_workOut_68 rfl rfl ?_
            refine r_callVi hC [] (T11_either  hO) yv11_either ml11_229 ob11 rfl ⟨Nat.le_of_ble_eq_true rfl, Nat.le_of_ble_eq_true rfl⟩ rfl rfl (Nat.le_of_ble_eq_true rfl) dX11_workOut_69 (fun r17 μ18 hO => ?_)
            refine r_istore hC [(6, .int r17), (7, .int 0), (5, .int v6), (4, .int v7), (3, .int v8), (0, .ref (mw_a G 0)), (1, .int p1), (2, .int p2)] dX11_workOut_72 (by decide) rfl ?_
            refine r_aload_n hC 5 dX11_workOut_74 rfl rfl ?_
            refine r_getI hC fl11_199 ob11 rfl dX11_workOut_75 ?_
            refine r_if_ge hC 96 dX11_workOut_78 (by decide) (fun h19 => ?_) (fun h19 => ?_)
            · have hO := hO.1 h19
              refine r_aload_n hC 5 dX11_workOut_96 rfl rfl ?_
              refine r_bipush hC 59 dX11_workOut_97 (by decide) ?_
              refine r_callVi hC [.int 59] (T11_takes  hO) yv11_takes ml11_208 ob11 rfl ⟨Nat.le_of_ble_eq_true rfl, Nat.le_of_ble_eq_true rfl⟩ rfl rfl (Nat.le_of_ble_eq_true rfl) dX11_workOut_99 (fun r20 μ21 hO => ?_)
              rcases hO with ⟨hr, hO⟩ | ⟨hr, hO⟩
              · refine r_topEq hr ?_
                refine r_istore hC [(5, .int 1), (6, .int r17), (7, .int 0), (4, .int v7), (3, .int v8), (0, .ref (mw_a G 0)), (1, .int p1), (2, .int p2)] dX11_workOut_102 (by decide) rfl ?_
                refine r_goto hC 33 dX11_workOut_104 (by decide) ?_
                refine r_lv hC [(5, .int 1), (4, .int v7), (3, .int v8), (0, .ref (mw_a G 0)), (1, .int p1), (2, .int p2)] [0, 3, 4, 5, 6, 7] rfl ?_
                exact ihn10 1 v7 v8 μ21 hO
              · refine r_topEq hr ?_
                refine r_istore hC [(5, .int 0), (6, .int r17), (7, .int 0), (4, .int v7), (3, .int v8), (0, .ref (mw_a G 0)), (1, .int p1), (2, .int p2)] dX11_workOut_102 (by decide) rfl ?_
                refine r_goto hC 33 dX11_workOut_104 (by decide) ?_
                refine r_lv hC [(5, .int 0), (4, .int v7), (3, .int v8), (0, .ref (mw_a G 0)), (1, .int p1), (2, .int p2)] [0, 3, 4, 5, 6, 7] rfl ?_
                exact ihn10 0 v7 v8 μ21 hO
            · have hO := hO.2 h19
              refine r_iload hC 1 dX11_workOut_81 rfl ?_
              refine r_if_eq hC 96 dX11_workOut_83 (by decide) (fun _ => ?_) (fun h => absurd (by decide) h)
              refine r_aload_n hC 5 dX11_workOut_96 rfl rfl ?_
              refine r_bipush hC 59 dX11_workOut_97 (by decide) ?_
              refine r_callVi hC [.int 59] (T11_takes  hO) yv11_takes ml11_208 ob11 rfl ⟨Nat.le_of_ble_eq_true rfl, Nat.le_of_ble_eq_true rfl⟩ rfl rfl (Nat.le_of_ble_eq_true rfl) dX11_workOut_99 (fun r22 μ23 hO => ?_)
              rcases hO with ⟨hr, hO⟩ | ⟨hr, hO⟩
              · refine r_topEq hr ?_
                refine r_istore hC [(5, .int 1), (6, .int r17), (7, .int 0), (4, .int v7), (3, .int v8), (0, .ref (mw_a G 0)), (1, .int p1), (2, .int p2)] dX11_workOut_102 (by decide) rfl ?_
                refine r_goto hC 33 dX11_workOut_104 (by decide) ?_
                refine r_lv hC [(5, .int 1), (4, .int v7), (3, .int v8), (0, .ref (mw_a G 0)), (1, .int p1), (2, .int p2)] [0, 3, 4, 5, 6, 7] rfl ?_
                exact ihn10 1 v7 v8 μ23 hO
              · refine r_topEq hr ?_
                refine r_istore hC [(5, .int 0), (6, .int r17), (7, .int 0), (4, .int v7), (3, .int v8), (0, .ref (mw_a G 0)), (1, .int p1), (2, .int p2)] dX11_workOut_102 (by decide) rfl ?_
                refine r_goto hC 33 dX11_workOut_104 (by decide) ?_
                refine r_lv hC [(5, .int 0), (4, .int v7), (3, .int v8), (0, .ref (mw_a G 0)), (1, .int p1), (2, .int p2)] [0, 3, 4, 5, 6, 7] rfl ?_
                exact ihn10 0 v7 v8 μ23 hO
          · have hO := hO.2 h16
            refine r_iconst hC 1 dX11_workOut_61 (by decide) ?_
            refine r_goto hC 66 dX11_workOut_62 (by decide) ?_
            refine r_istore hC [(7, .int 1), (6, .int r12), (5, .int v6), (4, .int v7), (3, .int v8), (0, .ref (mw_a G 0)), (1, .int p1), (2, .int p2)] dX11_workOut_66 (by decide) rfl ?_
            refine r_aload_n hC 5 dX11_workOut_68 rfl rfl ?_
            refine r_callVi hC [] (T11_either  hO) yv11_either ml11_229 ob11 rfl ⟨Nat.le_of_ble_eq_true rfl, Nat.le_of_ble_eq_true rfl⟩ rfl rfl (Nat.le_of_ble_eq_true rfl) dX11_workOut_69 (fun r24 μ25 hO => ?_)
            refine r_istore hC [(6, .int r24), (7, .int 1), (5, .int v6), (4, .int v7), (3, .int v8), (0, .ref (mw_a G 0)), (1, .int p1), (2, .int p2)] dX11_workOut_72 (by decide) rfl ?_
            refine r_aload_n hC 5 dX11_workOut_74 rfl rfl ?_
            refine r_getI hC fl11_199 ob11 rfl dX11_workOut_75 ?_
            refine r_if_ge hC 96 dX11_workOut_78 (by decide) (fun h26 => ?_) (fun h26 => ?_)
            · have hO := hO.1 h26
              refine r_aload_n hC 5 dX11_workOut_96 rfl rfl ?_
              refine r_bipush hC 59 dX11_workOut_97 (by decide) ?_
              refine r_callVi hC [.int 59] (T11_takes  hO) yv11_takes ml11_208 ob11 rfl ⟨Nat.le_of_ble_eq_true rfl, Nat.le_of_ble_eq_true rfl⟩ rfl rfl (Nat.le_of_ble_eq_true rfl) dX11_workOut_99 (fun r27 μ28 hO => ?_)
              rcases hO with ⟨hr, hO⟩ | ⟨hr, hO⟩
              · refine r_topEq hr ?_
                refine r_istore hC [(5, .int 1), (6, .int r24), (7, .int 1), (4, .int v7), (3, .int v8), (0, .ref (mw_a G 0)), (1, .int p1), (2, .int p2)] dX11_workOut_102 (by decide) rfl ?_
                refine r_goto hC 33 dX11_workOut_104 (by decide) ?_
                refine r_lv hC [(5, .int 1), (4, .int v7), (3, .int v8), (0, .ref (mw_a G 0)), (1, .int p1), (2, .int p2)] [0, 3, 4, 5, 6, 7] rfl ?_
                exact ihn10 1 v7 v8 μ28 hO
              · refine r_topEq hr ?_
                refine r_istore hC [(5, .int 0), (6, .int r24), (7, .int 1), (4, .int v7), (3, .int v8), (0, .ref (mw_a G 0)), (1, .int p1), (2, .int p2)] dX11_workOut_102 (by decide) rfl ?_
                refine r_goto hC 33 dX11_workOut_104 (by decide) ?_
                refine r_lv hC [(5, .int 0), (4, .int v7), (3, .int v8), (0, .ref (mw_a G 0)), (1, .int p1), (2, .int p2)] [0, 3, 4, 5, 6, 7] rfl ?_
                exact ihn10 0 v7 v8 μ28 hO
            · have hO := hO.2 h26
              refine r_iload hC 1 dX11_workOut_81 rfl ?_
              refine r_if_eq hC 96 dX11_workOut_83 (by decide) (fun h => absurd h (by decide)) (fun _ => ?_)
              refine r_iload_n hC 4 dX11_workOut_86 rfl rfl ?_
              refine r_if_ne hC 96 dX11_workOut_87 (by decide) (fun h29 => ?_) (fun h29 => ?_)
              · have hO := hO.2 h29
                refine r_aload_n hC 5 dX11_workOut_96 rfl rfl ?_
                refine r_bipush hC 59 dX11_workOut_97 (by decide) ?_
                refine r_callVi hC [.int 59] (T11_takes  hO) yv11_takes ml11_208 ob11 rfl ⟨Nat.le_of_ble_eq_true rfl, Nat.le_of_ble_eq_true rfl⟩ rfl rfl (Nat.le_of_ble_eq_true rfl) dX11_workOut_99 (fun r30 μ31 hO => ?_)
                rcases hO with ⟨hr, hO⟩ | ⟨hr, hO⟩
                · refine r_topEq hr ?_
                  refine r_istore hC [(5, .int 1), (6, .int r24), (7, .int 1), (4, .int v7), (3, .int v8), (0, .ref (mw_a G 0)), (1, .int p1), (2, .int p2)] dX11_workOut_102 (by decide) rfl ?_
                  refine r_goto hC 33 dX11_workOut_104 (by decide) ?_
                  refine r_lv hC [(5, .int 1), (4, .int v7), (3, .int v8), (0, .ref (mw_a G 0)), (1, .int p1), (2, .int p2)] [0, 3, 4, 5, 6, 7] rfl ?_
                  exact ihn10 1 v7 v8 μ31 hO
                · refine r_topEq hr ?_
                  refine r_istore hC [(5, .int 0), (6, .int r24), (7, .int 1), (4, .int v7), (3, .int v8), (0, .ref (mw_a G 0)), (1, .int p1), (2, .int p2)] dX11_workOut_102 (by decide) rfl ?_
                  refine r_goto hC 33 dX11_workOut_104 (by decide) ?_
                  refine r_lv hC [(5, .int 0), (4, .int v7), (3, .int v8), (0, .ref (mw_a G 0)), (1, .int p1), (2, .int p2)] [0, 3, 4, 5, 6, 7] rfl ?_
                  exact ihn10 0 v7 v8 μ31 hO
              · have hO := hO.1 h29
                refine r_iconst hC 1 dX11_workOut_90 (by decide) ?_
                refine r_istore_n hC [(3, .int 1), (6, .int r24), (7, .int 1), (5, .int v6), (4, .int v7), (0, .ref (mw_a G 0)), (1, .int p1), (2, .int p2)] dX11_workOut_91 rfl (by decide) rfl ?_
                refine r_iload hC 1 dX11_workOut_92 rfl ?_
                refine r_istore hC [(4, .int r24), (3, .int 1), (6, .int r24), (7, .int 1), (5, .int v6), (0, .ref (mw_a G 0)), (1, .int p1), (2, .int p2)] dX11_workOut_94 (by decide) rfl ?_
                refine r_aload_n hC 5 dX11_workOut_96 rfl rfl ?_
                refine r_bipush hC 59 dX11_workOut_97 (by decide) ?_
                refine r_callVi hC [.int 59] (T11_takes  hO) yv11_takes ml11_208 ob11 rfl ⟨Nat.le_of_ble_eq_true rfl, Nat.le_of_ble_eq_true rfl⟩ rfl rfl (Nat.le_of_ble_eq_true rfl) dX11_workOut_99 (fun r32 μ33 hO => ?_)
                rcases hO with ⟨hr, hO⟩ | ⟨hr, hO⟩
                · refine r_topEq hr ?_
                  refine r_istore hC [(5, .int 1), (4, .int r24), (3, .int 1), (6, .int r24), (7, .int 1), (0, .ref (mw_a G 0)), (1, .int p1), (2, .int p2)] dX11_workOut_102 (by decide) rfl ?_
                  refine r_goto hC 33 dX11_workOut_104 (by decide) ?_
                  refine r_lv hC [(5, .int 1), (4, .int r24), (3, .int 1), (0, .ref (mw_a G 0)), (1, .int p1), (2, .int p2)] [0, 1, 2, 5, 6, 7] rfl ?_
                  exact ihn10 1 r24 1 μ33 hO
                · refine r_topEq hr ?_
                  refine r_istore hC [(5, .int 0), (4, .int r24), (3, .int 1), (6, .int r24), (7, .int 1), (0, .ref (mw_a G 0)), (1, .int p1), (2, .int p2)] dX11_workOut_102 (by decide) rfl ?_
                  refine r_goto hC 33 dX11_workOut_104 (by decide) ?_
                  refine r_lv hC [(5, .int 0), (4, .int r24), (3, .int 1), (0, .ref (mw_a G 0)), (1, .int p1), (2, .int p2)] [0, 1, 2, 5, 6, 7] rfl ?_
                  exact ihn10 0 r24 1 μ33 hO
        · refine r_topEq hr ?_
          refine r_if_eq hC 74 dX11_workOut_53 (by decide) (fun _ => ?_) (fun h => absurd (by decide) h)
          refine r_aload_n hC 5 dX11_workOut_74 rfl rfl ?_
          refine r_getI hC fl11_199 ob11 rfl dX11_workOut_75 ?_
          refine r_if_ge hC 96 dX11_workOut_78 (by decide) (fun h34 => ?_) (fun h34 => ?_)
          · have hO := hO.1 h34
            refine r_aload_n hC 5 dX11_workOut_96 rfl rfl ?_
            refine r_bipush hC 59 dX11_workOut_97 (by decide) ?_
            refine r_callVi hC [.int 59] (T11_takes  hO) yv11_takes ml11_208 ob11 rfl ⟨Nat.le_of_ble_eq_true rfl, Nat.le_of_ble_eq_true rfl⟩ rfl rfl (Nat.le_of_ble_eq_true rfl) dX11_workOut_99 (fun r35 μ36 hO => ?_)
            rcases hO with ⟨hr, hO⟩ | ⟨hr, hO⟩
            · refine r_topEq hr ?_
              refine r_istore hC [(5, .int 1), (7, .int 1), (6, .int r12), (4, .int v7), (3, .int v8), (0, .ref (mw_a G 0)), (1, .int p1), (2, .int p2)] dX11_workOut_102 (by decide) rfl ?_
              refine r_goto hC 33 dX11_workOut_104 (by decide) ?_
              refine r_lv hC [(5, .int 1), (4, .int v7), (3, .int v8), (0, .ref (mw_a G 0)), (1, .int p1), (2, .int p2)] [0, 3, 4, 5, 6, 7] rfl ?_
              exact ihn10 1 v7 v8 μ36 hO
            · refine r_topEq hr ?_
              refine r_istore hC [(5, .int 0), (7, .int 1), (6, .int r12), (4, .int v7), (3, .int v8), (0, .ref (mw_a G 0)), (1, .int p1), (2, .int p2)] dX11_workOut_102 (by decide) rfl ?_
              refine r_goto hC 33 dX11_workOut_104 (by decide) ?_
              refine r_lv hC [(5, .int 0), (4, .int v7), (3, .int v8), (0, .ref (mw_a G 0)), (1, .int p1), (2, .int p2)] [0, 3, 4, 5, 6, 7] rfl ?_
              exact ihn10 0 v7 v8 μ36 hO
          · have hO := hO.2 h34
            refine r_iload hC 0 dX11_workOut_81 rfl ?_
            refine r_if_eq hC 96 dX11_workOut_83 (by decide) (fun h => absurd h (by decide)) (fun _ => ?_)
            refine r_iload_n hC 4 dX11_workOut_86 rfl rfl ?_
            refine r_if_ne hC 96 dX11_workOut_87 (by decide) (fun h37 => ?_) (fun h37 => ?_)
            · have hO := hO.2 h37
              refine r_aload_n hC 5 dX11_workOut_96 rfl rfl ?_
              refine r_bipush hC 59 dX11_workOut_97 (by decide) ?_
              refine r_callVi hC [.int 59] (T11_takes  hO) yv11_takes ml11_208 ob11 rfl ⟨Nat.le_of_ble_eq_true rfl, Nat.le_of_ble_eq_true rfl⟩ rfl rfl (Nat.le_of_ble_eq_true rfl) dX11_workOut_99 (fun r38 μ39 hO => ?_)
              rcases hO with ⟨hr, hO⟩ | ⟨hr, hO⟩
              · refine r_topEq hr ?_
                refine r_istore hC [(5, .int 1), (7, .int 1), (6, .int r12), (4, .int v7), (3, .int v8), (0, .ref (mw_a G 0)), (1, .int p1), (2, .int p2)] dX11_workOut_102 (by decide) rfl ?_
                refine r_goto hC 33 dX11_workOut_104 (by decide) ?_
                refine r_lv hC [(5, .int 1), (4, .int v7), (3, .int v8), (0, .ref (mw_a G 0)), (1, .int p1), (2, .int p2)] [0, 3, 4, 5, 6, 7] rfl ?_
                exact ihn10 1 v7 v8 μ39 hO
              · refine r_topEq hr ?_
                refine r_istore hC [(5, .int 0), (7, .int 1), (6, .int r12), (4, .int v7), (3, .int v8), (0, .ref (mw_a G 0)), (1, .int p1), (2, .int p2)] dX11_workOut_102 (by decide) rfl ?_
                refine r_goto hC 33 dX11_workOut_104 (by decide) ?_
                refine r_lv hC [(5, .int 0), (4, .int v7), (3, .int v8), (0, .ref (mw_a G 0)), (1, .int p1), (2, .int p2)] [0, 3, 4, 5, 6, 7] rfl ?_
                exact ihn10 0 v7 v8 μ39 hO
            · have hO := hO.1 h37
              refine r_iconst hC 1 dX11_workOut_90 (by decide) ?_
              refine r_istore_n hC [(3, .int 1), (7, .int 1), (6, .int r12), (5, .int v6), (4, .int v7), (0, .ref (mw_a G 0)), (1, .int p1), (2, .int p2)] dX11_workOut_91 rfl (by decide) rfl ?_
              refine r_iload hC 2 dX11_workOut_92 rfl ?_
              refine r_istore hC [(4, .int r12), (3, .int 1), (7, .int 1), (6, .int r12), (5, .int v6), (0, .ref (mw_a G 0)), (1, .int p1), (2, .int p2)] dX11_workOut_94 (by decide) rfl ?_
              refine r_aload_n hC 5 dX11_workOut_96 rfl rfl ?_
              refine r_bipush hC 59 dX11_workOut_97 (by decide) ?_
              refine r_callVi hC [.int 59] (T11_takes  hO) yv11_takes ml11_208 ob11 rfl ⟨Nat.le_of_ble_eq_true rfl, Nat.le_of_ble_eq_true rfl⟩ rfl rfl (Nat.le_of_ble_eq_true rfl) dX11_workOut_99 (fun r40 μ41 hO => ?_)
              rcases hO with ⟨hr, hO⟩ | ⟨hr, hO⟩
              · refine r_topEq hr ?_
                refine r_istore hC [(5, .int 1), (4, .int r12), (3, .int 1), (7, .int 1), (6, .int r12), (0, .ref (mw_a G 0)), (1, .int p1), (2, .int p2)] dX11_workOut_102 (by decide) rfl ?_
                refine r_goto hC 33 dX11_workOut_104 (by decide) ?_
                refine r_lv hC [(5, .int 1), (4, .int r12), (3, .int 1), (0, .ref (mw_a G 0)), (1, .int p1), (2, .int p2)] [0, 1, 2, 5, 6, 7] rfl ?_
                exact ihn10 1 r12 1 μ41 hO
              · refine r_topEq hr ?_
                refine r_istore hC [(5, .int 0), (4, .int r12), (3, .int 1), (7, .int 1), (6, .int r12), (0, .ref (mw_a G 0)), (1, .int p1), (2, .int p2)] dX11_workOut_102 (by decide) rfl ?_
                refine r_goto hC 33 dX11_workOut_104 (by decide) ?_
                refine r_lv hC [(5, .int 0), (4, .int r12), (3, .int 1), (0, .ref (mw_a G 0)), (1, .int p1), (2, .int p2)] [0, 1, 2, 5, 6, 7] rfl ?_
                exact ihn10 0 r12 1 μ41 hO
  obtain ⟨n10, hO⟩ := hO
  refine hLn10  _ (fun v6 v7 v8 μ9 hO => ?_) n10 _ _ _ _ hO
  refine r_aload_n hC 3 dX11_workOut_107 rfl rfl ?_
  refine r_getI hC fl11_199 ob11 rfl dX11_workOut_108 ?_
  refine r_if_ge hC 130 dX11_workOut_111 (by decide) (fun h42 => ?_) (fun h42 => ?_)
  · have hO := hO.1 h42
    refine r_iload hC 1 dX11_workOut_130 rfl ?_
    exact r_iret hC rfl dX11_workOut_132 hO
  · have hO := hO.2 h42
    refine r_aload_n hC 3 dX11_workOut_114 rfl rfl ?_
    refine r_getI hC fl11_190 ob11 rfl dX11_workOut_115 ?_
    refine r_aload_n hC 3 dX11_workOut_118 rfl rfl ?_
    refine r_getI hC fl11_193 ob11 rfl dX11_workOut_119 ?_
    refine r_icmp_ge hC 130 dX11_workOut_122 (by decide) (fun h43 => ?_) (fun h43 => ?_)
    · have hO := hO.1 h43
      refine r_iload hC 1 dX11_workOut_130 rfl ?_
      exact r_iret hC rfl dX11_workOut_132 hO
    · have hO := hO.2 h43
      refine r_aload_n hC 3 dX11_workOut_125 rfl rfl ?_
      refine r_callVi hC [] (T11_wrong  hO) yv11_wrong ml11_226 ob11 rfl ⟨Nat.le_of_ble_eq_true rfl, Nat.le_of_ble_eq_true rfl⟩ rfl rfl (Nat.le_of_ble_eq_true rfl) dX11_workOut_126 (fun r44 μ45 hO => ?_)
      exact r_iret hC rfl dX11_workOut_129 hO
set_option maxHeartbeats 4000000 in
set_option maxRecDepth 100000 in
theorem T11_law {l : Launch} {G : mw_G}  {μ : mw_M} {Q : Int32 → mw_M → Prop}  (hO : P11_law μ Q) : mw_Mi l G kdM yX11_law cX11_law 4 (some .int) 68 1626 [.ref (mw_a G 0)] μ (Q) := by
  refine mw_enter [(0, .ref (mw_a G 0))] RX11 (by decide) rfl (Nat.le_of_ble_eq_true rfl) rfl ?_
  intro p e s m args below meth c hC
  unfold P11_law at hO
  refine r_aload_n hC 0 dX11_law_0 rfl rfl ?_
  refine r_getI hC fl11_235 ob11 rfl dX11_law_1 ?_
  refine r_iconst hC 4 dX11_law_4 (by decide) ?_
  refine r_icmp_ne hC 11 dX11_law_5 (by decide) (fun h1 => ?_) (fun h1 => ?_)
  · have hO := hO.2 h1
    refine r_aload_n hC 0 dX11_law_11 rfl rfl ?_
    refine r_iconst hC (-1) dX11_law_12 (by decide) ?_
    refine r_aload_n hC 0 dX11_law_13 rfl rfl ?_
    refine r_getI hC fl11_187 ob11 rfl dX11_law_14 ?_
    refine r_callVi hC [.int (-1), .int (μ.1 0 14)] (T11_workOut  hO) yv11_workOut ml11_238 ob11 rfl ⟨Nat.le_of_ble_eq_true rfl, Nat.le_of_ble_eq_true rfl⟩ rfl rfl (Nat.le_of_ble_eq_true rfl) dX11_law_17 (fun r2 μ3 hO => ?_)
    refine r_istore_n hC [(1, .int r2), (0, .ref (mw_a G 0))] dX11_law_20 rfl (by decide) rfl ?_
    refine r_aload_n hC 1 dX11_law_21 rfl rfl ?_
    refine r_getI hC fl11_187 ob11 rfl dX11_law_22 ?_
    refine r_nmI (fun x4 hx4 => ?_)
    have hO := hO x4 hx4
    refine r_istore_n hC [(2, .int x4), (1, .int r2), (0, .ref (mw_a G 0))] dX11_law_25 rfl (by decide) rfl ?_
    refine r_aload_n hC 2 dX11_law_26 rfl rfl ?_
    refine r_iconst hC 0 dX11_law_27 (by decide) ?_
    refine r_putI hC fl11_187 ob11 rfl rfl rfl dX11_law_28 ?_
    refine r_nmM (fun μ5 hμ5 => ?_)
    have hO := hO μ5 hμ5
    refine r_aload_n hC 2 dX11_law_31 rfl rfl ?_
    refine r_getI hC fl11_199 ob11 rfl dX11_law_32 ?_
    refine r_if_lt hC 46 dX11_law_35 (by decide) (fun h6 => ?_) (fun h6 => ?_)
    · have hO := hO.1 h6
      refine r_iconst hC 0 dX11_law_46 (by decide) ?_
      refine r_istore_n hC [(3, .int 0), (2, .int x4), (1, .int r2), (0, .ref (mw_a G 0))] dX11_law_47 rfl (by decide) rfl ?_
      have hLn9 : ∀  (K1 : Int32 → mw_M → Prop) (hK1 : ∀ (v7 : Int32) (μ8 : mw_M), K1 v7 μ8 → mw_W p l e (mw_rm 68 1626) s m args below meth c G kdM 4 (MQ below (va_Qi (Q) (mw_B G kdM) (mw_A G kdM)) args s 0 0 (mw_A G kdM)) 79 [(3, .int v7), (2, .int x4), (1, .int r2), (0, .ref (mw_a G 0))] [] μ8) (n9 : Nat) (v7 : Int32) (μ8 : mw_M), L11_law_48 x4 r2 Q K1 n9 v7 μ8 → mw_W p l e (mw_rm 68 1626) s m args below meth c G kdM 4 (MQ below (va_Qi (Q) (mw_B G kdM) (mw_A G kdM)) args s 0 0 (mw_A G kdM)) 48 [(3, .int v7), (2, .int x4), (1, .int r2), (0, .ref (mw_a G 0))] [] μ8 := by
        intro  K1 hK1 n9
        induction n9 with
        | zero => intro v7 μ8 hO; exact False.elim hO
        | succ n9 ihn9 =>
          intro v7 μ8 hO
          refine r_iload_n hC 0 dX11_law_48 rfl rfl ?_
          refine r_iload_n hC 1 dX11_law_49 rfl rfl ?_
          refine r_icmp_ge hC 79 dX11_law_50 (by decide) (fun h10 => ?_) (fun h10 => ?_)
          · have hO := hO.1 h10
            refine r_lv hC [(3, .int v7), (2, .int x4), (1, .int r2), (0, .ref (mw_a G 0))] [0, 1, 2, 3] rfl ?_
            exact hK1 v7 μ8 hO
          · have hO := hO.2 h10
            refine r_aload_n hC 3 dX11_law_53 rfl rfl ?_
            refine r_getR hC 11 fl11_40 ob11 rfl dX11_law_54 ?_
            refine r_bipush hC 120 dX11_law_57 (by decide) ?_
            refine r_aload_n hC 3 dX11_law_59 rfl rfl ?_
            refine r_getI hC fl11_235 ob11 rfl dX11_law_60 ?_
            refine r_imul hC dX11_law_63 ?_
            refine r_iload_n hC 0 dX11_law_64 rfl rfl ?_
            refine r_iadd hC dX11_law_65 ?_
            refine r_aload_n hC 3 dX11_law_66 rfl rfl ?_
            refine r_getR hC 10 fl11_37 ob11 rfl dX11_law_67 ?_
            refine r_iload_n hC 0 dX11_law_70 rfl rfl ?_
            obtain ⟨g11, hO⟩ := hO
            refine r_iald hC sh11_13 g11 v7.toNatClampNeg rfl dX11_law_71 ?_
            obtain ⟨g12, hO⟩ := hO
            refine r_iast hC sh11_17 g12 (((120 * (μ8.1 0 15)) + v7).toNatClampNeg) rfl dX11_law_72 ?_
            refine r_nmM (fun μ13 hμ13 => ?_)
            have hO := hO μ13 hμ13
            obtain ⟨x14, hx14⟩ : ∃ y : Int32, y = v7 + 1 := ⟨_, rfl⟩
            have hO := hO x14 hx14
            refine r_iinc hC x14 0 [(3, .int x14), (2, .int x4), (1, .int r2), (0, .ref (mw_a G 0))] dX11_law_73 rfl (by rw [hx14]; rfl) (by decide) rfl ?_
            refine r_goto hC 48 dX11_law_76 (by decide) ?_
            refine r_lv hC [(3, .int x14), (2, .int x4), (1, .int r2), (0, .ref (mw_a G 0))] [0, 1, 2, 3] rfl ?_
            exact ihn9 x14 μ13 hO
      obtain ⟨n9, hO⟩ := hO
      refine hLn9  _ (fun v7 μ8 hO => ?_) n9 _ _ hO
      refine r_aload_n hC 3 dX11_law_79 rfl rfl ?_
      refine r_getR hC 12 fl11_43 ob11 rfl dX11_law_80 ?_
      refine r_aload_n hC 3 dX11_law_83 rfl rfl ?_
      refine r_getI hC fl11_235 ob11 rfl dX11_law_84 ?_
      refine r_iload_n hC 1 dX11_law_87 rfl rfl ?_
      obtain ⟨g15, hO⟩ := hO
      refine r_iast hC sh11_18 g15 ((μ8.1 0 15).toNatClampNeg) rfl dX11_law_88 ?_
      refine r_nmM (fun μ16 hμ16 => ?_)
      have hO := hO μ16 hμ16
      refine r_aload_n hC 3 dX11_law_89 rfl rfl ?_
      refine r_dup hC dX11_law_90 rfl ?_
      refine r_getI hC fl11_235 ob11 rfl dX11_law_91 ?_
      refine r_iconst hC 1 dX11_law_94 (by decide) ?_
      refine r_iadd hC dX11_law_95 ?_
      refine r_putI hC fl11_235 ob11 rfl rfl rfl dX11_law_96 ?_
      refine r_nmM (fun μ17 hμ17 => ?_)
      have hO := hO μ17 hμ17
      refine r_aload_n hC 3 dX11_law_99 rfl rfl ?_
      refine r_getI hC fl11_235 ob11 rfl dX11_law_100 ?_
      refine r_iconst hC 1 dX11_law_103 (by decide) ?_
      refine r_isub hC dX11_law_104 ?_
      exact r_iret hC rfl dX11_law_105 hO
    · have hO := hO.2 h6
      refine r_bipush hC (-100) dX11_law_38 (by decide) ?_
      refine r_aload_n hC 2 dX11_law_40 rfl rfl ?_
      refine r_getI hC fl11_199 ob11 rfl dX11_law_41 ?_
      refine r_isub hC dX11_law_44 ?_
      exact r_iret hC rfl dX11_law_45 hO
  · have hO := hO.1 h1
    refine r_bipush hC (-3) dX11_law_8 (by decide) ?_
    exact r_iret hC rfl dX11_law_10 hO
set_option maxHeartbeats 4000000 in
set_option maxRecDepth 100000 in
theorem T11_isLaw {l : Launch} {G : mw_G} {p1 : Int32} {μ : mw_M} {QT : Prop} {QF : Prop}  (hO : P11_isLaw p1 μ QT QF) : mw_Mi l G kdM yX11_isLaw cX11_isLaw 2 (some .boolean) 1 25 [.ref (mw_a G 0), .int p1] μ (mw_bq (mw_pv μ QT) (mw_pv μ QF)) := by
  refine mw_enter [(0, .ref (mw_a G 0)), (1, .int p1)] RX11 (by decide) rfl (Nat.le_of_ble_eq_true rfl) rfl ?_
  intro p e s m args below meth c hC
  unfold P11_isLaw at hO
  refine r_iload_n hC 1 dX11_isLaw_0 rfl rfl ?_
  refine r_i2l hC dX11_isLaw_1 ?_
  refine r_lconst hC 0 dX11_isLaw_2 (by decide) ?_
  refine r_aload_n hC 0 dX11_isLaw_3 rfl rfl ?_
  refine r_getI hC fl11_235 ob11 rfl dX11_isLaw_4 ?_
  refine r_iconst hC 1 dX11_isLaw_7 (by decide) ?_
  refine r_isub hC dX11_isLaw_8 ?_
  refine r_i2l hC dX11_isLaw_9 ?_
  refine r_callSi hC [.long (Int32.toInt64 p1), .long 0, .long (Int32.toInt64 ((μ.1 0 15) - 1))] (T11_within  hO) yv11_within ml11_106 ⟨Nat.le_of_ble_eq_true rfl, Nat.le_of_ble_eq_true rfl⟩ rfl rfl (Nat.le_of_ble_eq_true rfl) dX11_isLaw_10 (fun r1 μ2 hO => ?_)
  rcases hO with ⟨hr, hO⟩ | ⟨hr, hO⟩
  · refine r_topEq hr ?_
    obtain ⟨hO, hm⟩ := hO
    refine r_memEq hm ?_
    exact r_zret hC rfl (by decide) dX11_isLaw_13 (Or.inl ⟨rfl, hO, rfl⟩)
  · refine r_topEq hr ?_
    obtain ⟨hO, hm⟩ := hO
    refine r_memEq hm ?_
    exact r_zret hC rfl (by decide) dX11_isLaw_13 (Or.inr ⟨rfl, hO, rfl⟩)
set_option maxHeartbeats 4000000 in
set_option maxRecDepth 100000 in
theorem T11_water {l : Launch} {G : mw_G} {p1 : Int32} {μ : mw_M} {Q : Int32 → mw_M → Prop}  (hO : P11_water p1 μ Q) : mw_Mi l G kdM yX11_water cX11_water 3 (some .int) 2 46 [.ref (mw_a G 0), .int p1] μ (Q) := by
  refine mw_enter [(0, .ref (mw_a G 0)), (1, .int p1)] RX11 (by decide) rfl (Nat.le_of_ble_eq_true rfl) rfl ?_
  intro p e s m args below meth c hC
  unfold P11_water at hO
  refine r_iload_n hC 1 dX11_water_0 rfl rfl ?_
  refine r_iconst hC (-1) dX11_water_1 (by decide) ?_
  refine r_icmp_eq hC 16 dX11_water_2 (by decide) (fun h1 => ?_) (fun h1 => ?_)
  · have hO := hO.1 h1
    refine r_aload_n hC 0 dX11_water_16 rfl rfl ?_
    refine r_getI hC fl11_89 ob11 rfl dX11_water_17 ?_
    refine r_nmI (fun x2 hx2 => ?_)
    have hO := hO x2 hx2
    refine r_istore_n hC [(2, .int x2), (0, .ref (mw_a G 0)), (1, .int p1)] dX11_water_20 rfl (by decide) rfl ?_
    refine r_aload_n hC 1 dX11_water_21 rfl rfl ?_
    refine r_iload_n hC 2 dX11_water_22 rfl rfl ?_
    refine r_putI hC fl11_89 ob11 rfl rfl rfl dX11_water_23 ?_
    refine r_nmM (fun μ3 hμ3 => ?_)
    have hO := hO μ3 hμ3
    refine r_iload_n hC 0 dX11_water_26 rfl rfl ?_
    exact r_iret hC rfl dX11_water_27 hO
  · have hO := hO.2 h1
    refine r_aload_n hC 0 dX11_water_5 rfl rfl ?_
    refine r_iload_n hC 1 dX11_water_6 rfl rfl ?_
    refine r_callVi hC [.int p1] (T11_isLaw  hO) yv11_isLaw ml11_241 ob11 rfl ⟨Nat.le_of_ble_eq_true rfl, Nat.le_of_ble_eq_true rfl⟩ rfl rfl (Nat.le_of_ble_eq_true rfl) dX11_water_7 (fun r4 μ5 hO => ?_)
    rcases hO with ⟨hr, hO⟩ | ⟨hr, hO⟩
    · refine r_topEq hr ?_
      obtain ⟨hO, hm⟩ := hO
      refine r_memEq hm ?_
      refine r_if_ne hC 16 dX11_water_10 (by decide) (fun _ => ?_) (fun h => absurd h (by decide))
      refine r_aload_n hC 0 dX11_water_16 rfl rfl ?_
      refine r_getI hC fl11_89 ob11 rfl dX11_water_17 ?_
      refine r_nmI (fun x6 hx6 => ?_)
      have hO := hO x6 hx6
      refine r_istore_n hC [(2, .int x6), (0, .ref (mw_a G 0)), (1, .int p1)] dX11_water_20 rfl (by decide) rfl ?_
      refine r_aload_n hC 1 dX11_water_21 rfl rfl ?_
      refine r_iload_n hC 2 dX11_water_22 rfl rfl ?_
      refine r_putI hC fl11_89 ob11 rfl rfl rfl dX11_water_23 ?_
      refine r_nmM (fun μ7 hμ7 => ?_)
      have hO := hO μ7 hμ7
      refine r_iload_n hC 0 dX11_water_26 rfl rfl ?_
      exact r_iret hC rfl dX11_water_27 hO
    · refine r_topEq hr ?_
      obtain ⟨hO, hm⟩ := hO
      refine r_memEq hm ?_
      refine r_if_ne hC 16 dX11_water_10 (by decide) (fun h => absurd (by decide) h) (fun _ => ?_)
      refine r_ldc hC kc11_176 dX11_water_13 ?_
      exact r_iret hC rfl dX11_water_15 hO
set_option maxHeartbeats 4000000 in
set_option maxRecDepth 100000 in
theorem T11_clearNames {l : Launch} {G : mw_G}  {μ : mw_M} {Q : mw_M → Prop}  (hO : P11_clearNames μ Q) : mw_Mv l G kdM yX11_clearNames cX11_clearNames 2 none 0 0 [.ref (mw_a G 0)] μ (Q) := by
  refine mw_enter [(0, .ref (mw_a G 0))] RX11 (by decide) rfl (Nat.le_of_ble_eq_true rfl) rfl ?_
  intro p e s m args below meth c hC
  unfold P11_clearNames at hO
  refine r_iconst hC 0 dX11_clearNames_0 (by decide) ?_
  refine r_istore_n hC [(1, .int 0), (0, .ref (mw_a G 0))] dX11_clearNames_1 rfl (by decide) rfl ?_
  have hLn3 : ∀   (n3 : Nat) (v1 : Int32) (μ2 : mw_M), L11_clearNames_2 Q n3 v1 μ2 → mw_W p l e (mw_rm 0 0) s m args below meth c G kdM 2 (MQ below (va_Qv (Q) (mw_B G kdM) (mw_A G kdM)) args s 0 0 (mw_A G kdM)) 2 [(1, .int v1), (0, .ref (mw_a G 0))] [] μ2 := by
    intro   n3
    induction n3 with
    | zero => intro v1 μ2 hO; exact False.elim hO
    | succ n3 ihn3 =>
      intro v1 μ2 hO
      refine r_iload_n hC 0 dX11_clearNames_2 rfl rfl ?_
      refine r_bipush hC 9 dX11_clearNames_3 (by decide) ?_
      refine r_icmp_ge hC 21 dX11_clearNames_5 (by decide) (fun h4 => ?_) (fun h4 => ?_)
      · have hO := hO.1 h4
        exact r_vret hC rfl dX11_clearNames_21 hO
      · have hO := hO.2 h4
        refine r_aload_n hC 1 dX11_clearNames_8 rfl rfl ?_
        refine r_getR hC 13 fl11_46 ob11 rfl dX11_clearNames_9 ?_
        refine r_iload_n hC 0 dX11_clearNames_12 rfl rfl ?_
        refine r_iconst hC 0 dX11_clearNames_13 (by decide) ?_
        obtain ⟨g5, hO⟩ := hO
        refine r_iast hC sh11_24 g5 v1.toNatClampNeg rfl dX11_clearNames_14 ?_
        refine r_nmM (fun μ6 hμ6 => ?_)
        have hO := hO μ6 hμ6
        obtain ⟨x7, hx7⟩ : ∃ y : Int32, y = v1 + 1 := ⟨_, rfl⟩
        have hO := hO x7 hx7
        refine r_iinc hC x7 0 [(1, .int x7), (0, .ref (mw_a G 0))] dX11_clearNames_15 rfl (by rw [hx7]; rfl) (by decide) rfl ?_
        refine r_goto hC 2 dX11_clearNames_18 (by decide) ?_
        refine r_lv hC [(1, .int x7), (0, .ref (mw_a G 0))] [0, 1] rfl ?_
        exact ihn3 x7 μ6 hO
  obtain ⟨n3, hO⟩ := hO
  refine hLn3   n3 _ _ hO
set_option maxHeartbeats 4000000 in
set_option maxRecDepth 100000 in
theorem T11_ruled {l : Launch} {G : mw_G} {p1 : Int32} {p2 : Int32} {p3 : Int32} {p4 : Int32} {p5 : Int32} {p6 : Int32} {p7 : Int32} {μ : mw_M} {Q : Int32 → mw_M → Prop}  (hO : P11_ruled p1 p2 p3 p4 p5 p6 p7 μ Q) : mw_Mi l G kdM yX11_ruled cX11_ruled 9 (some .int) 68 1626 [.ref (mw_a G 0), .int p1, .int p2, .int p3, .int p4, .int p5, .int p6, .int p7] μ (Q) := by
  refine mw_enter [(0, .ref (mw_a G 0)), (1, .int p1), (2, .int p2), (3, .int p3), (4, .int p4), (5, .int p5), (6, .int p6), (7, .int p7)] RX11 (by decide) rfl (Nat.le_of_ble_eq_true rfl) rfl ?_
  intro p e s m args below meth c hC
  unfold P11_ruled at hO
  refine r_aload_n hC 0 dX11_ruled_0 rfl rfl ?_
  refine r_callVv hC [] (T11_clearNames  hO) yv11_clearNames ml11_244 ob11 rfl ⟨Nat.le_of_ble_eq_true rfl, Nat.le_of_ble_eq_true rfl⟩ rfl rfl (Nat.le_of_ble_eq_true rfl) dX11_ruled_1 (fun μ1 hO => ?_)
  refine r_aload_n hC 0 dX11_ruled_4 rfl rfl ?_
  refine r_getR hC 13 fl11_46 ob11 rfl dX11_ruled_5 ?_
  refine r_iconst hC 2 dX11_ruled_8 (by decide) ?_
  refine r_iload_n hC 2 dX11_ruled_9 rfl rfl ?_
  refine r_iast hC sh11_24 (vpc (by decide) : vp_in 2 9) 2 (by decide) dX11_ruled_10 ?_
  refine r_nmM (fun μ2 hμ2 => ?_)
  have hO := hO μ2 hμ2
  refine r_aload_n hC 0 dX11_ruled_11 rfl rfl ?_
  refine r_getR hC 13 fl11_46 ob11 rfl dX11_ruled_12 ?_
  refine r_iconst hC 3 dX11_ruled_15 (by decide) ?_
  refine r_iload_n hC 3 dX11_ruled_16 rfl rfl ?_
  refine r_iast hC sh11_24 (vpc (by decide) : vp_in 3 9) 3 (by decide) dX11_ruled_17 ?_
  refine r_nmM (fun μ3 hμ3 => ?_)
  have hO := hO μ3 hμ3
  refine r_aload_n hC 0 dX11_ruled_18 rfl rfl ?_
  refine r_getR hC 13 fl11_46 ob11 rfl dX11_ruled_19 ?_
  refine r_iconst hC 5 dX11_ruled_22 (by decide) ?_
  refine r_iload hC 4 dX11_ruled_23 rfl ?_
  refine r_iast hC sh11_24 (vpc (by decide) : vp_in 5 9) 5 (by decide) dX11_ruled_25 ?_
  refine r_nmM (fun μ4 hμ4 => ?_)
  have hO := hO μ4 hμ4
  refine r_aload_n hC 0 dX11_ruled_26 rfl rfl ?_
  refine r_getR hC 13 fl11_46 ob11 rfl dX11_ruled_27 ?_
  refine r_bipush hC 6 dX11_ruled_30 (by decide) ?_
  refine r_iload hC 5 dX11_ruled_32 rfl ?_
  refine r_iast hC sh11_24 (vpc (by decide) : vp_in 6 9) 6 (by decide) dX11_ruled_34 ?_
  refine r_nmM (fun μ5 hμ5 => ?_)
  have hO := hO μ5 hμ5
  refine r_aload_n hC 0 dX11_ruled_35 rfl rfl ?_
  refine r_getR hC 13 fl11_46 ob11 rfl dX11_ruled_36 ?_
  refine r_bipush hC 7 dX11_ruled_39 (by decide) ?_
  refine r_iload hC 6 dX11_ruled_41 rfl ?_
  refine r_iast hC sh11_24 (vpc (by decide) : vp_in 7 9) 7 (by decide) dX11_ruled_43 ?_
  refine r_nmM (fun μ6 hμ6 => ?_)
  have hO := hO μ6 hμ6
  refine r_aload_n hC 0 dX11_ruled_44 rfl rfl ?_
  refine r_getR hC 13 fl11_46 ob11 rfl dX11_ruled_45 ?_
  refine r_bipush hC 8 dX11_ruled_48 (by decide) ?_
  refine r_iload hC 7 dX11_ruled_50 rfl ?_
  refine r_iast hC sh11_24 (vpc (by decide) : vp_in 8 9) 8 (by decide) dX11_ruled_52 ?_
  refine r_nmM (fun μ7 hμ7 => ?_)
  have hO := hO μ7 hμ7
  refine r_aload_n hC 0 dX11_ruled_53 rfl rfl ?_
  refine r_bipush hC 120 dX11_ruled_54 (by decide) ?_
  refine r_iload_n hC 1 dX11_ruled_56 rfl rfl ?_
  refine r_imul hC dX11_ruled_57 ?_
  refine r_aload_n hC 0 dX11_ruled_58 rfl rfl ?_
  refine r_getR hC 12 fl11_43 ob11 rfl dX11_ruled_59 ?_
  refine r_iload_n hC 1 dX11_ruled_62 rfl rfl ?_
  obtain ⟨g8, hO⟩ := hO
  refine r_iald hC sh11_18 g8 p1.toNatClampNeg rfl dX11_ruled_63 ?_
  refine r_callVi hC [.int (120 * p1), .int (μ7.1 12 p1.toNatClampNeg)] (T11_workOut  hO) yv11_workOut ml11_238 ob11 rfl ⟨Nat.le_of_ble_eq_true rfl, Nat.le_of_ble_eq_true rfl⟩ rfl rfl (Nat.le_of_ble_eq_true rfl) dX11_ruled_64 (fun r9 μ10 hO => ?_)
  refine r_istore hC [(8, .int r9), (0, .ref (mw_a G 0)), (1, .int p1), (2, .int p2), (3, .int p3), (4, .int p4), (5, .int p5), (6, .int p6), (7, .int p7)] dX11_ruled_67 (by decide) rfl ?_
  refine r_iload hC 0 dX11_ruled_69 rfl ?_
  refine r_if_ge hC 78 dX11_ruled_71 (by decide) (fun h11 => ?_) (fun h11 => ?_)
  · have hO := hO.1 h11
    refine r_iload hC 0 dX11_ruled_78 rfl ?_
    refine r_sipush hC 1200 dX11_ruled_80 (by decide) ?_
    refine r_icmp_le hC 92 dX11_ruled_83 (by decide) (fun h12 => ?_) (fun h12 => ?_)
    · have hO := hO.1 h12
      refine r_iload hC 0 dX11_ruled_92 rfl ?_
      exact r_iret hC rfl dX11_ruled_94 hO
    · have hO := hO.2 h12
      refine r_sipush hC 1200 dX11_ruled_86 (by decide) ?_
      refine r_goto hC 94 dX11_ruled_89 (by decide) ?_
      exact r_iret hC rfl dX11_ruled_94 hO
  · have hO := hO.2 h11
    refine r_iconst hC 0 dX11_ruled_74 (by decide) ?_
    refine r_goto hC 94 dX11_ruled_75 (by decide) ?_
    exact r_iret hC rfl dX11_ruled_94 hO
