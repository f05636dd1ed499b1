set_option maxHeartbeats 4000000 in
set_option maxRecDepth 100000 in
theorem T11_within {l : Launch} {G : mw_G} {p1 : Int64} {p2 : Int64} {p3 : Int64} {μ : mw_M} {QT : Prop} {QF : Prop}  (hO : P11_within p1 p2 p3 QT QF) : mw_Mi l G kdM yX11_within cX11_within 6 (some .boolean) 0 0 [.long p1, .long p2, .long p3] μ (mw_bq (mw_pv μ QT) (mw_pv μ QF)) := by
  refine mw_enter [(0, .long p1), (2, .long p2), (4, .long p3)] RX11 (by decide) rfl (Nat.le_of_ble_eq_true rfl) rfl ?_
  intro p e s m args below meth c hC
  unfold P11_within at hO
  refine r_lload_n hC 0 dX11_within_0 rfl rfl ?_
  refine r_lload_n hC 1 dX11_within_1 rfl rfl ?_
  refine r_lcmp hC dX11_within_2 ?_
  refine r_if_lt hC 17 dX11_within_3 (by decide) (fun h1 => ?_) (fun h1 => ?_)
  · have hO := hO.1 h1
    refine r_iconst hC 0 dX11_within_17 (by decide) ?_
    exact r_zret hC rfl (by decide) dX11_within_18 (Or.inr ⟨rfl, hO, rfl⟩)
  · have hO := hO.2 h1
    refine r_lload_n hC 0 dX11_within_6 rfl rfl ?_
    refine r_lload hC 2 dX11_within_7 rfl ?_
    refine r_lcmp hC dX11_within_9 ?_
    refine r_if_gt hC 17 dX11_within_10 (by decide) (fun h2 => ?_) (fun h2 => ?_)
    · have hO := hO.1 h2
      refine r_iconst hC 0 dX11_within_17 (by decide) ?_
      exact r_zret hC rfl (by decide) dX11_within_18 (Or.inr ⟨rfl, hO, rfl⟩)
    · have hO := hO.2 h2
      refine r_iconst hC 1 dX11_within_13 (by decide) ?_
      refine r_goto hC 18 dX11_within_14 (by decide) ?_
      exact r_zret hC rfl (by decide) dX11_within_18 (Or.inl ⟨rfl, hO, rfl⟩)
set_option maxHeartbeats 4000000 in
set_option maxRecDepth 100000 in
theorem T11_size {l : Launch} {G : mw_G} {p1 : Int32} {μ : mw_M} {Q : Int32 → Prop}  (hO : P11_size p1 Q) : mw_Mi l G kdM yX11_size cX11_size 1 (some .int) 0 0 [.int p1] μ (mw_pq μ Q) := by
  refine mw_enter [(0, .int p1)] RX11 (by decide) rfl (Nat.le_of_ble_eq_true rfl) rfl ?_
  intro p e s m args below meth c hC
  unfold P11_size at hO
  refine r_iload_n hC 0 dX11_size_0 rfl rfl ?_
  refine r_if_ge hC 9 dX11_size_1 (by decide) (fun h1 => ?_) (fun h1 => ?_)
  · have hO := hO.1 h1
    refine r_iload_n hC 0 dX11_size_9 rfl rfl ?_
    exact r_iret hC rfl dX11_size_10 ⟨hO, rfl⟩
  · have hO := hO.2 h1
    refine r_iload_n hC 0 dX11_size_4 rfl rfl ?_
    refine r_ineg hC dX11_size_5 ?_
    refine r_goto hC 10 dX11_size_6 (by decide) ?_
    exact r_iret hC rfl dX11_size_10 ⟨hO, rfl⟩
set_option maxHeartbeats 4000000 in
set_option maxRecDepth 100000 in
theorem T11_becomes {l : Launch} {G : mw_G} {p1 : Int32} {p2 : Int32} {μ : mw_M} {Q : Int32 → mw_M → Prop}  (hO : P11_becomes p1 p2 μ Q) : mw_Mi l G kdM yX11_becomes cX11_becomes 5 (some .int) 0 0 [.ref (mw_a G 0), .int p1, .int p2] μ (Q) := by
  refine mw_enter [(0, .ref (mw_a G 0)), (1, .int p1), (2, .int p2)] RX11 (by decide) rfl (Nat.le_of_ble_eq_true rfl) rfl ?_
  intro p e s m args below meth c hC
  unfold P11_becomes at hO
  refine r_aload_n hC 0 dX11_becomes_0 rfl rfl ?_
  refine r_getR hC 1 fl11_9 ob11 rfl dX11_becomes_1 ?_
  refine r_iload_n hC 1 dX11_becomes_4 rfl rfl ?_
  obtain ⟨g1, hO⟩ := hO
  refine r_iald hC sh11_0 g1 p1.toNatClampNeg rfl dX11_becomes_5 ?_
  refine r_nmI (fun x2 hx2 => ?_)
  have hO := hO x2 hx2
  refine r_istore_n hC [(3, .int x2), (0, .ref (mw_a G 0)), (1, .int p1), (2, .int p2)] dX11_becomes_6 rfl (by decide) rfl ?_
  refine r_iload_n hC 0 dX11_becomes_7 rfl rfl ?_
  refine r_iload_n hC 3 dX11_becomes_8 rfl rfl ?_
  refine r_icmp_ne hC 14 dX11_becomes_9 (by decide) (fun h3 => ?_) (fun h3 => ?_)
  · have hO := hO.2 h3
    refine r_aload_n hC 1 dX11_becomes_14 rfl rfl ?_
    refine r_getI hC fl11_93 ob11 rfl dX11_becomes_15 ?_
    refine r_bipush hC 40 dX11_becomes_18 (by decide) ?_
    refine r_icmp_ne hC 97 dX11_becomes_20 (by decide) (fun h4 => ?_) (fun h4 => ?_)
    · have hO := hO.2 h4
      refine r_aload_n hC 1 dX11_becomes_97 rfl rfl ?_
      refine r_getR hC 2 fl11_13 ob11 rfl dX11_becomes_98 ?_
      refine r_aload_n hC 1 dX11_becomes_101 rfl rfl ?_
      refine r_getI hC fl11_93 ob11 rfl dX11_becomes_102 ?_
      refine r_iload_n hC 2 dX11_becomes_105 rfl rfl ?_
      obtain ⟨g5, hO⟩ := hO
      refine r_iast hC sh11_1 g5 ((μ.1 0 5).toNatClampNeg) rfl dX11_becomes_106 ?_
      refine r_nmM (fun μ6 hμ6 => ?_)
      have hO := hO μ6 hμ6
      refine r_aload_n hC 1 dX11_becomes_107 rfl rfl ?_
      refine r_getR hC 3 fl11_16 ob11 rfl dX11_becomes_108 ?_
      refine r_aload_n hC 1 dX11_becomes_111 rfl rfl ?_
      refine r_getI hC fl11_93 ob11 rfl dX11_becomes_112 ?_
      refine r_iload_n hC 0 dX11_becomes_115 rfl rfl ?_
      obtain ⟨g7, hO⟩ := hO
      refine r_iast hC sh11_2 g7 ((μ6.1 0 5).toNatClampNeg) rfl dX11_becomes_116 ?_
      refine r_nmM (fun μ8 hμ8 => ?_)
      have hO := hO μ8 hμ8
      refine r_aload_n hC 1 dX11_becomes_117 rfl rfl ?_
      refine r_getR hC 4 fl11_19 ob11 rfl dX11_becomes_118 ?_
      refine r_aload_n hC 1 dX11_becomes_121 rfl rfl ?_
      refine r_getI hC fl11_93 ob11 rfl dX11_becomes_122 ?_
      refine r_iload_n hC 3 dX11_becomes_125 rfl rfl ?_
      obtain ⟨g9, hO⟩ := hO
      refine r_iast hC sh11_3 g9 ((μ8.1 0 5).toNatClampNeg) rfl dX11_becomes_126 ?_
      refine r_nmM (fun μ10 hμ10 => ?_)
      have hO := hO μ10 hμ10
      refine r_aload_n hC 1 dX11_becomes_127 rfl rfl ?_
      refine r_dup hC dX11_becomes_128 rfl ?_
      refine r_getI hC fl11_93 ob11 rfl dX11_becomes_129 ?_
      refine r_iconst hC 1 dX11_becomes_132 (by decide) ?_
      refine r_iadd hC dX11_becomes_133 ?_
      refine r_putI hC fl11_93 ob11 rfl rfl rfl dX11_becomes_134 ?_
      refine r_nmM (fun μ11 hμ11 => ?_)
      have hO := hO μ11 hμ11
      refine r_aload_n hC 1 dX11_becomes_137 rfl rfl ?_
      refine r_aload_n hC 1 dX11_becomes_138 rfl rfl ?_
      refine r_getI hC fl11_93 ob11 rfl dX11_becomes_139 ?_
      refine r_putI hC fl11_96 ob11 rfl rfl rfl dX11_becomes_142 ?_
      refine r_nmM (fun μ12 hμ12 => ?_)
      have hO := hO μ12 hμ12
      refine r_aload_n hC 1 dX11_becomes_145 rfl rfl ?_
      refine r_getR hC 1 fl11_9 ob11 rfl dX11_becomes_146 ?_
      refine r_iload_n hC 2 dX11_becomes_149 rfl rfl ?_
      refine r_iload_n hC 3 dX11_becomes_150 rfl rfl ?_
      obtain ⟨g13, hO⟩ := hO
      refine r_iast hC sh11_0 g13 p1.toNatClampNeg rfl dX11_becomes_151 ?_
      refine r_nmM (fun μ14 hμ14 => ?_)
      have hO := hO μ14 hμ14
      refine r_iload_n hC 0 dX11_becomes_152 rfl rfl ?_
      exact r_iret hC rfl dX11_becomes_153 hO
    · have hO := hO.1 h4
      refine r_iconst hC 1 dX11_becomes_23 (by decide) ?_
      refine r_istore hC [(4, .int 1), (3, .int x2), (0, .ref (mw_a G 0)), (1, .int p1), (2, .int p2)] dX11_becomes_24 (by decide) rfl ?_
      have hLn17 : ∀  (K1 : Int32 → mw_M → Prop) (hK1 : ∀ (v15 : Int32) (μ16 : mw_M), K1 v15 μ16 → mw_W p l e (mw_rm 0 0) s m args below meth c G kdM 5 (MQ below (va_Qi (Q) (mw_B G kdM) (mw_A G kdM)) args s 0 0 (mw_A G kdM)) 87 [(4, .int v15), (3, .int x2), (0, .ref (mw_a G 0)), (1, .int p1), (2, .int p2)] [] μ16) (n17 : Nat) (v15 : Int32) (μ16 : mw_M), L11_becomes_26 x2 p1 p2 Q K1 n17 v15 μ16 → mw_W p l e (mw_rm 0 0) s m args below meth c G kdM 5 (MQ below (va_Qi (Q) (mw_B G kdM) (mw_A G kdM)) args s 0 0 (mw_A G kdM)) 26 [(4, .int v15), (3, .int x2), (0, .ref (mw_a G 0)), (1, .int p1), (2, .int p2)] [] μ16 := by
        intro  K1 hK1 n17
        induction n17 with
        | zero => intro v15 μ16 hO; exact False.elim hO
        | succ n17 ihn17 =>
          intro v15 μ16 hO
          refine r_iload hC 0 dX11_becomes_26 rfl ?_
          refine r_bipush hC 40 dX11_becomes_28 (by decide) ?_
          refine r_icmp_ge hC 87 dX11_becomes_30 (by decide) (fun h18 => ?_) (fun h18 => ?_)
          · have hO := hO.1 h18
            refine r_lv hC [(4, .int v15), (3, .int x2), (0, .ref (mw_a G 0)), (1, .int p1), (2, .int p2)] [0, 1, 2, 3, 4] rfl ?_
            exact hK1 v15 μ16 hO
          · have hO := hO.2 h18
            refine r_aload_n hC 2 dX11_becomes_33 rfl rfl ?_
            refine r_getR hC 2 fl11_13 ob11 rfl dX11_becomes_34 ?_
            refine r_iload hC 0 dX11_becomes_37 rfl ?_
            refine r_iconst hC 1 dX11_becomes_39 (by decide) ?_
            refine r_isub hC dX11_becomes_40 ?_
            refine r_aload_n hC 2 dX11_becomes_41 rfl rfl ?_
            refine r_getR hC 2 fl11_13 ob11 rfl dX11_becomes_42 ?_
            refine r_iload hC 0 dX11_becomes_45 rfl ?_
            obtain ⟨g19, hO⟩ := hO
            refine r_iald hC sh11_1 g19 v15.toNatClampNeg rfl dX11_becomes_47 ?_
            obtain ⟨g20, hO⟩ := hO
            refine r_iast hC sh11_1 g20 ((v15 - 1).toNatClampNeg) rfl dX11_becomes_48 ?_
            refine r_nmM (fun μ21 hμ21 => ?_)
            have hO := hO μ21 hμ21
            refine r_aload_n hC 2 dX11_becomes_49 rfl rfl ?_
            refine r_getR hC 3 fl11_16 ob11 rfl dX11_becomes_50 ?_
            refine r_iload hC 0 dX11_becomes_53 rfl ?_
            refine r_iconst hC 1 dX11_becomes_55 (by decide) ?_
            refine r_isub hC dX11_becomes_56 ?_
            refine r_aload_n hC 2 dX11_becomes_57 rfl rfl ?_
            refine r_getR hC 3 fl11_16 ob11 rfl dX11_becomes_58 ?_
            refine r_iload hC 0 dX11_becomes_61 rfl ?_
            obtain ⟨g22, hO⟩ := hO
            refine r_iald hC sh11_2 g22 v15.toNatClampNeg rfl dX11_becomes_63 ?_
            obtain ⟨g23, hO⟩ := hO
            refine r_iast hC sh11_2 g23 ((v15 - 1).toNatClampNeg) rfl dX11_becomes_64 ?_
            refine r_nmM (fun μ24 hμ24 => ?_)
            have hO := hO μ24 hμ24
            refine r_aload_n hC 2 dX11_becomes_65 rfl rfl ?_
            refine r_getR hC 4 fl11_19 ob11 rfl dX11_becomes_66 ?_
            refine r_iload hC 0 dX11_becomes_69 rfl ?_
            refine r_iconst hC 1 dX11_becomes_71 (by decide) ?_
            refine r_isub hC dX11_becomes_72 ?_
            refine r_aload_n hC 2 dX11_becomes_73 rfl rfl ?_
            refine r_getR hC 4 fl11_19 ob11 rfl dX11_becomes_74 ?_
            refine r_iload hC 0 dX11_becomes_77 rfl ?_
            obtain ⟨g25, hO⟩ := hO
            refine r_iald hC sh11_3 g25 v15.toNatClampNeg rfl dX11_becomes_79 ?_
            obtain ⟨g26, hO⟩ := hO
            refine r_iast hC sh11_3 g26 ((v15 - 1).toNatClampNeg) rfl dX11_becomes_80 ?_
            refine r_nmM (fun μ27 hμ27 => ?_)
            have hO := hO μ27 hμ27
            obtain ⟨x28, hx28⟩ : ∃ y : Int32, y = v15 + 1 := ⟨_, rfl⟩
            have hO := hO x28 hx28
            refine r_iinc hC x28 0 [(4, .int x28), (3, .int x2), (0, .ref (mw_a G 0)), (1, .int p1), (2, .int p2)] dX11_becomes_81 rfl (by rw [hx28]; rfl) (by decide) rfl ?_
            refine r_goto hC 26 dX11_becomes_84 (by decide) ?_
            refine r_lv hC [(4, .int x28), (3, .int x2), (0, .ref (mw_a G 0)), (1, .int p1), (2, .int p2)] [0, 1, 2, 3, 4] rfl ?_
            exact ihn17 x28 μ27 hO
      obtain ⟨n17, hO⟩ := hO
      refine hLn17  _ (fun v15 μ16 hO => ?_) n17 _ _ hO
      refine r_aload_n hC 2 dX11_becomes_87 rfl rfl ?_
      refine r_dup hC dX11_becomes_88 rfl ?_
      refine r_getI hC fl11_93 ob11 rfl dX11_becomes_89 ?_
      refine r_iconst hC 1 dX11_becomes_92 (by decide) ?_
      refine r_isub hC dX11_becomes_93 ?_
      refine r_putI hC fl11_93 ob11 rfl rfl rfl dX11_becomes_94 ?_
      refine r_nmM (fun μ29 hμ29 => ?_)
      have hO := hO μ29 hμ29
      refine r_aload_n hC 2 dX11_becomes_97 rfl rfl ?_
      refine r_getR hC 2 fl11_13 ob11 rfl dX11_becomes_98 ?_
      refine r_aload_n hC 2 dX11_becomes_101 rfl rfl ?_
      refine r_getI hC fl11_93 ob11 rfl dX11_becomes_102 ?_
      refine r_iload_n hC 3 dX11_becomes_105 rfl rfl ?_
      obtain ⟨g30, hO⟩ := hO
      refine r_iast hC sh11_1 g30 ((μ29.1 0 5).toNatClampNeg) rfl dX11_becomes_106 ?_
      refine r_nmM (fun μ31 hμ31 => ?_)
      have hO := hO μ31 hμ31
      refine r_aload_n hC 2 dX11_becomes_107 rfl rfl ?_
      refine r_getR hC 3 fl11_16 ob11 rfl dX11_becomes_108 ?_
      refine r_aload_n hC 2 dX11_becomes_111 rfl rfl ?_
      refine r_getI hC fl11_93 ob11 rfl dX11_becomes_112 ?_
      refine r_iload_n hC 1 dX11_becomes_115 rfl rfl ?_
      obtain ⟨g32, hO⟩ := hO
      refine r_iast hC sh11_2 g32 ((μ31.1 0 5).toNatClampNeg) rfl dX11_becomes_116 ?_
      refine r_nmM (fun μ33 hμ33 => ?_)
      have hO := hO μ33 hμ33
      refine r_aload_n hC 2 dX11_becomes_117 rfl rfl ?_
      refine r_getR hC 4 fl11_19 ob11 rfl dX11_becomes_118 ?_
      refine r_aload_n hC 2 dX11_becomes_121 rfl rfl ?_
      refine r_getI hC fl11_93 ob11 rfl dX11_becomes_122 ?_
      refine r_iload_n hC 4 dX11_becomes_125 rfl rfl ?_
      obtain ⟨g34, hO⟩ := hO
      refine r_iast hC sh11_3 g34 ((μ33.1 0 5).toNatClampNeg) rfl dX11_becomes_126 ?_
      refine r_nmM (fun μ35 hμ35 => ?_)
      have hO := hO μ35 hμ35
      refine r_aload_n hC 2 dX11_becomes_127 rfl rfl ?_
      refine r_dup hC dX11_becomes_128 rfl ?_
      refine r_getI hC fl11_93 ob11 rfl dX11_becomes_129 ?_
      refine r_iconst hC 1 dX11_becomes_132 (by decide) ?_
      refine r_iadd hC dX11_becomes_133 ?_
      refine r_putI hC fl11_93 ob11 rfl rfl rfl dX11_becomes_134 ?_
      refine r_nmM (fun μ36 hμ36 => ?_)
      have hO := hO μ36 hμ36
      refine r_aload_n hC 2 dX11_becomes_137 rfl rfl ?_
      refine r_aload_n hC 2 dX11_becomes_138 rfl rfl ?_
      refine r_getI hC fl11_93 ob11 rfl dX11_becomes_139 ?_
      refine r_putI hC fl11_96 ob11 rfl rfl rfl dX11_becomes_142 ?_
      refine r_nmM (fun μ37 hμ37 => ?_)
      have hO := hO μ37 hμ37
      refine r_aload_n hC 2 dX11_becomes_145 rfl rfl ?_
      refine r_getR hC 1 fl11_9 ob11 rfl dX11_becomes_146 ?_
      refine r_iload_n hC 3 dX11_becomes_149 rfl rfl ?_
      refine r_iload_n hC 4 dX11_becomes_150 rfl rfl ?_
      obtain ⟨g38, hO⟩ := hO
      refine r_iast hC sh11_0 g38 p1.toNatClampNeg rfl dX11_becomes_151 ?_
      refine r_nmM (fun μ39 hμ39 => ?_)
      have hO := hO μ39 hμ39
      refine r_iload_n hC 1 dX11_becomes_152 rfl rfl ?_
      exact r_iret hC rfl dX11_becomes_153 hO
  · have hO := hO.1 h3
    refine r_iload_n hC 0 dX11_becomes_12 rfl rfl ?_
    exact r_iret hC rfl dX11_becomes_13 hO
set_option maxHeartbeats 4000000 in
set_option maxRecDepth 100000 in
theorem T11_undo {l : Launch} {G : mw_G}  {μ : mw_M} {Q : Int32 → mw_M → Prop}  (hO : P11_undo μ Q) : mw_Mi l G kdM yX11_undo cX11_undo 1 (some .int) 0 0 [.ref (mw_a G 0)] μ (Q) := by
  refine mw_enter [(0, .ref (mw_a G 0))] RX11 (by decide) rfl (Nat.le_of_ble_eq_true rfl) rfl ?_
  intro p e s m args below meth c hC
  unfold P11_undo at hO
  refine r_aload_n hC 0 dX11_undo_0 rfl rfl ?_
  refine r_getI hC fl11_93 ob11 rfl dX11_undo_1 ?_
  refine r_if_ne hC 10 dX11_undo_4 (by decide) (fun h1 => ?_) (fun h1 => ?_)
  · have hO := hO.2 h1
    refine r_aload_n hC 0 dX11_undo_10 rfl rfl ?_
    refine r_dup hC dX11_undo_11 rfl ?_
    refine r_getI hC fl11_93 ob11 rfl dX11_undo_12 ?_
    refine r_iconst hC 1 dX11_undo_15 (by decide) ?_
    refine r_isub hC dX11_undo_16 ?_
    refine r_putI hC fl11_93 ob11 rfl rfl rfl dX11_undo_17 ?_
    refine r_nmM (fun μ2 hμ2 => ?_)
    have hO := hO μ2 hμ2
    refine r_aload_n hC 0 dX11_undo_20 rfl rfl ?_
    refine r_getR hC 1 fl11_9 ob11 rfl dX11_undo_21 ?_
    refine r_aload_n hC 0 dX11_undo_24 rfl rfl ?_
    refine r_getR hC 2 fl11_13 ob11 rfl dX11_undo_25 ?_
    refine r_aload_n hC 0 dX11_undo_28 rfl rfl ?_
    refine r_getI hC fl11_93 ob11 rfl dX11_undo_29 ?_
    obtain ⟨g3, hO⟩ := hO
    refine r_iald hC sh11_1 g3 ((μ2.1 0 5).toNatClampNeg) rfl dX11_undo_32 ?_
    refine r_aload_n hC 0 dX11_undo_33 rfl rfl ?_
    refine r_getR hC 3 fl11_16 ob11 rfl dX11_undo_34 ?_
    refine r_aload_n hC 0 dX11_undo_37 rfl rfl ?_
    refine r_getI hC fl11_93 ob11 rfl dX11_undo_38 ?_
    obtain ⟨g4, hO⟩ := hO
    refine r_iald hC sh11_2 g4 ((μ2.1 0 5).toNatClampNeg) rfl dX11_undo_41 ?_
    obtain ⟨g5, hO⟩ := hO
    refine r_iast hC sh11_0 g5 ((μ2.1 2 ((μ2.1 0 5).toNatClampNeg)).toNatClampNeg) rfl dX11_undo_42 ?_
    refine r_nmM (fun μ6 hμ6 => ?_)
    have hO := hO μ6 hμ6
    refine r_aload_n hC 0 dX11_undo_43 rfl rfl ?_
    refine r_getI hC fl11_93 ob11 rfl dX11_undo_44 ?_
    exact r_iret hC rfl dX11_undo_47 hO
  · have hO := hO.1 h1
    refine r_bipush hC (-5) dX11_undo_7 (by decide) ?_
    exact r_iret hC rfl dX11_undo_9 hO
set_option maxHeartbeats 4000000 in
set_option maxRecDepth 100000 in
theorem T11_redo {l : Launch} {G : mw_G}  {μ : mw_M} {Q : Int32 → mw_M → Prop}  (hO : P11_redo μ Q) : mw_Mi l G kdM yX11_redo cX11_redo 1 (some .int) 0 0 [.ref (mw_a G 0)] μ (Q) := by
  refine mw_enter [(0, .ref (mw_a G 0))] RX11 (by decide) rfl (Nat.le_of_ble_eq_true rfl) rfl ?_
  intro p e s m args below meth c hC
  unfold P11_redo at hO
  refine r_aload_n hC 0 dX11_redo_0 rfl rfl ?_
  refine r_getI hC fl11_93 ob11 rfl dX11_redo_1 ?_
  refine r_aload_n hC 0 dX11_redo_4 rfl rfl ?_
  refine r_getI hC fl11_96 ob11 rfl dX11_redo_5 ?_
  refine r_icmp_ne hC 14 dX11_redo_8 (by decide) (fun h1 => ?_) (fun h1 => ?_)
  · have hO := hO.2 h1
    refine r_aload_n hC 0 dX11_redo_14 rfl rfl ?_
    refine r_getR hC 1 fl11_9 ob11 rfl dX11_redo_15 ?_
    refine r_aload_n hC 0 dX11_redo_18 rfl rfl ?_
    refine r_getR hC 2 fl11_13 ob11 rfl dX11_redo_19 ?_
    refine r_aload_n hC 0 dX11_redo_22 rfl rfl ?_
    refine r_getI hC fl11_93 ob11 rfl dX11_redo_23 ?_
    obtain ⟨g2, hO⟩ := hO
    refine r_iald hC sh11_1 g2 ((μ.1 0 5).toNatClampNeg) rfl dX11_redo_26 ?_
    refine r_aload_n hC 0 dX11_redo_27 rfl rfl ?_
    refine r_getR hC 4 fl11_19 ob11 rfl dX11_redo_28 ?_
    refine r_aload_n hC 0 dX11_redo_31 rfl rfl ?_
    refine r_getI hC fl11_93 ob11 rfl dX11_redo_32 ?_
    obtain ⟨g3, hO⟩ := hO
    refine r_iald hC sh11_3 g3 ((μ.1 0 5).toNatClampNeg) rfl dX11_redo_35 ?_
    obtain ⟨g4, hO⟩ := hO
    refine r_iast hC sh11_0 g4 ((μ.1 2 ((μ.1 0 5).toNatClampNeg)).toNatClampNeg) rfl dX11_redo_36 ?_
    refine r_nmM (fun μ5 hμ5 => ?_)
    have hO := hO μ5 hμ5
    refine r_aload_n hC 0 dX11_redo_37 rfl rfl ?_
    refine r_dup hC dX11_redo_38 rfl ?_
    refine r_getI hC fl11_93 ob11 rfl dX11_redo_39 ?_
    refine r_iconst hC 1 dX11_redo_42 (by decide) ?_
    refine r_iadd hC dX11_redo_43 ?_
    refine r_putI hC fl11_93 ob11 rfl rfl rfl dX11_redo_44 ?_
    refine r_nmM (fun μ6 hμ6 => ?_)
    have hO := hO μ6 hμ6
    refine r_aload_n hC 0 dX11_redo_47 rfl rfl ?_
    refine r_getI hC fl11_96 ob11 rfl dX11_redo_48 ?_
    refine r_aload_n hC 0 dX11_redo_51 rfl rfl ?_
    refine r_getI hC fl11_93 ob11 rfl dX11_redo_52 ?_
    refine r_isub hC dX11_redo_55 ?_
    exact r_iret hC rfl dX11_redo_56 hO
  · have hO := hO.1 h1
    refine r_bipush hC (-5) dX11_redo_11 (by decide) ?_
    exact r_iret hC rfl dX11_redo_13 hO
set_option maxHeartbeats 4000000 in
set_option maxRecDepth 100000 in
theorem T11_cosine {l : Launch} {G : mw_G} {p1 : Int32} {μ : mw_M} {Q : Int32 → Prop}  (hO : P11_cosine p1 Q) : mw_Mi l G kdM yX11_cosine cX11_cosine 2 (some .int) 0 0 [.int p1] μ (mw_pq μ Q) := by
  refine mw_enter [(0, .int p1)] RX11 (by decide) rfl (Nat.le_of_ble_eq_true rfl) rfl ?_
  intro p e s m args below meth c hC
  unfold P11_cosine at hO
  refine r_iload_n hC 0 dX11_cosine_0 rfl rfl ?_
  refine r_bipush hC 6 dX11_cosine_1 (by decide) ?_
  refine r_icmp_le hC 13 dX11_cosine_3 (by decide) (fun h1 => ?_) (fun h1 => ?_)
  · have hO := hO.1 h1
    refine r_iload_n hC 0 dX11_cosine_13 rfl rfl ?_
    refine r_istore_n hC [(1, .int p1), (0, .int p1)] dX11_cosine_14 rfl (by decide) rfl ?_
    refine r_iload_n hC 0 dX11_cosine_15 rfl rfl ?_
    by_cases h2 : p1 = 0
    · have hO := hO.1 h2
      refine r_tin hC 56 dX11_cosine_16 (by rw [h2]; decide) (by rw [h2]; decide) (by rw [h2] <;> rfl) (by decide) ?_
      refine r_sipush hC 1000 dX11_cosine_56 (by decide) ?_
      exact r_iret hC rfl dX11_cosine_59 ⟨hO, rfl⟩
    by_cases h3 : p1 = 1
    · have hO := hO.2.1 h3
      refine r_tin hC 60 dX11_cosine_16 (by rw [h3]; decide) (by rw [h3]; decide) (by rw [h3] <;> rfl) (by decide) ?_
      refine r_sipush hC 866 dX11_cosine_60 (by decide) ?_
      exact r_iret hC rfl dX11_cosine_63 ⟨hO, rfl⟩
    by_cases h4 : p1 = 2
    · have hO := hO.2.2.1 h4
      refine r_tin hC 64 dX11_cosine_16 (by rw [h4]; decide) (by rw [h4]; decide) (by rw [h4] <;> rfl) (by decide) ?_
      refine r_sipush hC 500 dX11_cosine_64 (by decide) ?_
      exact r_iret hC rfl dX11_cosine_67 ⟨hO, rfl⟩
    by_cases h5 : p1 = 3
    · have hO := hO.2.2.2.1 h5
      refine r_tin hC 68 dX11_cosine_16 (by rw [h5]; decide) (by rw [h5]; decide) (by rw [h5] <;> rfl) (by decide) ?_
      refine r_iconst hC 0 dX11_cosine_68 (by decide) ?_
      exact r_iret hC rfl dX11_cosine_69 ⟨hO, rfl⟩
    by_cases h6 : p1 = 4
    · have hO := hO.2.2.2.2.1 h6
      refine r_tin hC 70 dX11_cosine_16 (by rw [h6]; decide) (by rw [h6]; decide) (by rw [h6] <;> rfl) (by decide) ?_
      refine r_sipush hC (-500) dX11_cosine_70 (by decide) ?_
      exact r_iret hC rfl dX11_cosine_73 ⟨hO, rfl⟩
    by_cases h7 : p1 = 5
    · have hO := hO.2.2.2.2.2.1 h7
      refine r_tin hC 74 dX11_cosine_16 (by rw [h7]; decide) (by rw [h7]; decide) (by rw [h7] <;> rfl) (by decide) ?_
      refine r_sipush hC (-866) dX11_cosine_74 (by decide) ?_
      exact r_iret hC rfl dX11_cosine_77 ⟨hO, rfl⟩
    have hO := hO.2.2.2.2.2.2 h2 h3 h4 h5 h6 h7
    refine r_tdef hC 78 dX11_cosine_16 (by decide) rfl (fun k hk => match k, hk with | 0, _ => Or.inr (mw_ne h2 rfl) | 1, _ => Or.inr (mw_ne h3 rfl) | 2, _ => Or.inr (mw_ne h4 rfl) | 3, _ => Or.inr (mw_ne h5 rfl) | 4, _ => Or.inr (mw_ne h6 rfl) | 5, _ => Or.inr (mw_ne h7 rfl) | k + 6, h => absurd h (by show ¬ k + 6 < 6; omega)) ?_
    refine r_sipush hC (-1000) dX11_cosine_78 (by decide) ?_
    exact r_iret hC rfl dX11_cosine_81 ⟨hO, rfl⟩
  · have hO := hO.2 h1
    refine r_bipush hC 12 dX11_cosine_6 (by decide) ?_
    refine r_iload_n hC 0 dX11_cosine_8 rfl rfl ?_
    refine r_isub hC dX11_cosine_9 ?_
    refine r_goto hC 14 dX11_cosine_10 (by decide) ?_
    refine r_nmI (fun x8 hx8 => ?_)
    have hO := hO x8 hx8
    refine r_istore_n hC [(1, .int x8), (0, .int p1)] dX11_cosine_14 rfl (by decide) rfl ?_
    refine r_iload_n hC 0 dX11_cosine_15 rfl rfl ?_
    by_cases h9 : x8 = 0
    · have hO := hO.1 h9
      refine r_tin hC 56 dX11_cosine_16 (by rw [h9]; decide) (by rw [h9]; decide) (by rw [h9] <;> rfl) (by decide) ?_
      refine r_sipush hC 1000 dX11_cosine_56 (by decide) ?_
      exact r_iret hC rfl dX11_cosine_59 ⟨hO, rfl⟩
    by_cases h10 : x8 = 1
    · have hO := hO.2.1 h10
      refine r_tin hC 60 dX11_cosine_16 (by rw [h10]; decide) (by rw [h10]; decide) (by rw [h10] <;> rfl) (by decide) ?_
      refine r_sipush hC 866 dX11_cosine_60 (by decide) ?_
      exact r_iret hC rfl dX11_cosine_63 ⟨hO, rfl⟩
    by_cases h11 : x8 = 2
    · have hO := hO.2.2.1 h11
      refine r_tin hC 64 dX11_cosine_16 (by rw [h11]; decide) (by rw [h11]; decide) (by rw [h11] <;> rfl) (by decide) ?_
      refine r_sipush hC 500 dX11_cosine_64 (by decide) ?_
      exact r_iret hC rfl dX11_cosine_67 ⟨hO, rfl⟩
    by_cases h12 : x8 = 3
    · have hO := hO.2.2.2.1 h12
      refine r_tin hC 68 dX11_cosine_16 (by rw [h12]; decide) (by rw [h12]; decide) (by rw [h12] <;> rfl) (by decide) ?_
      refine r_iconst hC 0 dX11_cosine_68 (by decide) ?_
      exact r_iret hC rfl dX11_cosine_69 ⟨hO, rfl⟩
    by_cases h13 : x8 = 4
    · have hO := hO.2.2.2.2.1 h13
      refine r_tin hC 70 dX11_cosine_16 (by rw [h13]; decide) (by rw [h13]; decide) (by rw [h13] <;> rfl) (by decide) ?_
      refine r_sipush hC (-500) dX11_cosine_70 (by decide) ?_
      exact r_iret hC rfl dX11_cosine_73 ⟨hO, rfl⟩
    by_cases h14 : x8 = 5
    · have hO := hO.2.2.2.2.2.1 h14
      refine r_tin hC 74 dX11_cosine_16 (by rw [h14]; decide) (by rw [h14]; decide) (by rw [h14] <;> rfl) (by decide) ?_
      refine r_sipush hC (-866) dX11_cosine_74 (by decide) ?_
      exact r_iret hC rfl dX11_cosine_77 ⟨hO, rfl⟩
    have hO := hO.2.2.2.2.2.2 h9 h10 h11 h12 h13 h14
    refine r_tdef hC 78 dX11_cosine_16 (by decide) rfl (fun k hk => match k, hk with | 0, _ => Or.inr (mw_ne h9 rfl) | 1, _ => Or.inr (mw_ne h10 rfl) | 2, _ => Or.inr (mw_ne h11 rfl) | 3, _ => Or.inr (mw_ne h12 rfl) | 4, _ => Or.inr (mw_ne h13 rfl) | 5, _ => Or.inr (mw_ne h14 rfl) | k + 6, h => absurd h (by show ¬ k + 6 < 6; omega)) ?_
    refine r_sipush hC (-1000) dX11_cosine_78 (by decide) ?_
    exact r_iret hC rfl dX11_cosine_81 ⟨hO, rfl⟩
set_option maxHeartbeats 4000000 in
set_option maxRecDepth 100000 in
theorem T11_sine {l : Launch} {G : mw_G} {p1 : Int32} {μ : mw_M} {Q : Int32 → Prop}  (hO : P11_sine p1 Q) : mw_Mi l G kdM yX11_sine cX11_sine 1 (some .int) 1 21 [.int p1] μ (mw_pq μ Q) := by
  refine mw_enter [(0, .int p1)] RX11 (by decide) rfl (Nat.le_of_ble_eq_true rfl) rfl ?_
  intro p e s m args below meth c hC
  unfold P11_sine at hO
  refine r_iload_n hC 0 dX11_sine_0 rfl rfl ?_
  refine r_bipush hC 9 dX11_sine_1 (by decide) ?_
  refine r_iadd hC dX11_sine_3 ?_
  refine r_bipush hC 12 dX11_sine_4 (by decide) ?_
  refine r_irem hC dX11_sine_6 (by decide) ?_
  refine r_callSi hC [.int (mw_rem (p1 + 9) 12)] (T11_cosine  hO) yv11_cosine ml11_99 ⟨Nat.le_of_ble_eq_true rfl, Nat.le_of_ble_eq_true rfl⟩ rfl rfl (Nat.le_of_ble_eq_true rfl) dX11_sine_7 (fun r1 μ2 hO => ?_)
  obtain ⟨hO, hm⟩ := hO
  refine r_memEq hm ?_
  exact r_iret hC rfl dX11_sine_10 ⟨hO, rfl⟩
set_option maxHeartbeats 4000000 in
set_option maxRecDepth 100000 in
theorem T11_isLump {l : Launch} {G : mw_G} {p1 : Int32} {μ : mw_M} {QT : Prop} {QF : Prop}  (hO : P11_isLump p1 μ QT QF) : mw_Mi l G kdM yX11_isLump cX11_isLump 2 (some .boolean) 1 25 [.ref (mw_a G 0), .int p1] μ (mw_bq (mw_pv μ QT) (mw_pv μ QF)) := by
  refine mw_enter [(0, .ref (mw_a G 0)), (1, .int p1)] RX11 (by decide) rfl (Nat.le_of_ble_eq_true rfl) rfl ?_
  intro p e s m args below meth c hC
  unfold P11_isLump at hO
  refine r_iload_n hC 1 dX11_isLump_0 rfl rfl ?_
  refine r_i2l hC dX11_isLump_1 ?_
  refine r_lconst hC 0 dX11_isLump_2 (by decide) ?_
  refine r_aload_n hC 0 dX11_isLump_3 rfl rfl ?_
  refine r_getI hC fl11_103 ob11 rfl dX11_isLump_4 ?_
  refine r_iconst hC 1 dX11_isLump_7 (by decide) ?_
  refine r_isub hC dX11_isLump_8 ?_
  refine r_i2l hC dX11_isLump_9 ?_
  refine r_callSi hC [.long (Int32.toInt64 p1), .long 0, .long (Int32.toInt64 ((μ.1 0 6) - 1))] (T11_within  hO) yv11_within ml11_106 ⟨Nat.le_of_ble_eq_true rfl, Nat.le_of_ble_eq_true rfl⟩ rfl rfl (Nat.le_of_ble_eq_true rfl) dX11_isLump_10 (fun r1 μ2 hO => ?_)
  rcases hO with ⟨hr, hO⟩ | ⟨hr, hO⟩
  · refine r_topEq hr ?_
    obtain ⟨hO, hm⟩ := hO
    refine r_memEq hm ?_
    exact r_zret hC rfl (by decide) dX11_isLump_13 (Or.inl ⟨rfl, hO, rfl⟩)
  · refine r_topEq hr ?_
    obtain ⟨hO, hm⟩ := hO
    refine r_memEq hm ?_
    exact r_zret hC rfl (by decide) dX11_isLump_13 (Or.inr ⟨rfl, hO, rfl⟩)
set_option maxHeartbeats 4000000 in
set_option maxRecDepth 100000 in
theorem T11_isOne {l : Launch} {G : mw_G} {p1 : Int64} {p2 : Int64} {p3 : Int64} {p4 : Int64} {μ : mw_M} {QT : Prop} {QF : Prop}  (hO : P11_isOne p1 p2 p3 p4 QT QF) : mw_Mi l G kdM yX11_isOne cX11_isOne 8 (some .boolean) 1 25 [.long p1, .long p2, .long p3, .long p4] μ (mw_bq (mw_pv μ QT) (mw_pv μ QF)) := by
  refine mw_enter [(0, .long p1), (2, .long p2), (4, .long p3), (6, .long p4)] RX11 (by decide) rfl (Nat.le_of_ble_eq_true rfl) rfl ?_
  intro p e s m args below meth c hC
  unfold P11_isOne at hO
  refine r_lload_n hC 0 dX11_isOne_0 rfl rfl ?_
  refine r_lconst hC 1 dX11_isOne_1 (by decide) ?_
  refine r_ldc2 hC kc11_110 dX11_isOne_2 ?_
  refine r_callSi hC [.long p1, .long 1, .long 50] (T11_within  hO) yv11_within ml11_106 ⟨Nat.le_of_ble_eq_true rfl, Nat.le_of_ble_eq_true rfl⟩ rfl rfl (Nat.le_of_ble_eq_true rfl) dX11_isOne_5 (fun r1 μ2 hO => ?_)
  rcases hO with ⟨hr, hO⟩ | ⟨hr, hO⟩
  · refine r_topEq hr ?_
    obtain ⟨hO, hm⟩ := hO
    refine r_memEq hm ?_
    refine r_if_eq hC 50 dX11_isOne_8 (by decide) (fun h => absurd h (by decide)) (fun _ => ?_)
    refine r_lload_n hC 1 dX11_isOne_11 rfl rfl ?_
    refine r_lconst hC 0 dX11_isOne_12 (by decide) ?_
    refine r_ldc2 hC kc11_112 dX11_isOne_13 ?_
    refine r_callSi hC [.long p2, .long 0, .long 99] (T11_within  hO) yv11_within ml11_106 ⟨Nat.le_of_ble_eq_true rfl, Nat.le_of_ble_eq_true rfl⟩ rfl rfl (Nat.le_of_ble_eq_true rfl) dX11_isOne_16 (fun r3 μ4 hO => ?_)
    rcases hO with ⟨hr, hO⟩ | ⟨hr, hO⟩
    · refine r_topEq hr ?_
      obtain ⟨hO, hm⟩ := hO
      refine r_memEq hm ?_
      refine r_if_eq hC 50 dX11_isOne_19 (by decide) (fun h => absurd h (by decide)) (fun _ => ?_)
      refine r_lload hC 2 dX11_isOne_22 rfl ?_
      refine r_lconst hC 0 dX11_isOne_24 (by decide) ?_
      refine r_ldc2 hC kc11_114 dX11_isOne_25 ?_
      refine r_callSi hC [.long p3, .long 0, .long 11] (T11_within  hO) yv11_within ml11_106 ⟨Nat.le_of_ble_eq_true rfl, Nat.le_of_ble_eq_true rfl⟩ rfl rfl (Nat.le_of_ble_eq_true rfl) dX11_isOne_28 (fun r5 μ6 hO => ?_)
      rcases hO with ⟨hr, hO⟩ | ⟨hr, hO⟩
      · refine r_topEq hr ?_
        obtain ⟨hO, hm⟩ := hO
        refine r_memEq hm ?_
        refine r_if_eq hC 50 dX11_isOne_31 (by decide) (fun h => absurd h (by decide)) (fun _ => ?_)
        refine r_lload hC 3 dX11_isOne_34 rfl ?_
        refine r_lconst hC 0 dX11_isOne_36 (by decide) ?_
        refine r_ldc2 hC kc11_116 dX11_isOne_37 ?_
        refine r_callSi hC [.long p4, .long 0, .long 9] (T11_within  hO) yv11_within ml11_106 ⟨Nat.le_of_ble_eq_true rfl, Nat.le_of_ble_eq_true rfl⟩ rfl rfl (Nat.le_of_ble_eq_true rfl) dX11_isOne_40 (fun r7 μ8 hO => ?_)
        rcases hO with ⟨hr, hO⟩ | ⟨hr, hO⟩
        · refine r_topEq hr ?_
          obtain ⟨hO, hm⟩ := hO
          refine r_memEq hm ?_
          refine r_if_eq hC 50 dX11_isOne_43 (by decide) (fun h => absurd h (by decide)) (fun _ => ?_)
          refine r_iconst hC 1 dX11_isOne_46 (by decide) ?_
          refine r_goto hC 51 dX11_isOne_47 (by decide) ?_
          exact r_zret hC rfl (by decide) dX11_isOne_51 (Or.inl ⟨rfl, hO, rfl⟩)
        · refine r_topEq hr ?_
          obtain ⟨hO, hm⟩ := hO
          refine r_memEq hm ?_
          refine r_if_eq hC 50 dX11_isOne_43 (by decide) (fun _ => ?_) (fun h => absurd (by decide) h)
          refine r_iconst hC 0 dX11_isOne_50 (by decide) ?_
          exact r_zret hC rfl (by decide) dX11_isOne_51 (Or.inr ⟨rfl, hO, rfl⟩)
      · refine r_topEq hr ?_
        obtain ⟨hO, hm⟩ := hO
        refine r_memEq hm ?_
        refine r_if_eq hC 50 dX11_isOne_31 (by decide) (fun _ => ?_) (fun h => absurd (by decide) h)
        refine r_iconst hC 0 dX11_isOne_50 (by decide) ?_
        exact r_zret hC rfl (by decide) dX11_isOne_51 (Or.inr ⟨rfl, hO, rfl⟩)
    · refine r_topEq hr ?_
      obtain ⟨hO, hm⟩ := hO
      refine r_memEq hm ?_
      refine r_if_eq hC 50 dX11_isOne_19 (by decide) (fun _ => ?_) (fun h => absurd (by decide) h)
      refine r_iconst hC 0 dX11_isOne_50 (by decide) ?_
      exact r_zret hC rfl (by decide) dX11_isOne_51 (Or.inr ⟨rfl, hO, rfl⟩)
  · refine r_topEq hr ?_
    obtain ⟨hO, hm⟩ := hO
    refine r_memEq hm ?_
    refine r_if_eq hC 50 dX11_isOne_8 (by decide) (fun _ => ?_) (fun h => absurd (by decide) h)
    refine r_iconst hC 0 dX11_isOne_50 (by decide) ?_
    exact r_zret hC rfl (by decide) dX11_isOne_51 (Or.inr ⟨rfl, hO, rfl⟩)
set_option maxHeartbeats 4000000 in
set_option maxRecDepth 100000 in
theorem T11_adds {l : Launch} {G : mw_G} {p1 : Int32} {p2 : Int32} {p3 : Int32} {p4 : Int32} {μ : mw_M} {Q : mw_M → Prop}  (hO : P11_adds p1 p2 p3 p4 μ Q) : mw_Mv l G kdM yX11_adds cX11_adds 5 none 0 0 [.ref (mw_a G 0), .int p1, .int p2, .int p3, .int p4] μ (Q) := by
  refine mw_enter [(0, .ref (mw_a G 0)), (1, .int p1), (2, .int p2), (3, .int p3), (4, .int p4)] RX11 (by decide) rfl (Nat.le_of_ble_eq_true rfl) rfl ?_
  intro p e s m args below meth c hC
  unfold P11_adds at hO
  refine r_aload_n hC 0 dX11_adds_0 rfl rfl ?_
  refine r_getR hC 1 fl11_9 ob11 rfl dX11_adds_1 ?_
  refine r_aload_n hC 0 dX11_adds_4 rfl rfl ?_
  refine r_getI hC fl11_103 ob11 rfl dX11_adds_5 ?_
  refine r_iload_n hC 1 dX11_adds_8 rfl rfl ?_
  obtain ⟨g1, hO⟩ := hO
  refine r_iast hC sh11_0 g1 ((μ.1 0 6).toNatClampNeg) rfl dX11_adds_9 ?_
  refine r_nmM (fun μ2 hμ2 => ?_)
  have hO := hO μ2 hμ2
  refine r_aload_n hC 0 dX11_adds_10 rfl rfl ?_
  refine r_getR hC 1 fl11_9 ob11 rfl dX11_adds_11 ?_
  refine r_bipush hC 12 dX11_adds_14 (by decide) ?_
  refine r_aload_n hC 0 dX11_adds_16 rfl rfl ?_
  refine r_getI hC fl11_103 ob11 rfl dX11_adds_17 ?_
  refine r_iadd hC dX11_adds_20 ?_
  refine r_iload_n hC 2 dX11_adds_21 rfl rfl ?_
  obtain ⟨g3, hO⟩ := hO
  refine r_iast hC sh11_0 g3 ((12 + (μ2.1 0 6)).toNatClampNeg) rfl dX11_adds_22 ?_
  refine r_nmM (fun μ4 hμ4 => ?_)
  have hO := hO μ4 hμ4
  refine r_aload_n hC 0 dX11_adds_23 rfl rfl ?_
  refine r_getR hC 1 fl11_9 ob11 rfl dX11_adds_24 ?_
  refine r_bipush hC 24 dX11_adds_27 (by decide) ?_
  refine r_aload_n hC 0 dX11_adds_29 rfl rfl ?_
  refine r_getI hC fl11_103 ob11 rfl dX11_adds_30 ?_
  refine r_iadd hC dX11_adds_33 ?_
  refine r_iload_n hC 3 dX11_adds_34 rfl rfl ?_
  obtain ⟨g5, hO⟩ := hO
  refine r_iast hC sh11_0 g5 ((24 + (μ4.1 0 6)).toNatClampNeg) rfl dX11_adds_35 ?_
  refine r_nmM (fun μ6 hμ6 => ?_)
  have hO := hO μ6 hμ6
  refine r_aload_n hC 0 dX11_adds_36 rfl rfl ?_
  refine r_getR hC 5 fl11_22 ob11 rfl dX11_adds_37 ?_
  refine r_aload_n hC 0 dX11_adds_40 rfl rfl ?_
  refine r_getI hC fl11_103 ob11 rfl dX11_adds_41 ?_
  refine r_iload hC 4 dX11_adds_44 rfl ?_
  obtain ⟨g7, hO⟩ := hO
  refine r_iast hC sh11_7 g7 ((μ6.1 0 6).toNatClampNeg) rfl dX11_adds_46 ?_
  refine r_nmM (fun μ8 hμ8 => ?_)
  have hO := hO μ8 hμ8
  refine r_aload_n hC 0 dX11_adds_47 rfl rfl ?_
  refine r_dup hC dX11_adds_48 rfl ?_
  refine r_getI hC fl11_103 ob11 rfl dX11_adds_49 ?_
  refine r_iconst hC 1 dX11_adds_52 (by decide) ?_
  refine r_iadd hC dX11_adds_53 ?_
  refine r_putI hC fl11_103 ob11 rfl rfl rfl dX11_adds_54 ?_
  refine r_nmM (fun μ9 hμ9 => ?_)
  have hO := hO μ9 hμ9
  exact r_vret hC rfl dX11_adds_57 hO
set_option maxHeartbeats 4000000 in
set_option maxRecDepth 100000 in
theorem T11_lump {l : Launch} {G : mw_G} {p1 : Int32} {p2 : Int32} {μ : mw_M} {Q : Int32 → mw_M → Prop}  (hO : P11_lump p1 p2 μ Q) : mw_Mi l G kdM yX11_lump cX11_lump 3 (some .int) 2 52 [.ref (mw_a G 0), .int p1, .int p2] μ (Q) := by
  refine mw_enter [(0, .ref (mw_a G 0)), (1, .int p1), (2, .int p2)] RX11 (by decide) rfl (Nat.le_of_ble_eq_true rfl) rfl ?_
  intro p e s m args below meth c hC
  unfold P11_lump at hO
  refine r_iload_n hC 1 dX11_lump_0 rfl rfl ?_
  refine r_if_lt hC 34 dX11_lump_1 (by decide) (fun h1 => ?_) (fun h1 => ?_)
  · have hO := hO.1 h1
    refine r_iconst hC (-1) dX11_lump_34 (by decide) ?_
    exact r_iret hC rfl dX11_lump_35 hO
  · have hO := hO.2 h1
    refine r_iload_n hC 2 dX11_lump_4 rfl rfl ?_
    refine r_if_lt hC 34 dX11_lump_5 (by decide) (fun h2 => ?_) (fun h2 => ?_)
    · have hO := hO.1 h2
      refine r_iconst hC (-1) dX11_lump_34 (by decide) ?_
      exact r_iret hC rfl dX11_lump_35 hO
    · have hO := hO.2 h2
      refine r_iload_n hC 1 dX11_lump_8 rfl rfl ?_
      refine r_bipush hC 100 dX11_lump_9 (by decide) ?_
      refine r_idiv hC dX11_lump_11 (by decide) ?_
      refine r_i2l hC dX11_lump_12 ?_
      refine r_iload_n hC 1 dX11_lump_13 rfl rfl ?_
      refine r_bipush hC 100 dX11_lump_14 (by decide) ?_
      refine r_irem hC dX11_lump_16 (by decide) ?_
      refine r_i2l hC dX11_lump_17 ?_
      refine r_iload_n hC 2 dX11_lump_18 rfl rfl ?_
      refine r_bipush hC 10 dX11_lump_19 (by decide) ?_
      refine r_idiv hC dX11_lump_21 (by decide) ?_
      refine r_i2l hC dX11_lump_22 ?_
      refine r_iload_n hC 2 dX11_lump_23 rfl rfl ?_
      refine r_bipush hC 10 dX11_lump_24 (by decide) ?_
      refine r_irem hC dX11_lump_26 (by decide) ?_
      refine r_i2l hC dX11_lump_27 ?_
      refine r_callSi hC [.long (Int32.toInt64 (p1 / 100)), .long (Int32.toInt64 (mw_rem p1 100)), .long (Int32.toInt64 (p2 / 10)), .long (Int32.toInt64 (mw_rem p2 10))] (T11_isOne  hO) yv11_isOne ml11_118 ⟨Nat.le_of_ble_eq_true rfl, Nat.le_of_ble_eq_true rfl⟩ rfl rfl (Nat.le_of_ble_eq_true rfl) dX11_lump_28 (fun r3 μ4 hO => ?_)
      rcases hO with ⟨hr, hO⟩ | ⟨hr, hO⟩
      · refine r_topEq hr ?_
        obtain ⟨hO, hm⟩ := hO
        refine r_memEq hm ?_
        refine r_if_ne hC 36 dX11_lump_31 (by decide) (fun _ => ?_) (fun h => absurd h (by decide))
        refine r_aload_n hC 0 dX11_lump_36 rfl rfl ?_
        refine r_getI hC fl11_103 ob11 rfl dX11_lump_37 ?_
        refine r_bipush hC 12 dX11_lump_40 (by decide) ?_
        refine r_icmp_ne hC 48 dX11_lump_42 (by decide) (fun h5 => ?_) (fun h5 => ?_)
        · have hO := hO.2 h5
          refine r_aload_n hC 0 dX11_lump_48 rfl rfl ?_
          refine r_iload_n hC 1 dX11_lump_49 rfl rfl ?_
          refine r_bipush hC 100 dX11_lump_50 (by decide) ?_
          refine r_idiv hC dX11_lump_52 (by decide) ?_
          refine r_iload_n hC 1 dX11_lump_53 rfl rfl ?_
          refine r_bipush hC 100 dX11_lump_54 (by decide) ?_
          refine r_irem hC dX11_lump_56 (by decide) ?_
          refine r_iload_n hC 2 dX11_lump_57 rfl rfl ?_
          refine r_bipush hC 10 dX11_lump_58 (by decide) ?_
          refine r_idiv hC dX11_lump_60 (by decide) ?_
          refine r_iload_n hC 2 dX11_lump_61 rfl rfl ?_
          refine r_bipush hC 10 dX11_lump_62 (by decide) ?_
          refine r_irem hC dX11_lump_64 (by decide) ?_
          refine r_callVv hC [.int (p1 / 100), .int (mw_rem p1 100), .int (p2 / 10), .int (mw_rem p2 10)] (T11_adds  hO) yv11_adds ml11_122 ob11 rfl ⟨Nat.le_of_ble_eq_true rfl, Nat.le_of_ble_eq_true rfl⟩ rfl rfl (Nat.le_of_ble_eq_true rfl) dX11_lump_65 (fun μ6 hO => ?_)
          refine r_aload_n hC 0 dX11_lump_68 rfl rfl ?_
          refine r_getI hC fl11_103 ob11 rfl dX11_lump_69 ?_
          refine r_iconst hC 1 dX11_lump_72 (by decide) ?_
          refine r_isub hC dX11_lump_73 ?_
          exact r_iret hC rfl dX11_lump_74 hO
        · have hO := hO.1 h5
          refine r_bipush hC (-3) dX11_lump_45 (by decide) ?_
          exact r_iret hC rfl dX11_lump_47 hO
      · refine r_topEq hr ?_
        obtain ⟨hO, hm⟩ := hO
        refine r_memEq hm ?_
        refine r_if_ne hC 36 dX11_lump_31 (by decide) (fun h => absurd (by decide) h) (fun _ => ?_)
        refine r_iconst hC (-1) dX11_lump_34 (by decide) ?_
        exact r_iret hC rfl dX11_lump_35 hO
set_option maxHeartbeats 4000000 in
set_option maxRecDepth 100000 in
theorem T11_isShelf {l : Launch} {G : mw_G} {p1 : Int32} {μ : mw_M} {QT : Prop} {QF : Prop}  (hO : P11_isShelf p1 QT QF) : mw_Mi l G kdM yX11_isShelf cX11_isShelf 1 (some .boolean) 1 25 [.int p1] μ (mw_bq (mw_pv μ QT) (mw_pv μ QF)) := by
  refine mw_enter [(0, .int p1)] RX11 (by decide) rfl (Nat.le_of_ble_eq_true rfl) rfl ?_
  intro p e s m args below meth c hC
  unfold P11_isShelf at hO
  refine r_iload_n hC 0 dX11_isShelf_0 rfl rfl ?_
  refine r_i2l hC dX11_isShelf_1 ?_
  refine r_lconst hC 0 dX11_isShelf_2 (by decide) ?_
  refine r_ldc2 hC kc11_399 dX11_isShelf_3 ?_
  refine r_callSi hC [.long (Int32.toInt64 p1), .long 0, .long 5] (T11_within  hO) yv11_within ml11_106 ⟨Nat.le_of_ble_eq_true rfl, Nat.le_of_ble_eq_true rfl⟩ rfl rfl (Nat.le_of_ble_eq_true rfl) dX11_isShelf_6 (fun r1 μ2 hO => ?_)
  rcases hO with ⟨hr, hO⟩ | ⟨hr, hO⟩
  · refine r_topEq hr ?_
    obtain ⟨hO, hm⟩ := hO
    refine r_memEq hm ?_
    exact r_zret hC rfl (by decide) dX11_isShelf_9 (Or.inl ⟨rfl, hO, rfl⟩)
  · refine r_topEq hr ?_
    obtain ⟨hO, hm⟩ := hO
    refine r_memEq hm ?_
    exact r_zret hC rfl (by decide) dX11_isShelf_9 (Or.inr ⟨rfl, hO, rfl⟩)
