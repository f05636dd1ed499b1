set_option maxHeartbeats 4000000 in
set_option maxRecDepth 100000 in
theorem T4_paceBy {l : Launch} {G : mw_G} {p1 : Int32} {p2 : Int32} {p3 : Int32} {p4 : Int32} {p5 : Int32} {p6 : Int32} {p7 : Int32} {μ : mw_M} {Q : Int32 → mw_M → Prop}  (hO : P4_paceBy p1 p2 p3 p4 p5 p6 p7 μ Q) : mw_Mi l G kdX yX4_paceBy cX4_paceBy 9 (some .int) 3 68 [.ref (mw_a G 15), .int p1, .int p2, .int p3, .int p4, .int p5, .int p6, .int p7] μ (Q) := by
  refine mw_enter [(0, .ref (mw_a G 15)), (1, .int p1), (2, .int p2), (3, .int p3), (4, .int p4), (5, .int p5), (6, .int p6), (7, .int p7)] RX4 (by decide) rfl (Nat.le_of_ble_eq_true rfl) rfl ?_
  intro p e s m args below meth c hC
  unfold P4_paceBy at hO
  refine r_aload_n hC 0 dX4_paceBy_0 rfl rfl ?_
  refine r_iconst hC 0 dX4_paceBy_1 (by decide) ?_
  refine r_iconst hC 0 dX4_paceBy_2 (by decide) ?_
  refine r_iload_n hC 2 dX4_paceBy_3 rfl rfl ?_
  refine r_iload_n hC 3 dX4_paceBy_4 rfl rfl ?_
  refine r_iconst hC 0 dX4_paceBy_5 (by decide) ?_
  refine r_iload hC 6 dX4_paceBy_6 rfl ?_
  refine r_iload hC 7 dX4_paceBy_8 rfl ?_
  refine r_callVv hC [.int 0, .int 0, .int p2, .int p3, .int 0, .int p6, .int p7] (T4_name  hO) yv4_name ml4_47 ob4 rfl ⟨Nat.le_of_ble_eq_true rfl, Nat.le_of_ble_eq_true rfl⟩ rfl rfl (Nat.le_of_ble_eq_true rfl) dX4_paceBy_10 (fun μ1 hO => ?_)
  refine r_aload_n hC 0 dX4_paceBy_13 rfl rfl ?_
  refine r_getR hC 19 fl4_20 ob4 rfl dX4_paceBy_14 ?_
  refine r_iconst hC 5 dX4_paceBy_17 (by decide) ?_
  refine r_iload hC 4 dX4_paceBy_18 rfl ?_
  refine r_iast hC sh4_2 (vpc (by decide) : vp_in 5 9) 5 (by decide) dX4_paceBy_20 ?_
  refine r_nmM (fun μ2 hμ2 => ?_)
  have hO := hO μ2 hμ2
  refine r_aload_n hC 0 dX4_paceBy_21 rfl rfl ?_
  refine r_getR hC 19 fl4_20 ob4 rfl dX4_paceBy_22 ?_
  refine r_bipush hC 6 dX4_paceBy_25 (by decide) ?_
  refine r_iload hC 5 dX4_paceBy_27 rfl ?_
  refine r_iast hC sh4_2 (vpc (by decide) : vp_in 6 9) 6 (by decide) dX4_paceBy_29 ?_
  refine r_nmM (fun μ3 hμ3 => ?_)
  have hO := hO μ3 hμ3
  refine r_aload_n hC 0 dX4_paceBy_30 rfl rfl ?_
  refine r_iload_n hC 1 dX4_paceBy_31 rfl rfl ?_
  refine r_callVi hC [.int p1] (T4_has  hO) yv4_has ml4_51 ob4 rfl ⟨Nat.le_of_ble_eq_true rfl, Nat.le_of_ble_eq_true rfl⟩ rfl rfl (Nat.le_of_ble_eq_true rfl) dX4_paceBy_32 (fun r4 μ5 hO => ?_)
  rcases hO with ⟨hr, hO⟩ | ⟨hr, hO⟩
  · refine r_topEq hr ?_
    obtain ⟨hO, hm⟩ := hO
    refine r_memEq hm ?_
    refine r_if_eq hC 54 dX4_paceBy_35 (by decide) (fun h => absurd h (by decide)) (fun _ => ?_)
    refine r_aload_n hC 0 dX4_paceBy_38 rfl rfl ?_
    refine r_getR hC 18 fl4_24 ob4 rfl dX4_paceBy_39 ?_
    refine r_iload_n hC 1 dX4_paceBy_42 rfl rfl ?_
    obtain ⟨g6, hO⟩ := hO
    refine r_aald hC sh4_1 (by decide) g6 p1.toNatClampNeg rfl (20 + 3 * p1.toNatClampNeg) rfl dX4_paceBy_43 ?_
    refine r_aload_n hC 0 dX4_paceBy_44 rfl rfl ?_
    refine r_getR hC 19 fl4_20 ob4 rfl dX4_paceBy_45 ?_
    refine r_callVi hC [.ref (mw_a G 19)] (T3_worth (el4_1 (vp_lt g6)) sh4_2 hO) yv3_worth ml4_55 (el4_1 (vp_lt g6)) rfl ⟨Nat.le_of_ble_eq_true rfl, Nat.le_of_ble_eq_true rfl⟩ rfl rfl (Nat.le_of_ble_eq_true rfl) dX4_paceBy_48 (fun r7 μ8 hO => ?_)
    refine r_goto hC 55 dX4_paceBy_51 (by decide) ?_
    refine r_istore hC [(8, .int r7), (0, .ref (mw_a G 15)), (1, .int p1), (2, .int p2), (3, .int p3), (4, .int p4), (5, .int p5), (6, .int p6), (7, .int p7)] dX4_paceBy_55 (by decide) rfl ?_
    refine r_iconst hC 0 dX4_paceBy_57 (by decide) ?_
    refine r_sipush hC 1200 dX4_paceBy_58 (by decide) ?_
    refine r_iload hC 0 dX4_paceBy_61 rfl ?_
    refine r_min hC mm4_61 (Nat.le_of_ble_eq_true rfl) (Nat.le_of_ble_eq_true rfl) dX4_paceBy_63 ?_
    refine r_max hC mm4_67 (Nat.le_of_ble_eq_true rfl) (Nat.le_of_ble_eq_true rfl) dX4_paceBy_66 ?_
    exact r_iret hC rfl dX4_paceBy_69 hO
  · refine r_topEq hr ?_
    obtain ⟨hO, hm⟩ := hO
    refine r_memEq hm ?_
    refine r_if_eq hC 54 dX4_paceBy_35 (by decide) (fun _ => ?_) (fun h => absurd (by decide) h)
    refine r_iconst hC 0 dX4_paceBy_54 (by decide) ?_
    refine r_istore hC [(8, .int 0), (0, .ref (mw_a G 15)), (1, .int p1), (2, .int p2), (3, .int p3), (4, .int p4), (5, .int p5), (6, .int p6), (7, .int p7)] dX4_paceBy_55 (by decide) rfl ?_
    refine r_iconst hC 0 dX4_paceBy_57 (by decide) ?_
    refine r_sipush hC 1200 dX4_paceBy_58 (by decide) ?_
    refine r_iload hC 0 dX4_paceBy_61 rfl ?_
    refine r_min hC mm4_61 (Nat.le_of_ble_eq_true rfl) (Nat.le_of_ble_eq_true rfl) dX4_paceBy_63 ?_
    refine r_max hC mm4_67 (Nat.le_of_ble_eq_true rfl) (Nat.le_of_ble_eq_true rfl) dX4_paceBy_66 ?_
    exact r_iret hC rfl dX4_paceBy_69 hO
set_option maxHeartbeats 4000000 in
set_option maxRecDepth 100000 in
theorem T4_drain {l : Launch} {G : mw_G} {d1 : Nat} {p2 : Int32} {p3 : Int32} {p4 : Int32} {p5 : Int32} {p6 : Int32} {μ : mw_M} {Q : mw_M → Prop} (hd1 : kdX[d1]? = some (.inl (2, dsX2 d1))) (hO : P4_drain d1 p2 p3 p4 p5 p6 μ Q) : mw_Mv l G kdX yX4_drain cX4_drain 10 none 3 68 [.ref (mw_a G 15), .ref (mw_a G d1), .int p2, .int p3, .int p4, .int p5, .int p6] μ (Q) := by
  refine mw_enter [(0, .ref (mw_a G 15)), (1, .ref (mw_a G d1)), (2, .int p2), (3, .int p3), (4, .int p4), (5, .int p5), (6, .int p6)] RX4 (by decide) rfl (Nat.le_of_ble_eq_true rfl) rfl ?_
  intro p e s m args below meth c hC
  unfold P4_drain at hO
  refine r_iconst hC 0 dX4_drain_0 (by decide) ?_
  refine r_istore hC [(7, .int 0), (0, .ref (mw_a G 15)), (1, .ref (mw_a G d1)), (2, .int p2), (3, .int p3), (4, .int p4), (5, .int p5), (6, .int p6)] dX4_drain_1 (by decide) rfl ?_
  have hLn3 : ∀   (n3 : Nat) (v1 : Int32) (μ2 : mw_M), L4_drain_3 d1 p2 p3 p4 p5 p6 Q n3 v1 μ2 → mw_W p l e (mw_rm 3 68) s m args below meth c G kdX 10 (MQ below (va_Qv (Q) (mw_B G kdX) (mw_A G kdX)) args s 0 0 (mw_A G kdX)) 3 [(7, .int v1), (0, .ref (mw_a G 15)), (1, .ref (mw_a G d1)), (2, .int p2), (3, .int p3), (4, .int p4), (5, .int p5), (6, .int p6)] [] μ2 := by
    intro   n3
    induction n3 with
    | zero => intro v1 μ2 hO; exact False.elim hO
    | succ n3 ihn3 =>
      intro v1 μ2 hO
      refine r_iload hC 0 dX4_drain_3 rfl ?_
      refine r_aload_n hC 2 dX4_drain_5 rfl rfl ?_
      refine r_getI hC fl4_70 hd1 rfl dX4_drain_6 ?_
      refine r_icmp_ge hC 108 dX4_drain_9 (by decide) (fun h4 => ?_) (fun h4 => ?_)
      · have hO := hO.1 h4
        exact r_vret hC rfl dX4_drain_108 hO
      · have hO := hO.2 h4
        refine r_aload_n hC 2 dX4_drain_12 rfl rfl ?_
        refine r_iload hC 0 dX4_drain_13 rfl ?_
        refine r_iconst hC 1 dX4_drain_15 (by decide) ?_
        refine r_callVi hC [.int v1, .int 1] (T2_told hd1 hO) yv2_told ml4_73 hd1 rfl ⟨Nat.le_of_ble_eq_true rfl, Nat.le_of_ble_eq_true rfl⟩ rfl rfl (Nat.le_of_ble_eq_true rfl) dX4_drain_16 (fun r5 μ6 hO => ?_)
        obtain ⟨hO, hm⟩ := hO
        refine r_memEq hm ?_
        refine r_istore hC [(8, .int r5), (7, .int v1), (0, .ref (mw_a G 15)), (1, .ref (mw_a G d1)), (2, .int p2), (3, .int p3), (4, .int p4), (5, .int p5), (6, .int p6)] dX4_drain_19 (by decide) rfl ?_
        refine r_iload hC 0 dX4_drain_21 rfl ?_
        refine r_iload_n hC 5 dX4_drain_23 rfl rfl ?_
        refine r_imul hC dX4_drain_24 ?_
        refine r_sipush hC 6000 dX4_drain_25 (by decide) ?_
        refine r_idiv hC dX4_drain_28 (by decide) ?_
        refine r_nmI (fun x7 hx7 => ?_)
        have hO := hO x7 hx7
        refine r_istore hC [(9, .int x7), (8, .int r5), (7, .int v1), (0, .ref (mw_a G 15)), (1, .ref (mw_a G d1)), (2, .int p2), (3, .int p3), (4, .int p4), (5, .int p5), (6, .int p6)] dX4_drain_29 (by decide) rfl ?_
        refine r_aload_n hC 3 dX4_drain_31 rfl rfl ?_
        refine r_aload_n hC 3 dX4_drain_32 rfl rfl ?_
        refine r_getI hC fl4_29 ob4 rfl dX4_drain_33 ?_
        refine r_callVi hC [.int (μ2.1 15 4)] (T4_has  hO) yv4_has ml4_51 ob4 rfl ⟨Nat.le_of_ble_eq_true rfl, Nat.le_of_ble_eq_true rfl⟩ rfl rfl (Nat.le_of_ble_eq_true rfl) dX4_drain_36 (fun r8 μ9 hO => ?_)
        rcases hO with ⟨hr, hO⟩ | ⟨hr, hO⟩
        · refine r_topEq hr ?_
          obtain ⟨hO, hm⟩ := hO
          refine r_memEq hm ?_
          refine r_if_eq hC 90 dX4_drain_39 (by decide) (fun h => absurd h (by decide)) (fun _ => ?_)
          refine r_aload_n hC 3 dX4_drain_42 rfl rfl ?_
          refine r_iload hC 1 dX4_drain_43 rfl ?_
          refine r_aload_n hC 4 dX4_drain_45 rfl rfl ?_
          refine r_iload hC 2 dX4_drain_46 rfl ?_
          refine r_iconst hC 3 dX4_drain_48 (by decide) ?_
          refine r_callVi hC [.int v1, .int 3] (T2_told hd1 hO) yv2_told ml4_73 hd1 rfl ⟨Nat.le_of_ble_eq_true rfl, Nat.le_of_ble_eq_true rfl⟩ rfl rfl (Nat.le_of_ble_eq_true rfl) dX4_drain_49 (fun r10 μ11 hO => ?_)
          obtain ⟨hO, hm⟩ := hO
          refine r_memEq hm ?_
          refine r_iload_n hC 6 dX4_drain_52 rfl rfl ?_
          refine r_iload hC 7 dX4_drain_53 rfl ?_
          refine r_iload_n hC 5 dX4_drain_55 rfl rfl ?_
          refine r_iload hC 8 dX4_drain_56 rfl ?_
          refine r_iload hC 9 dX4_drain_58 rfl ?_
          refine r_callVv hC [.int r5, .int r10, .int p3, .int p4, .int p2, .int p5, .int p6] (T4_name  hO) yv4_name ml4_47 ob4 rfl ⟨Nat.le_of_ble_eq_true rfl, Nat.le_of_ble_eq_true rfl⟩ rfl rfl (Nat.le_of_ble_eq_true rfl) dX4_drain_60 (fun μ12 hO => ?_)
          refine r_iconst hC 0 dX4_drain_63 (by decide) ?_
          refine r_iload hC 1 dX4_drain_64 rfl ?_
          refine r_aload_n hC 3 dX4_drain_66 rfl rfl ?_
          refine r_getR hC 18 fl4_24 ob4 rfl dX4_drain_67 ?_
          refine r_aload_n hC 3 dX4_drain_70 rfl rfl ?_
          refine r_getI hC fl4_29 ob4 rfl dX4_drain_71 ?_
          obtain ⟨g13, hO⟩ := hO
          refine r_aald hC sh4_1 (by decide) g13 ((μ12.1 15 4).toNatClampNeg) rfl (20 + 3 * ((μ12.1 15 4).toNatClampNeg)) rfl dX4_drain_74 ?_
          refine r_aload_n hC 3 dX4_drain_75 rfl rfl ?_
          refine r_getR hC 19 fl4_20 ob4 rfl dX4_drain_76 ?_
          refine r_callVi hC [.ref (mw_a G 19)] (T3_worth (el4_1 (vp_lt g13)) sh4_2 hO) yv3_worth ml4_55 (el4_1 (vp_lt g13)) rfl ⟨Nat.le_of_ble_eq_true rfl, Nat.le_of_ble_eq_true rfl⟩ rfl rfl (Nat.le_of_ble_eq_true rfl) dX4_drain_79 (fun r14 μ15 hO => ?_)
          refine r_min hC mm4_61 (Nat.le_of_ble_eq_true rfl) (Nat.le_of_ble_eq_true rfl) dX4_drain_82 ?_
          refine r_max hC mm4_67 (Nat.le_of_ble_eq_true rfl) (Nat.le_of_ble_eq_true rfl) dX4_drain_85 ?_
          refine r_nmI (fun x16 hx16 => ?_)
          have hO := hO x16 hx16
          refine r_istore hC [(9, .int x16), (8, .int r5), (7, .int v1), (0, .ref (mw_a G 15)), (1, .ref (mw_a G d1)), (2, .int p2), (3, .int p3), (4, .int p4), (5, .int p5), (6, .int p6)] dX4_drain_88 (by decide) rfl ?_
          refine r_aload_n hC 4 dX4_drain_90 rfl rfl ?_
          refine r_iload hC 2 dX4_drain_91 rfl ?_
          refine r_iconst hC 1 dX4_drain_93 (by decide) ?_
          refine r_iload hC 1 dX4_drain_94 rfl ?_
          refine r_iload hC 0 dX4_drain_96 rfl ?_
          refine r_isub hC dX4_drain_98 ?_
          refine r_callVv hC [.int v1, .int 1, .int (r5 - x16)] (T2_tell hd1 hO) yv2_tell ml4_76 hd1 rfl ⟨Nat.le_of_ble_eq_true rfl, Nat.le_of_ble_eq_true rfl⟩ rfl rfl (Nat.le_of_ble_eq_true rfl) dX4_drain_99 (fun μ17 hO => ?_)
          obtain ⟨x18, hx18⟩ : ∃ y : Int32, y = v1 + 1 := ⟨_, rfl⟩
          have hO := hO x18 hx18
          refine r_iinc hC x18 2 [(7, .int x18), (9, .int x16), (8, .int r5), (0, .ref (mw_a G 15)), (1, .ref (mw_a G d1)), (2, .int p2), (3, .int p3), (4, .int p4), (5, .int p5), (6, .int p6)] dX4_drain_102 rfl (by rw [hx18]; rfl) (by decide) rfl ?_
          refine r_goto hC 3 dX4_drain_105 (by decide) ?_
          refine r_lv hC [(7, .int x18), (0, .ref (mw_a G 15)), (1, .ref (mw_a G d1)), (2, .int p2), (3, .int p3), (4, .int p4), (5, .int p5), (6, .int p6)] [0, 3, 4, 5, 6, 7, 8, 9] rfl ?_
          exact ihn3 x18 μ17 hO
        · refine r_topEq hr ?_
          obtain ⟨hO, hm⟩ := hO
          refine r_memEq hm ?_
          refine r_if_eq hC 90 dX4_drain_39 (by decide) (fun _ => ?_) (fun h => absurd (by decide) h)
          refine r_aload_n hC 4 dX4_drain_90 rfl rfl ?_
          refine r_iload hC 2 dX4_drain_91 rfl ?_
          refine r_iconst hC 1 dX4_drain_93 (by decide) ?_
          refine r_iload hC 1 dX4_drain_94 rfl ?_
          refine r_iload hC 0 dX4_drain_96 rfl ?_
          refine r_isub hC dX4_drain_98 ?_
          refine r_callVv hC [.int v1, .int 1, .int (r5 - x7)] (T2_tell hd1 hO) yv2_tell ml4_76 hd1 rfl ⟨Nat.le_of_ble_eq_true rfl, Nat.le_of_ble_eq_true rfl⟩ rfl rfl (Nat.le_of_ble_eq_true rfl) dX4_drain_99 (fun μ19 hO => ?_)
          obtain ⟨x20, hx20⟩ : ∃ y : Int32, y = v1 + 1 := ⟨_, rfl⟩
          have hO := hO x20 hx20
          refine r_iinc hC x20 2 [(7, .int x20), (9, .int x7), (8, .int r5), (0, .ref (mw_a G 15)), (1, .ref (mw_a G d1)), (2, .int p2), (3, .int p3), (4, .int p4), (5, .int p5), (6, .int p6)] dX4_drain_102 rfl (by rw [hx20]; rfl) (by decide) rfl ?_
          refine r_goto hC 3 dX4_drain_105 (by decide) ?_
          refine r_lv hC [(7, .int x20), (0, .ref (mw_a G 15)), (1, .ref (mw_a G d1)), (2, .int p2), (3, .int p3), (4, .int p4), (5, .int p5), (6, .int p6)] [0, 3, 4, 5, 6, 7, 8, 9] rfl ?_
          exact ihn3 x20 μ19 hO
  obtain ⟨n3, hO⟩ := hO
  refine hLn3   n3 _ _ hO
set_option maxHeartbeats 4000000 in
set_option maxRecDepth 100000 in
theorem T5_isPace {l : Launch} {G : mw_G} {p1 : Int32} {μ : mw_M} {QT : Prop} {QF : Prop}  (hO : P5_isPace p1 QT QF) : mw_Mi l G kdX yX5_isPace cX5_isPace 1 (some .boolean) 0 0 [.int p1] μ (mw_bq (mw_pv μ QT) (mw_pv μ QF)) := by
  refine mw_enter [(0, .int p1)] RX5 (by decide) rfl (Nat.le_of_ble_eq_true rfl) rfl ?_
  intro p e s m args below meth c hC
  unfold P5_isPace at hO
  refine r_iload_n hC 0 dX5_isPace_0 rfl rfl ?_
  refine r_if_lt hC 15 dX5_isPace_1 (by decide) (fun h1 => ?_) (fun h1 => ?_)
  · have hO := hO.1 h1
    refine r_iconst hC 0 dX5_isPace_15 (by decide) ?_
    exact r_zret hC rfl (by decide) dX5_isPace_16 (Or.inr ⟨rfl, hO, rfl⟩)
  · have hO := hO.2 h1
    refine r_iload_n hC 0 dX5_isPace_4 rfl rfl ?_
    refine r_sipush hC 1200 dX5_isPace_5 (by decide) ?_
    refine r_icmp_gt hC 15 dX5_isPace_8 (by decide) (fun h2 => ?_) (fun h2 => ?_)
    · have hO := hO.1 h2
      refine r_iconst hC 0 dX5_isPace_15 (by decide) ?_
      exact r_zret hC rfl (by decide) dX5_isPace_16 (Or.inr ⟨rfl, hO, rfl⟩)
    · have hO := hO.2 h2
      refine r_iconst hC 1 dX5_isPace_11 (by decide) ?_
      refine r_goto hC 16 dX5_isPace_12 (by decide) ?_
      exact r_zret hC rfl (by decide) dX5_isPace_16 (Or.inl ⟨rfl, hO, rfl⟩)
set_option maxHeartbeats 4000000 in
set_option maxRecDepth 100000 in
theorem T5_isGoal {l : Launch} {G : mw_G} {p1 : Int32} {μ : mw_M} {QT : Prop} {QF : Prop}  (hO : P5_isGoal p1 QT QF) : mw_Mi l G kdX yX5_isGoal cX5_isGoal 1 (some .boolean) 0 0 [.int p1] μ (mw_bq (mw_pv μ QT) (mw_pv μ QF)) := by
  refine mw_enter [(0, .int p1)] RX5 (by decide) rfl (Nat.le_of_ble_eq_true rfl) rfl ?_
  intro p e s m args below meth c hC
  unfold P5_isGoal at hO
  refine r_iload_n hC 0 dX5_isGoal_0 rfl rfl ?_
  refine r_bipush hC 100 dX5_isGoal_1 (by decide) ?_
  refine r_icmp_lt hC 17 dX5_isGoal_3 (by decide) (fun h1 => ?_) (fun h1 => ?_)
  · have hO := hO.1 h1
    refine r_iconst hC 0 dX5_isGoal_17 (by decide) ?_
    exact r_zret hC rfl (by decide) dX5_isGoal_18 (Or.inr ⟨rfl, hO, rfl⟩)
  · have hO := hO.2 h1
    refine r_iload_n hC 0 dX5_isGoal_6 rfl rfl ?_
    refine r_sipush hC 1200 dX5_isGoal_7 (by decide) ?_
    refine r_icmp_gt hC 17 dX5_isGoal_10 (by decide) (fun h2 => ?_) (fun h2 => ?_)
    · have hO := hO.1 h2
      refine r_iconst hC 0 dX5_isGoal_17 (by decide) ?_
      exact r_zret hC rfl (by decide) dX5_isGoal_18 (Or.inr ⟨rfl, hO, rfl⟩)
    · have hO := hO.2 h2
      refine r_iconst hC 1 dX5_isGoal_13 (by decide) ?_
      refine r_goto hC 18 dX5_isGoal_14 (by decide) ?_
      exact r_zret hC rfl (by decide) dX5_isGoal_18 (Or.inl ⟨rfl, hO, rfl⟩)
set_option maxHeartbeats 4000000 in
set_option maxRecDepth 100000 in
theorem T5_isTold {l : Launch} {G : mw_G} {p1 : Int32} {p2 : Int32} {μ : mw_M} {QT : Prop} {QF : Prop}  (hO : P5_isTold p1 p2 QT QF) : mw_Mi l G kdX yX5_isTold cX5_isTold 2 (some .boolean) 0 0 [.int p1, .int p2] μ (mw_bq (mw_pv μ QT) (mw_pv μ QF)) := by
  refine mw_enter [(0, .int p1), (1, .int p2)] RX5 (by decide) rfl (Nat.le_of_ble_eq_true rfl) rfl ?_
  intro p e s m args below meth c hC
  unfold P5_isTold at hO
  refine r_iload_n hC 0 dX5_isTold_0 rfl rfl ?_
  by_cases h1 : p1 = 0
  · have hO := hO.1 h1
    refine r_tin hC 36 dX5_isTold_1 (by rw [h1]; decide) (by rw [h1]; decide) (by rw [h1] <;> rfl) (by decide) ?_
    refine r_iload_n hC 1 dX5_isTold_36 rfl rfl ?_
    refine r_bipush hC 100 dX5_isTold_37 (by decide) ?_
    refine r_icmp_lt hC 53 dX5_isTold_39 (by decide) (fun h2 => ?_) (fun h2 => ?_)
    · have hO := hO.1 h2
      refine r_iconst hC 0 dX5_isTold_53 (by decide) ?_
      exact r_zret hC rfl (by decide) dX5_isTold_54 (Or.inr ⟨rfl, hO, rfl⟩)
    · have hO := hO.2 h2
      refine r_iload_n hC 1 dX5_isTold_42 rfl rfl ?_
      refine r_sipush hC 900 dX5_isTold_43 (by decide) ?_
      refine r_icmp_gt hC 53 dX5_isTold_46 (by decide) (fun h3 => ?_) (fun h3 => ?_)
      · have hO := hO.1 h3
        refine r_iconst hC 0 dX5_isTold_53 (by decide) ?_
        exact r_zret hC rfl (by decide) dX5_isTold_54 (Or.inr ⟨rfl, hO, rfl⟩)
      · have hO := hO.2 h3
        refine r_iconst hC 1 dX5_isTold_49 (by decide) ?_
        refine r_goto hC 54 dX5_isTold_50 (by decide) ?_
        exact r_zret hC rfl (by decide) dX5_isTold_54 (Or.inl ⟨rfl, hO, rfl⟩)
  by_cases h4 : p1 = 1
  · have hO := hO.2.1 h4
    refine r_tin hC 55 dX5_isTold_1 (by rw [h4]; decide) (by rw [h4]; decide) (by rw [h4] <;> rfl) (by decide) ?_
    refine r_iload_n hC 1 dX5_isTold_55 rfl rfl ?_
    refine r_iconst hC 1 dX5_isTold_56 (by decide) ?_
    refine r_icmp_lt hC 71 dX5_isTold_57 (by decide) (fun h5 => ?_) (fun h5 => ?_)
    · have hO := hO.1 h5
      refine r_iconst hC 0 dX5_isTold_71 (by decide) ?_
      exact r_zret hC rfl (by decide) dX5_isTold_72 (Or.inr ⟨rfl, hO, rfl⟩)
    · have hO := hO.2 h5
      refine r_iload_n hC 1 dX5_isTold_60 rfl rfl ?_
      refine r_sipush hC 9999 dX5_isTold_61 (by decide) ?_
      refine r_icmp_gt hC 71 dX5_isTold_64 (by decide) (fun h6 => ?_) (fun h6 => ?_)
      · have hO := hO.1 h6
        refine r_iconst hC 0 dX5_isTold_71 (by decide) ?_
        exact r_zret hC rfl (by decide) dX5_isTold_72 (Or.inr ⟨rfl, hO, rfl⟩)
      · have hO := hO.2 h6
        refine r_iconst hC 1 dX5_isTold_67 (by decide) ?_
        refine r_goto hC 72 dX5_isTold_68 (by decide) ?_
        exact r_zret hC rfl (by decide) dX5_isTold_72 (Or.inl ⟨rfl, hO, rfl⟩)
  by_cases h7 : p1 = 2
  · have hO := hO.2.2.1 h7
    refine r_tin hC 73 dX5_isTold_1 (by rw [h7]; decide) (by rw [h7]; decide) (by rw [h7] <;> rfl) (by decide) ?_
    refine r_iload_n hC 1 dX5_isTold_73 rfl rfl ?_
    refine r_if_lt hC 87 dX5_isTold_74 (by decide) (fun h8 => ?_) (fun h8 => ?_)
    · have hO := hO.1 h8
      refine r_iconst hC 0 dX5_isTold_87 (by decide) ?_
      exact r_zret hC rfl (by decide) dX5_isTold_88 (Or.inr ⟨rfl, hO, rfl⟩)
    · have hO := hO.2 h8
      refine r_iload_n hC 1 dX5_isTold_77 rfl rfl ?_
      refine r_bipush hC 9 dX5_isTold_78 (by decide) ?_
      refine r_icmp_gt hC 87 dX5_isTold_80 (by decide) (fun h9 => ?_) (fun h9 => ?_)
      · have hO := hO.1 h9
        refine r_iconst hC 0 dX5_isTold_87 (by decide) ?_
        exact r_zret hC rfl (by decide) dX5_isTold_88 (Or.inr ⟨rfl, hO, rfl⟩)
      · have hO := hO.2 h9
        refine r_iconst hC 1 dX5_isTold_83 (by decide) ?_
        refine r_goto hC 88 dX5_isTold_84 (by decide) ?_
        exact r_zret hC rfl (by decide) dX5_isTold_88 (Or.inl ⟨rfl, hO, rfl⟩)
  by_cases h10 : p1 = 3
  · have hO := hO.2.2.2.1 h10
    refine r_tin hC 89 dX5_isTold_1 (by rw [h10]; decide) (by rw [h10]; decide) (by rw [h10] <;> rfl) (by decide) ?_
    refine r_iload_n hC 1 dX5_isTold_89 rfl rfl ?_
    refine r_if_lt hC 103 dX5_isTold_90 (by decide) (fun h11 => ?_) (fun h11 => ?_)
    · have hO := hO.1 h11
      refine r_iconst hC 0 dX5_isTold_103 (by decide) ?_
      exact r_zret hC rfl (by decide) dX5_isTold_104 (Or.inr ⟨rfl, hO, rfl⟩)
    · have hO := hO.2 h11
      refine r_iload_n hC 1 dX5_isTold_93 rfl rfl ?_
      refine r_bipush hC 50 dX5_isTold_94 (by decide) ?_
      refine r_icmp_gt hC 103 dX5_isTold_96 (by decide) (fun h12 => ?_) (fun h12 => ?_)
      · have hO := hO.1 h12
        refine r_iconst hC 0 dX5_isTold_103 (by decide) ?_
        exact r_zret hC rfl (by decide) dX5_isTold_104 (Or.inr ⟨rfl, hO, rfl⟩)
      · have hO := hO.2 h12
        refine r_iconst hC 1 dX5_isTold_99 (by decide) ?_
        refine r_goto hC 104 dX5_isTold_100 (by decide) ?_
        exact r_zret hC rfl (by decide) dX5_isTold_104 (Or.inl ⟨rfl, hO, rfl⟩)
  by_cases h13 : p1 = 4
  · have hO := hO.2.2.2.2.1 h13
    refine r_tin hC 105 dX5_isTold_1 (by rw [h13]; decide) (by rw [h13]; decide) (by rw [h13] <;> rfl) (by decide) ?_
    refine r_iload_n hC 1 dX5_isTold_105 rfl rfl ?_
    refine r_iconst hC 1 dX5_isTold_106 (by decide) ?_
    refine r_icmp_lt hC 121 dX5_isTold_107 (by decide) (fun h14 => ?_) (fun h14 => ?_)
    · have hO := hO.1 h14
      refine r_iconst hC 0 dX5_isTold_121 (by decide) ?_
      exact r_zret hC rfl (by decide) dX5_isTold_122 (Or.inr ⟨rfl, hO, rfl⟩)
    · have hO := hO.2 h14
      refine r_iload_n hC 1 dX5_isTold_110 rfl rfl ?_
      refine r_sipush hC 9999 dX5_isTold_111 (by decide) ?_
      refine r_icmp_gt hC 121 dX5_isTold_114 (by decide) (fun h15 => ?_) (fun h15 => ?_)
      · have hO := hO.1 h15
        refine r_iconst hC 0 dX5_isTold_121 (by decide) ?_
        exact r_zret hC rfl (by decide) dX5_isTold_122 (Or.inr ⟨rfl, hO, rfl⟩)
      · have hO := hO.2 h15
        refine r_iconst hC 1 dX5_isTold_117 (by decide) ?_
        refine r_goto hC 122 dX5_isTold_118 (by decide) ?_
        exact r_zret hC rfl (by decide) dX5_isTold_122 (Or.inl ⟨rfl, hO, rfl⟩)
  have hO := hO.2.2.2.2.2 h1 h4 h7 h10 h13
  refine r_tdef hC 123 dX5_isTold_1 (by decide) rfl (fun k hk => match k, hk with | 0, _ => Or.inr (mw_ne h1 rfl) | 1, _ => Or.inr (mw_ne h4 rfl) | 2, _ => Or.inr (mw_ne h7 rfl) | 3, _ => Or.inr (mw_ne h10 rfl) | 4, _ => Or.inr (mw_ne h13 rfl) | k + 5, h => absurd h (by show ¬ k + 5 < 5; omega)) ?_
  refine r_iconst hC 0 dX5_isTold_123 (by decide) ?_
  exact r_zret hC rfl (by decide) dX5_isTold_124 (Or.inr ⟨rfl, hO, rfl⟩)
set_option maxHeartbeats 4000000 in
set_option maxRecDepth 100000 in
theorem T5_told {l : Launch} {G : mw_G} {p1 : Int32} {μ : mw_M} {Q : Int32 → Prop}  (hO : P5_told p1 μ Q) : mw_Mi l G kdX yX5_told cX5_told 2 (some .int) 0 0 [.ref (mw_a G 11), .int p1] μ (mw_pq μ Q) := by
  refine mw_enter [(0, .ref (mw_a G 11)), (1, .int p1)] RX5 (by decide) rfl (Nat.le_of_ble_eq_true rfl) rfl ?_
  intro p e s m args below meth c hC
  unfold P5_told at hO
  refine r_iload_n hC 1 dX5_told_0 rfl rfl ?_
  by_cases h1 : p1 = 0
  · have hO := hO.1 h1
    refine r_tin hC 36 dX5_told_1 (by rw [h1]; decide) (by rw [h1]; decide) (by rw [h1] <;> rfl) (by decide) ?_
    refine r_aload_n hC 0 dX5_told_36 rfl rfl ?_
    refine r_getI hC fl5_9 ob5 rfl dX5_told_37 ?_
    exact r_iret hC rfl dX5_told_40 ⟨hO, rfl⟩
  by_cases h2 : p1 = 1
  · have hO := hO.2.1 h2
    refine r_tin hC 41 dX5_told_1 (by rw [h2]; decide) (by rw [h2]; decide) (by rw [h2] <;> rfl) (by decide) ?_
    refine r_aload_n hC 0 dX5_told_41 rfl rfl ?_
    refine r_getI hC fl5_15 ob5 rfl dX5_told_42 ?_
    exact r_iret hC rfl dX5_told_45 ⟨hO, rfl⟩
  by_cases h3 : p1 = 2
  · have hO := hO.2.2.1 h3
    refine r_tin hC 46 dX5_told_1 (by rw [h3]; decide) (by rw [h3]; decide) (by rw [h3] <;> rfl) (by decide) ?_
    refine r_aload_n hC 0 dX5_told_46 rfl rfl ?_
    refine r_getI hC fl5_35 ob5 rfl dX5_told_47 ?_
    exact r_iret hC rfl dX5_told_50 ⟨hO, rfl⟩
  by_cases h4 : p1 = 3
  · have hO := hO.2.2.2.1 h4
    refine r_tin hC 51 dX5_told_1 (by rw [h4]; decide) (by rw [h4]; decide) (by rw [h4] <;> rfl) (by decide) ?_
    refine r_aload_n hC 0 dX5_told_51 rfl rfl ?_
    refine r_getI hC fl5_38 ob5 rfl dX5_told_52 ?_
    exact r_iret hC rfl dX5_told_55 ⟨hO, rfl⟩
  by_cases h5 : p1 = 4
  · have hO := hO.2.2.2.2.1 h5
    refine r_tin hC 56 dX5_told_1 (by rw [h5]; decide) (by rw [h5]; decide) (by rw [h5] <;> rfl) (by decide) ?_
    refine r_aload_n hC 0 dX5_told_56 rfl rfl ?_
    refine r_getI hC fl5_18 ob5 rfl dX5_told_57 ?_
    exact r_iret hC rfl dX5_told_60 ⟨hO, rfl⟩
  have hO := hO.2.2.2.2.2 h1 h2 h3 h4 h5
  refine r_tdef hC 61 dX5_told_1 (by decide) rfl (fun k hk => match k, hk with | 0, _ => Or.inr (mw_ne h1 rfl) | 1, _ => Or.inr (mw_ne h2 rfl) | 2, _ => Or.inr (mw_ne h3 rfl) | 3, _ => Or.inr (mw_ne h4 rfl) | 4, _ => Or.inr (mw_ne h5 rfl) | k + 5, h => absurd h (by show ¬ k + 5 < 5; omega)) ?_
  refine r_iconst hC (-1) dX5_told_61 (by decide) ?_
  exact r_iret hC rfl dX5_told_62 ⟨hO, rfl⟩
set_option maxHeartbeats 4000000 in
set_option maxRecDepth 100000 in
theorem T5_tell {l : Launch} {G : mw_G} {p1 : Int32} {p2 : Int32} {μ : mw_M} {Q : Int32 → mw_M → Prop}  (hO : P5_tell p1 p2 μ Q) : mw_Mi l G kdX yX5_tell cX5_tell 4 (some .int) 1 21 [.ref (mw_a G 11), .int p1, .int p2] μ (Q) := by
  refine mw_enter [(0, .ref (mw_a G 11)), (1, .int p1), (2, .int p2)] RX5 (by decide) rfl (Nat.le_of_ble_eq_true rfl) rfl ?_
  intro p e s m args below meth c hC
  unfold P5_tell at hO
  refine r_aload_n hC 0 dX5_tell_0 rfl rfl ?_
  refine r_iload_n hC 1 dX5_tell_1 rfl rfl ?_
  refine r_callVi hC [.int p1] (T5_told  hO) yv5_told ml5_31 ob5 rfl ⟨Nat.le_of_ble_eq_true rfl, Nat.le_of_ble_eq_true rfl⟩ rfl rfl (Nat.le_of_ble_eq_true rfl) dX5_tell_2 (fun r1 μ2 hO => ?_)
  obtain ⟨hO, hm⟩ := hO
  refine r_memEq hm ?_
  refine r_istore_n hC [(3, .int r1), (0, .ref (mw_a G 11)), (1, .int p1), (2, .int p2)] dX5_tell_5 rfl (by decide) rfl ?_
  refine r_iload_n hC 2 dX5_tell_6 rfl rfl ?_
  refine r_if_ne hC 15 dX5_tell_7 (by decide) (fun h3 => ?_) (fun h3 => ?_)
  · have hO := hO.2 h3
    refine r_iload_n hC 2 dX5_tell_15 rfl rfl ?_
    refine r_iconst hC 1 dX5_tell_16 (by decide) ?_
    refine r_icmp_ne hC 25 dX5_tell_17 (by decide) (fun h4 => ?_) (fun h4 => ?_)
    · have hO := hO.2 h4
      refine r_iload_n hC 2 dX5_tell_25 rfl rfl ?_
      refine r_iconst hC 2 dX5_tell_26 (by decide) ?_
      refine r_icmp_ne hC 35 dX5_tell_27 (by decide) (fun h5 => ?_) (fun h5 => ?_)
      · have hO := hO.2 h5
        refine r_iload_n hC 2 dX5_tell_35 rfl rfl ?_
        refine r_iconst hC 3 dX5_tell_36 (by decide) ?_
        refine r_icmp_ne hC 45 dX5_tell_37 (by decide) (fun h6 => ?_) (fun h6 => ?_)
        · have hO := hO.2 h6
          refine r_iload_n hC 2 dX5_tell_45 rfl rfl ?_
          refine r_iconst hC 4 dX5_tell_46 (by decide) ?_
          refine r_icmp_ne hC 55 dX5_tell_47 (by decide) (fun h7 => ?_) (fun h7 => ?_)
          · have hO := hO.2 h7
            refine r_iload_n hC 0 dX5_tell_55 rfl rfl ?_
            exact r_iret hC rfl dX5_tell_56 hO
          · have hO := hO.1 h7
            refine r_aload_n hC 1 dX5_tell_50 rfl rfl ?_
            refine r_iload_n hC 3 dX5_tell_51 rfl rfl ?_
            refine r_putI hC fl5_18 ob5 rfl rfl rfl dX5_tell_52 ?_
            refine r_nmM (fun μ8 hμ8 => ?_)
            have hO := hO μ8 hμ8
            refine r_iload_n hC 0 dX5_tell_55 rfl rfl ?_
            exact r_iret hC rfl dX5_tell_56 hO
        · have hO := hO.1 h6
          refine r_aload_n hC 1 dX5_tell_40 rfl rfl ?_
          refine r_iload_n hC 3 dX5_tell_41 rfl rfl ?_
          refine r_putI hC fl5_38 ob5 rfl rfl rfl dX5_tell_42 ?_
          refine r_nmM (fun μ9 hμ9 => ?_)
          have hO := hO μ9 hμ9
          refine r_iload_n hC 2 dX5_tell_45 rfl rfl ?_
          refine r_iconst hC 4 dX5_tell_46 (by decide) ?_
          refine r_icmp_ne hC 55 dX5_tell_47 (by decide) (fun h10 => ?_) (fun h10 => ?_)
          · have hO := hO.2 h10
            refine r_iload_n hC 0 dX5_tell_55 rfl rfl ?_
            exact r_iret hC rfl dX5_tell_56 hO
          · have hO := hO.1 h10
            refine r_aload_n hC 1 dX5_tell_50 rfl rfl ?_
            refine r_iload_n hC 3 dX5_tell_51 rfl rfl ?_
            refine r_putI hC fl5_18 ob5 rfl rfl rfl dX5_tell_52 ?_
            refine r_nmM (fun μ11 hμ11 => ?_)
            have hO := hO μ11 hμ11
            refine r_iload_n hC 0 dX5_tell_55 rfl rfl ?_
            exact r_iret hC rfl dX5_tell_56 hO
      · have hO := hO.1 h5
        refine r_aload_n hC 1 dX5_tell_30 rfl rfl ?_
        refine r_iload_n hC 3 dX5_tell_31 rfl rfl ?_
        refine r_putI hC fl5_35 ob5 rfl rfl rfl dX5_tell_32 ?_
        refine r_nmM (fun μ12 hμ12 => ?_)
        have hO := hO μ12 hμ12
        refine r_iload_n hC 2 dX5_tell_35 rfl rfl ?_
        refine r_iconst hC 3 dX5_tell_36 (by decide) ?_
        refine r_icmp_ne hC 45 dX5_tell_37 (by decide) (fun h13 => ?_) (fun h13 => ?_)
        · have hO := hO.2 h13
          refine r_iload_n hC 2 dX5_tell_45 rfl rfl ?_
          refine r_iconst hC 4 dX5_tell_46 (by decide) ?_
          refine r_icmp_ne hC 55 dX5_tell_47 (by decide) (fun h14 => ?_) (fun h14 => ?_)
          · have hO := hO.2 h14
            refine r_iload_n hC 0 dX5_tell_55 rfl rfl ?_
            exact r_iret hC rfl dX5_tell_56 hO
          · have hO := hO.1 h14
            refine r_aload_n hC 1 dX5_tell_50 rfl rfl ?_
            refine r_iload_n hC 3 dX5_tell_51 rfl rfl ?_
            refine r_putI hC fl5_18 ob5 rfl rfl rfl dX5_tell_52 ?_
            refine r_nmM (fun μ15 hμ15 => ?_)
            have hO := hO μ15 hμ15
            refine r_iload_n hC 0 dX5_tell_55 rfl rfl ?_
            exact r_iret hC rfl dX5_tell_56 hO
        · have hO := hO.1 h13
          refine r_aload_n hC 1 dX5_tell_40 rfl rfl ?_
          refine r_iload_n hC 3 dX5_tell_41 rfl rfl ?_
          refine r_putI hC fl5_38 ob5 rfl rfl rfl dX5_tell_42 ?_
          refine r_nmM (fun μ16 hμ16 => ?_)
          have hO := hO μ16 hμ16
          refine r_iload_n hC 2 dX5_tell_45 rfl rfl ?_
          refine r_iconst hC 4 dX5_tell_46 (by decide) ?_
          refine r_icmp_ne hC 55 dX5_tell_47 (by decide) (fun h17 => ?_) (fun h17 => ?_)
          · have hO := hO.2 h17
            refine r_iload_n hC 0 dX5_tell_55 rfl rfl ?_
            exact r_iret hC rfl dX5_tell_56 hO
          · have hO := hO.1 h17
            refine r_aload_n hC 1 dX5_tell_50 rfl rfl ?_
            refine r_iload_n hC 3 dX5_tell_51 rfl rfl ?_
            refine r_putI hC fl5_18 ob5 rfl rfl rfl dX5_tell_52 ?_
            refine r_nmM (fun μ18 hμ18 => ?_)
            have hO := hO μ18 hμ18
            refine r_iload_n hC 0 dX5_tell_55 rfl rfl ?_
            exact r_iret hC rfl dX5_tell_56 hO
    · have hO := hO.1 h4
      refine r_aload_n hC 1 dX5_tell_20 rfl rfl ?_
      refine r_iload_n hC 3 dX5_tell_21 rfl rfl ?_
      refine r_putI hC fl5_15 ob5 rfl rfl rfl dX5_tell_22 ?_
      refine r_nmM (fun μ19 hμ19 => ?_)
      have hO := hO μ19 hμ19
      refine r_iload_n hC 2 dX5_tell_25 rfl rfl ?_
      refine r_iconst hC 2 dX5_tell_26 (by decide) ?_
      refine r_icmp_ne hC 35 dX5_tell_27 (by decide) (fun h20 => ?_) (fun h20 => ?_)
      · have hO := hO.2 h20
        refine r_iload_n hC 2 dX5_tell_35 rfl rfl ?_
        refine r_iconst hC 3 dX5_tell_36 (by decide) ?_
        refine r_icmp_ne hC 45 dX5_tell_37 (by decide) (fun h21 => ?_) (fun h21 => ?_)
        · have hO := hO.2 h21
          refine r_iload_n hC 2 dX5_tell_45 rfl rfl ?_
          refine r_iconst hC 4 dX5_tell_46 (by decide) ?_
          refine r_icmp_ne hC 55 dX5_tell_47 (by decide) (fun h22 => ?_) (fun h22 => ?_)
          · have hO := hO.2 h22
            refine r_iload_n hC 0 dX5_tell_55 rfl rfl ?_
            exact r_iret hC rfl dX5_tell_56 hO
          · have hO := hO.1 h22
            refine r_aload_n hC 1 dX5_tell_50 rfl rfl ?_
            refine r_iload_n hC 3 dX5_tell_51 rfl rfl ?_
            refine r_putI hC fl5_18 ob5 rfl rfl rfl dX5_tell_52 ?_
            refine r_nmM (fun μ23 hμ23 => ?_)
            have hO := hO μ23 hμ23
            refine r_iload_n hC 0 dX5_tell_55 rfl rfl ?_
            exact r_iret hC rfl dX5_tell_56 hO
        · have hO := hO.1 h21
          refine r_aload_n hC 1 dX5_tell_40 rfl rfl ?_
          refine r_iload_n hC 3 dX5_tell_41 rfl rfl ?_
          refine r_putI hC fl5_38 ob5 rfl rfl rfl dX5_tell_42 ?_
          refine r_nmM (fun μ24 hμ24 => ?_)
          have hO := hO μ24 hμ24
          refine r_iload_n hC 2 dX5_tell_45 rfl rfl ?_
          refine r_iconst hC 4 dX5_tell_46 (by decide) ?_
          refine r_icmp_ne hC 55 dX5_tell_47 (by decide) (fun h25 => ?_) (fun h25 => ?_)
          · have hO := hO.2 h25
            refine r_iload_n hC 0 dX5_tell_55 rfl rfl ?_
            exact r_iret hC rfl dX5_tell_56 hO
          · have hO := hO.1 h25
            refine r_aload_n hC 1 dX5_tell_50 rfl rfl ?_
            refine r_iload_n hC 3 dX5_tell_51 rfl rfl ?_
            refine r_putI hC fl5_18 ob5 rfl rfl rfl dX5_tell_52 ?_
            refine r_nmM (fun μ26 hμ26 => ?_)
            have hO := hO μ26 hμ26
            refine r_iload_n hC 0 dX5_tell_55 rfl rfl ?_
            exact r_iret hC rfl dX5_tell_56 hO
      · have hO := hO.1 h20
        refine r_aload_n hC 1 dX5_tell_30 rfl rfl ?_
        refine r_iload_n hC 3 dX5_tell_31 rfl rfl ?_
        refine r_putI hC fl5_35 ob5 rfl rfl rfl dX5_tell_32 ?_
        refine r_nmM (fun μ27 hμ27 => ?_)
        have hO := hO μ27 hμ27
        refine r_iload_n hC 2 dX5_tell_35 rfl rfl ?_
        refine r_iconst hC 3 dX5_tell_36 (by decide) ?_
        refine r_icmp_ne hC 45 dX5_tell_37 (by decide) (fun h28 => ?_) (fun h28 => ?_)
        · have hO := hO.2 h28
          refine r_iload_n hC 2 dX5_tell_45 rfl rfl ?_
          refine r_iconst hC 4 dX5_tell_46 (by decide) ?_
          refine r_icmp_ne hC 55 dX5_tell_47 (by decide) (fun h29 => ?_) (fun h29 => ?_)
          · have hO := hO.2 h29
            refine r_iload_n hC 0 dX5_tell_55 rfl rfl ?_
            exact r_iret hC rfl dX5_tell_56 hO
          · have hO := hO.1 h29
            refine r_aload_n hC 1 dX5_tell_50 rfl rfl ?_
            refine r_iload_n hC 3 dX5_tell_51 rfl rfl ?_
            refine r_putI hC fl5_18 ob5 rfl rfl rfl dX5_tell_52 ?_
            refine r_nmM (fun μ30 hμ30 => ?_)
            have hO := hO μ30 hμ30
            refine r_iload_n hC 0 dX5_tell_55 rfl rfl ?_
            exact r_iret hC rfl dX5_tell_56 hO
        · have hO := hO.1 h28
          refine r_aload_n hC 1 dX5_tell_40 rfl rfl ?_
          refine r_iload_n hC 3 dX5_tell_41 rfl rfl ?_
          refine r_putI hC fl5_38 ob5 rfl rfl rfl dX5_tell_42 ?_
          refine r_nmM (fun μ31 hμ31 => ?_)
          have hO := hO μ31 hμ31
          refine r_iload_n hC 2 dX5_tell_45 rfl rfl ?_
          refine r_iconst hC 4 dX5_tell_46 (by decide) ?_
          refine r_icmp_ne hC 55 dX5_tell_47 (by decide) (fun h32 => ?_) (fun h32 => ?_)
          · have hO := hO.2 h32
            refine r_iload_n hC 0 dX5_tell_55 rfl rfl ?_
            exact r_iret hC rfl dX5_tell_56 hO
          · have hO := hO.1 h32
            refine r_aload_n hC 1 dX5_tell_50 rfl rfl ?_
            refine r_iload_n hC 3 dX5_tell_51 rfl rfl ?_
            refine r_putI hC fl5_18 ob5 rfl rfl rfl dX5_tell_52 ?_
            refine r_nmM (fun μ33 hμ33 => ?_)
            have hO := hO μ33 hμ33
            refine r_iload_n hC 0 dX5_tell_55 rfl rfl ?_
            exact r_iret hC rfl dX5_tell_56 hO
  · have hO := hO.1 h3
    refine r_aload_n hC 1 dX5_tell_10 rfl rfl ?_
    refine r_iload_n hC 3 dX5_tell_11 rfl rfl ?_
    refine r_putI hC fl5_9 ob5 rfl rfl rfl dX5_tell_12 ?_
    refine r_nmM (fun μ34 hμ34 => ?_)
    have hO := hO μ34 hμ34
    refine r_iload_n hC 2 dX5_tell_15 rfl rfl ?_
    refine r_iconst hC 1 dX5_tell_16 (by decide) ?_
    refine r_icmp_ne hC 25 dX5_tell_17 (by decide) (fun h35 => ?_) (fun h35 => ?_)
    · have hO := hO.2 h35
      refine r_iload_n hC 2 dX5_tell_25 rfl rfl ?_
      refine r_iconst hC 2 dX5_tell_26 (by decide) ?_
      refine r_icmp_ne hC 35 dX5_tell_27 (by decide) (fun h36 => ?_) (fun h36 => ?_)
      · have hO := hO.2 h36
        refine r_iload_n hC 2 dX5_tell_35 rfl rfl ?_
        refine r_iconst hC 3 dX5_tell_36 (by decide) ?_
        refine r_icmp_ne hC 45 dX5_tell_37 (by decide) (fun h37 => ?_) (fun h37 => ?_)
        · have hO := hO.2 h37
          refine r_iload_n hC 2 dX5_tell_45 rfl rfl ?_
          refine r_iconst hC 4 dX5_tell_46 (by decide) ?_
          refine r_icmp_ne hC 55 dX5_tell_47 (by decide) (fun h38 => ?_) (fun h38 => ?_)
          · have hO := hO.2 h38
            refine r_iload_n hC 0 dX5_tell_55 rfl rfl ?_
            exact r_iret hC rfl dX5_tell_56 hO
          · have hO := hO.1 h38
            refine r_aload_n hC 1 dX5_tell_50 rfl rfl ?_
            refine r_iload_n hC 3 dX5_tell_51 rfl rfl ?_
            refine r_putI hC fl5_18 ob5 rfl rfl rfl dX5_tell_52 ?_
            refine r_nmM (fun μ39 hμ39 => ?_)
            have hO := hO μ39 hμ39
            refine r_iload_n hC 0 dX5_tell_55 rfl rfl ?_
            exact r_iret hC rfl dX5_tell_56 hO
        · have hO := hO.1 h37
          refine r_aload_n hC 1 dX5_tell_40 rfl rfl ?_
          refine r_iload_n hC 3 dX5_tell_41 rfl rfl ?_
          refine r_putI hC fl5_38 ob5 rfl rfl rfl dX5_tell_42 ?_
          refine r_nmM (fun μ40 hμ40 => ?_)
          have hO := hO μ40 hμ40
          refine r_iload_n hC 2 dX5_tell_45 rfl rfl ?_
          refine r_iconst hC 4 dX5_tell_46 (by decide) ?_
          refine r_icmp_ne hC 55 dX5_tell_47 (by decide) (fun h41 => ?_) (fun h41 => ?_)
          · have hO := hO.2 h41
            refine r_iload_n hC 0 dX5_tell_55 rfl rfl ?_
            exact r_iret hC rfl dX5_tell_56 hO
          · have hO := hO.1 h41
            refine r_aload_n hC 1 dX5_tell_50 rfl rfl ?_
            refine r_iload_n hC 3 dX5_tell_51 rfl rfl ?_
            refine r_putI hC fl5_18 ob5 rfl rfl rfl dX5_tell_52 ?_
            refine r_nmM (fun μ42 hμ42 => ?_)
            have hO := hO μ42 hμ42
            refine r_iload_n hC 0 dX5_tell_55 rfl rfl ?_
            exact r_iret hC rfl dX5_tell_56 hO
      · have hO := hO.1 h36
        refine r_aload_n hC 1 dX5_tell_30 rfl rfl ?_
        refine r_iload_n hC 3 dX5_tell_31 rfl rfl ?_
        refine r_putI hC fl5_35 ob5 rfl rfl rfl dX5_tell_32 ?_
        refine r_nmM (fun μ43 hμ43 => ?_)
        have hO := hO μ43 hμ43
        refine r_iload_n hC 2 dX5_tell_35 rfl rfl ?_
        refine r_iconst hC 3 dX5_tell_36 (by decide) ?_
        refine r_icmp_ne hC 45 dX5_tell_37 (by decide) (fun h44 => ?_) (fun h44 => ?_)
        · have hO := hO.2 h44
          refine r_iload_n hC 2 dX5_tell_45 rfl rfl ?_
          refine r_iconst hC 4 dX5_tell_46 (by decide) ?_
          refine r_icmp_ne hC 55 dX5_tell_47 (by decide) (fun h45 => ?_) (fun h45 => ?_)
          · have hO := hO.2 h45
            refine r_iload_n hC 0 dX5_tell_55 rfl rfl ?_
            exact r_iret hC rfl dX5_tell_56 hO
          · have hO := hO.1 h45
            refine r_aload_n hC 1 dX5_tell_50 rfl rfl ?_
            refine r_iload_n hC 3 dX5_tell_51 rfl rfl ?_
            refine r_putI hC fl5_18 ob5 rfl rfl rfl dX5_tell_52 ?_
            refine r_nmM (fun μ46 hμ46 => ?_)
            have hO := hO μ46 hμ46
            refine r_iload_n hC 0 dX5_tell_55 rfl rfl ?_
            exact r_iret hC rfl dX5_tell_56 hO
        · have hO := hO.1 h44
          refine r_aload_n hC 1 dX5_tell_40 rfl rfl ?_
          refine r_iload_n hC 3 dX5_tell_41 rfl rfl ?_
          refine r_putI hC fl5_38 ob5 rfl rfl rfl dX5_tell_42 ?_
          refine r_nmM (fun μ47 hμ47 => ?_)
          have hO := hO μ47 hμ47
          refine r_iload_n hC 2 dX5_tell_45 rfl rfl ?_
          refine r_iconst hC 4 dX5_tell_46 (by decide) ?_
          refine r_icmp_ne hC 55 dX5_tell_47 (by decide) (fun h48 => ?_) (fun h48 => ?_)
          · have hO := hO.2 h48
            refine r_iload_n hC 0 dX5_tell_55 rfl rfl ?_
            exact r_iret hC rfl dX5_tell_56 hO
          · have hO := hO.1 h48
            refine r_aload_n hC 1 dX5_tell_50 rfl rfl ?_
            refine r_iload_n hC 3 dX5_tell_51 rfl rfl ?_
            refine r_putI hC fl5_18 ob5 rfl rfl rfl dX5_tell_52 ?_
            refine r_nmM (fun μ49 hμ49 => ?_)
            have hO := hO μ49 hμ49
            refine r_iload_n hC 0 dX5_tell_55 rfl rfl ?_
            exact r_iret hC rfl dX5_tell_56 hO
    · have hO := hO.1 h35
      refine r_aload_n hC 1 dX5_tell_20 rfl rfl ?_
      refine r_iload_n hC 3 dX5_tell_21 rfl rfl ?_
      refine r_putI hC fl5_15 ob5 rfl rfl rfl dX5_tell_22 ?_
      refine r_nmM (fun μ50 hμ50 => ?_)
      have hO := hO μ50 hμ50
      refine r_iload_n hC 2 dX5_tell_25 rfl rfl ?_
      refine r_iconst hC 2 dX5_tell_26 (by decide) ?_
      refine r_icmp_ne hC 35 dX5_tell_27 (by decide) (fun h51 => ?_) (fun h51 => ?_)
      · have hO := hO.2 h51
        refine r_iload_n hC 2 dX5_tell_35 rfl rfl ?_
        refine r_iconst hC 3 dX5_tell_36 (by decide) ?_
        refine r_icmp_ne hC 45 dX5_tell_37 (by decide) (fun h52 => ?_) (fun h52 => ?_)
        · have hO := hO.2 h52
          refine r_iload_n hC 2 dX5_tell_45 rfl rfl ?_
          refine r_iconst hC 4 dX5_tell_46 (by decide) ?_
          refine r_icmp_ne hC 55 dX5_tell_47 (by decide) (fun h53 => ?_) (fun h53 => ?_)
          · have hO := hO.2 h53
            refine r_iload_n hC 0 dX5_tell_55 rfl rfl ?_
            exact r_iret hC rfl dX5_tell_56 hO
          · have hO := hO.1 h53
            refine r_aload_n hC 1 dX5_tell_50 rfl rfl ?_
            refine r_iload_n hC 3 dX5_tell_51 rfl rfl ?_
            refine r_putI hC fl5_18 ob5 rfl rfl rfl dX5_tell_52 ?_
            refine r_nmM (fun μ54 hμ54 => ?_)
            have hO := hO μ54 hμ54
            refine r_iload_n hC 0 dX5_tell_55 rfl rfl ?_
            exact r_iret hC rfl dX5_tell_56 hO
        · have hO := hO.1 h52
          refine r_aload_n hC 1 dX5_tell_40 rfl rfl ?_
          refine r_iload_n hC 3 dX5_tell_41 rfl rfl ?_
          refine r_putI hC fl5_38 ob5 rfl rfl rfl dX5_tell_42 ?_
          refine r_nmM (fun μ55 hμ55 => ?_)
          have hO := hO μ55 hμ55
          refine r_iload_n hC 2 dX5_tell_45 rfl rfl ?_
          refine r_iconst hC 4 dX5_tell_46 (by decide) ?_
          refine r_icmp_ne hC 55 dX5_tell_47 (by decide) (fun h56 => ?_) (fun h56 => ?_)
          · have hO := hO.2 h56
            refine r_iload_n hC 0 dX5_tell_55 rfl rfl ?_
            exact r_iret hC rfl dX5_tell_56 hO
          · have hO := hO.1 h56
            refine r_aload_n hC 1 dX5_tell_50 rfl rfl ?_
            refine r_iload_n hC 3 dX5_tell_51 rfl rfl ?_
            refine r_putI hC fl5_18 ob5 rfl rfl rfl dX5_tell_52 ?_
            refine r_nmM (fun μ57 hμ57 => ?_)
            have hO := hO μ57 hμ57
            refine r_iload_n hC 0 dX5_tell_55 rfl rfl ?_
            exact r_iret hC rfl dX5_tell_56 hO
      · have hO := hO.1 h51
        refine r_aload_n hC 1 dX5_tell_30 rfl rfl ?_
        refine r_iload_n hC 3 dX5_tell_31 rfl rfl ?_
        refine r_putI hC fl5_35 ob5 rfl rfl rfl dX5_tell_32 ?_
        refine r_nmM (fun μ58 hμ58 => ?_)
        have hO := hO μ58 hμ58
        refine r_iload_n hC 2 dX5_tell_35 rfl rfl ?_
        refine r_iconst hC 3 dX5_tell_36 (by decide) ?_
        refine r_icmp_ne hC 45 dX5_tell_37 (by decide) (fun h59 => ?_) (fun h59 => ?_)
        · have hO := hO.2 h59
          refine r_iload_n hC 2 dX5_tell_45 rfl rfl ?_
          refine r_iconst hC 4 dX5_tell_46 (by decide) ?_
          refine r_icmp_ne hC 55 dX5_tell_47 (by decide) (fun h60 => ?_) (fun h60 => ?_)
          · have hO := hO.2 h60
            refine r_iload_n hC 0 dX5_tell_55 rfl rfl ?_
            exact r_iret hC rfl dX5_tell_56 hO
          · have hO := hO.1 h60
            refine r_aload_n hC 1 dX5_tell_50 rfl rfl ?_
            refine r_iload_n hC 3 dX5_tell_51 rfl rfl ?_
            refine r_putI hC fl5_18 ob5 rfl rfl rfl dX5_tell_52 ?_
            refine r_nmM (fun μ61 hμ61 => ?_)
            have hO := hO μ61 hμ61
            refine r_iload_n hC 0 dX5_tell_55 rfl rfl ?_
            exact r_iret hC rfl dX5_tell_56 hO
        · have hO := hO.1 h59
          refine r_aload_n hC 1 dX5_tell_40 rfl rfl ?_
          refine r_iload_n hC 3 dX5_tell_41 rfl rfl ?_
          refine r_putI hC fl5_38 ob5 rfl rfl rfl dX5_tell_42 ?_
          refine r_nmM (fun μ62 hμ62 => ?_)
          have hO := hO μ62 hμ62
          refine r_iload_n hC 2 dX5_tell_45 rfl rfl ?_
          refine r_iconst hC 4 dX5_tell_46 (by decide) ?_
          refine r_icmp_ne hC 55 dX5_tell_47 (by decide) (fun h63 => ?_) (fun h63 => ?_)
          · have hO := hO.2 h63
            refine r_iload_n hC 0 dX5_tell_55 rfl rfl ?_
            exact r_iret hC rfl dX5_tell_56 hO
          · have hO := hO.1 h63
            refine r_aload_n hC 1 dX5_tell_50 rfl rfl ?_
            refine r_iload_n hC 3 dX5_tell_51 rfl rfl ?_
            refine r_putI hC fl5_18 ob5 rfl rfl rfl dX5_tell_52 ?_
            refine r_nmM (fun μ64 hμ64 => ?_)
            have hO := hO μ64 hμ64
            refine r_iload_n hC 0 dX5_tell_55 rfl rfl ?_
            exact r_iret hC rfl dX5_tell_56 hO
set_option maxHeartbeats 4000000 in
set_option maxRecDepth 100000 in
theorem T5_isFloor {l : Launch} {G : mw_G} {p1 : Int32} {p2 : Int32} {p3 : Int32} {μ : mw_M} {QT : Prop} {QF : Prop}  (hO : P5_isFloor p1 p2 p3 QT QF) : mw_Mi l G kdX yX5_isFloor cX5_isFloor 3 (some .boolean) 0 0 [.int p1, .int p2, .int p3] μ (mw_bq (mw_pv μ QT) (mw_pv μ QF)) := by
  refine mw_enter [(0, .int p1), (1, .int p2), (2, .int p3)] RX5 (by decide) rfl (Nat.le_of_ble_eq_true rfl) rfl ?_
  intro p e s m args below meth c hC
  unfold P5_isFloor at hO
  refine r_iload_n hC 0 dX5_isFloor_0 rfl rfl ?_
  refine r_iconst hC 1 dX5_isFloor_1 (by decide) ?_
  refine r_icmp_lt hC 40 dX5_isFloor_2 (by decide) (fun h1 => ?_) (fun h1 => ?_)
  · have hO := hO.1 h1
    refine r_iconst hC 0 dX5_isFloor_40 (by decide) ?_
    exact r_zret hC rfl (by decide) dX5_isFloor_41 (Or.inr ⟨rfl, hO, rfl⟩)
  · have hO := hO.2 h1
    refine r_iload_n hC 0 dX5_isFloor_5 rfl rfl ?_
    refine r_sipush hC 999 dX5_isFloor_6 (by decide) ?_
    refine r_icmp_gt hC 40 dX5_isFloor_9 (by decide) (fun h2 => ?_) (fun h2 => ?_)
    · have hO := hO.1 h2
      refine r_iconst hC 0 dX5_isFloor_40 (by decide) ?_
      exact r_zret hC rfl (by decide) dX5_isFloor_41 (Or.inr ⟨rfl, hO, rfl⟩)
    · have hO := hO.2 h2
      refine r_iload_n hC 1 dX5_isFloor_12 rfl rfl ?_
      refine r_bipush hC (-9) dX5_isFloor_13 (by decide) ?_
      refine r_icmp_lt hC 40 dX5_isFloor_15 (by decide) (fun h3 => ?_) (fun h3 => ?_)
      · have hO := hO.1 h3
        refine r_iconst hC 0 dX5_isFloor_40 (by decide) ?_
        exact r_zret hC rfl (by decide) dX5_isFloor_41 (Or.inr ⟨rfl, hO, rfl⟩)
      · have hO := hO.2 h3
        refine r_iload_n hC 1 dX5_isFloor_18 rfl rfl ?_
        refine r_bipush hC 9 dX5_isFloor_19 (by decide) ?_
        refine r_icmp_gt hC 40 dX5_isFloor_21 (by decide) (fun h4 => ?_) (fun h4 => ?_)
        · have hO := hO.1 h4
          refine r_iconst hC 0 dX5_isFloor_40 (by decide) ?_
          exact r_zret hC rfl (by decide) dX5_isFloor_41 (Or.inr ⟨rfl, hO, rfl⟩)
        · have hO := hO.2 h4
          refine r_iload_n hC 2 dX5_isFloor_24 rfl rfl ?_
          refine r_bipush hC (-9) dX5_isFloor_25 (by decide) ?_
          refine r_icmp_lt hC 40 dX5_isFloor_27 (by decide) (fun h5 => ?_) (fun h5 => ?_)
          · have hO := hO.1 h5
            refine r_iconst hC 0 dX5_isFloor_40 (by decide) ?_
            exact r_zret hC rfl (by decide) dX5_isFloor_41 (Or.inr ⟨rfl, hO, rfl⟩)
          · have hO := hO.2 h5
            refine r_iload_n hC 2 dX5_isFloor_30 rfl rfl ?_
            refine r_bipush hC 9 dX5_isFloor_31 (by decide) ?_
            refine r_icmp_gt hC 40 dX5_isFloor_33 (by decide) (fun h6 => ?_) (fun h6 => ?_)
            · have hO := hO.1 h6
              refine r_iconst hC 0 dX5_isFloor_40 (by decide) ?_
              exact r_zret hC rfl (by decide) dX5_isFloor_41 (Or.inr ⟨rfl, hO, rfl⟩)
            · have hO := hO.2 h6
              refine r_iconst hC 1 dX5_isFloor_36 (by decide) ?_
              refine r_goto hC 41 dX5_isFloor_37 (by decide) ?_
              exact r_zret hC rfl (by decide) dX5_isFloor_41 (Or.inl ⟨rfl, hO, rfl⟩)
set_option maxHeartbeats 4000000 in
set_option maxRecDepth 100000 in
theorem T5_floorsAreFull {l : Launch} {G : mw_G}  {μ : mw_M} {QT : Prop} {QF : Prop}  (hO : P5_floorsAreFull μ QT QF) : mw_Mi l G kdX yX5_floorsAreFull cX5_floorsAreFull 1 (some .boolean) 0 0 [.ref (mw_a G 11)] μ (mw_bq (mw_pv μ QT) (mw_pv μ QF)) := by
  refine mw_enter [(0, .ref (mw_a G 11))] RX5 (by decide) rfl (Nat.le_of_ble_eq_true rfl) rfl ?_
  intro p e s m args below meth c hC
  unfold P5_floorsAreFull at hO
  refine r_aload_n hC 0 dX5_floorsAreFull_0 rfl rfl ?_
  refine r_getI hC fl5_41 ob5 rfl dX5_floorsAreFull_1 ?_
  refine r_iconst hC 4 dX5_floorsAreFull_4 (by decide) ?_
  refine r_icmp_lt hC 12 dX5_floorsAreFull_5 (by decide) (fun h1 => ?_) (fun h1 => ?_)
  · have hO := hO.1 h1
    refine r_iconst hC 0 dX5_floorsAreFull_12 (by decide) ?_
    exact r_zret hC rfl (by decide) dX5_floorsAreFull_13 (Or.inr ⟨rfl, hO, rfl⟩)
  · have hO := hO.2 h1
    refine r_iconst hC 1 dX5_floorsAreFull_8 (by decide) ?_
    refine r_goto hC 13 dX5_floorsAreFull_9 (by decide) ?_
    exact r_zret hC rfl (by decide) dX5_floorsAreFull_13 (Or.inl ⟨rfl, hO, rfl⟩)
set_option maxHeartbeats 4000000 in
set_option maxRecDepth 100000 in
theorem T5_hasFloor {l : Launch} {G : mw_G} {p1 : Int32} {μ : mw_M} {QT : Prop} {QF : Prop}  (hO : P5_hasFloor p1 μ QT QF) : mw_Mi l G kdX yX5_hasFloor cX5_hasFloor 2 (some .boolean) 0 0 [.ref (mw_a G 11), .int p1] μ (mw_bq (mw_pv μ QT) (mw_pv μ QF)) := by
  refine mw_enter [(0, .ref (mw_a G 11)), (1, .int p1)] RX5 (by decide) rfl (Nat.le_of_ble_eq_true rfl) rfl ?_
  intro p e s m args below meth c hC
  unfold P5_hasFloor at hO
  refine r_iload_n hC 1 dX5_hasFloor_0 rfl rfl ?_
  refine r_if_lt hC 16 dX5_hasFloor_1 (by decide) (fun h1 => ?_) (fun h1 => ?_)
  · have hO := hO.1 h1
    refine r_iconst hC 0 dX5_hasFloor_16 (by decide) ?_
    exact r_zret hC rfl (by decide) dX5_hasFloor_17 (Or.inr ⟨rfl, hO, rfl⟩)
  · have hO := hO.2 h1
    refine r_iload_n hC 1 dX5_hasFloor_4 rfl rfl ?_
    refine r_aload_n hC 0 dX5_hasFloor_5 rfl rfl ?_
    refine r_getI hC fl5_41 ob5 rfl dX5_hasFloor_6 ?_
    refine r_icmp_ge hC 16 dX5_hasFloor_9 (by decide) (fun h2 => ?_) (fun h2 => ?_)
    · have hO := hO.1 h2
      refine r_iconst hC 0 dX5_hasFloor_16 (by decide) ?_
      exact r_zret hC rfl (by decide) dX5_hasFloor_17 (Or.inr ⟨rfl, hO, rfl⟩)
    · have hO := hO.2 h2
      refine r_iconst hC 1 dX5_hasFloor_12 (by decide) ?_
      refine r_goto hC 17 dX5_hasFloor_13 (by decide) ?_
      exact r_zret hC rfl (by decide) dX5_hasFloor_17 (Or.inl ⟨rfl, hO, rfl⟩)
set_option maxHeartbeats 4000000 in
set_option maxRecDepth 100000 in
theorem T5_layFloor {l : Launch} {G : mw_G} {p1 : Int32} {p2 : Int32} {p3 : Int32} {μ : mw_M} {Q : Int32 → mw_M → Prop}  (hO : P5_layFloor p1 p2 p3 μ Q) : mw_Mi l G kdX yX5_layFloor cX5_layFloor 4 (some .int) 0 0 [.ref (mw_a G 11), .int p1, .int p2, .int p3] μ (Q) := by
  refine mw_enter [(0, .ref (mw_a G 11)), (1, .int p1), (2, .int p2), (3, .int p3)] RX5 (by decide) rfl (Nat.le_of_ble_eq_true rfl) rfl ?_
  intro p e s m args below meth c hC
  unfold P5_layFloor at hO
  refine r_aload_n hC 0 dX5_layFloor_0 rfl rfl ?_
  refine r_getI hC fl5_41 ob5 rfl dX5_layFloor_1 ?_
  refine r_iconst hC 4 dX5_layFloor_4 (by decide) ?_
  refine r_icmp_lt hC 11 dX5_layFloor_5 (by decide) (fun h1 => ?_) (fun h1 => ?_)
  · have hO := hO.1 h1
    refine r_aload_n hC 0 dX5_layFloor_11 rfl rfl ?_
    refine r_getR hC 12 fl5_21 ob5 rfl dX5_layFloor_12 ?_
    refine r_aload_n hC 0 dX5_layFloor_15 rfl rfl ?_
    refine r_getI hC fl5_41 ob5 rfl dX5_layFloor_16 ?_
    refine r_iload_n hC 1 dX5_layFloor_19 rfl rfl ?_
    obtain ⟨g2, hO⟩ := hO
    refine r_iast hC sh5_5 g2 ((μ.1 11 8).toNatClampNeg) rfl dX5_layFloor_20 ?_
    refine r_nmM (fun μ3 hμ3 => ?_)
    have hO := hO μ3 hμ3
    refine r_aload_n hC 0 dX5_layFloor_21 rfl rfl ?_
    refine r_getR hC 13 fl5_25 ob5 rfl dX5_layFloor_22 ?_
    refine r_aload_n hC 0 dX5_layFloor_25 rfl rfl ?_
    refine r_getI hC fl5_41 ob5 rfl dX5_layFloor_26 ?_
    refine r_iload_n hC 2 dX5_layFloor_29 rfl rfl ?_
    obtain ⟨g4, hO⟩ := hO
    refine r_iast hC sh5_6 g4 ((μ3.1 11 8).toNatClampNeg) rfl dX5_layFloor_30 ?_
    refine r_nmM (fun μ5 hμ5 => ?_)
    have hO := hO μ5 hμ5
    refine r_aload_n hC 0 dX5_layFloor_31 rfl rfl ?_
    refine r_getR hC 14 fl5_28 ob5 rfl dX5_layFloor_32 ?_
    refine r_aload_n hC 0 dX5_layFloor_35 rfl rfl ?_
    refine r_getI hC fl5_41 ob5 rfl dX5_layFloor_36 ?_
    refine r_iload_n hC 3 dX5_layFloor_39 rfl rfl ?_
    obtain ⟨g6, hO⟩ := hO
    refine r_iast hC sh5_7 g6 ((μ5.1 11 8).toNatClampNeg) rfl dX5_layFloor_40 ?_
    refine r_nmM (fun μ7 hμ7 => ?_)
    have hO := hO μ7 hμ7
    refine r_aload_n hC 0 dX5_layFloor_41 rfl rfl ?_
    refine r_dup hC dX5_layFloor_42 rfl ?_
    refine r_getI hC fl5_41 ob5 rfl dX5_layFloor_43 ?_
    refine r_iconst hC 1 dX5_layFloor_46 (by decide) ?_
    refine r_iadd hC dX5_layFloor_47 ?_
    refine r_putI hC fl5_41 ob5 rfl rfl rfl dX5_layFloor_48 ?_
    refine r_nmM (fun μ8 hμ8 => ?_)
    have hO := hO μ8 hμ8
    refine r_aload_n hC 0 dX5_layFloor_51 rfl rfl ?_
    refine r_getI hC fl5_41 ob5 rfl dX5_layFloor_52 ?_
    refine r_iconst hC 1 dX5_layFloor_55 (by decide) ?_
    refine r_isub hC dX5_layFloor_56 ?_
    exact r_iret hC rfl dX5_layFloor_57 hO
  · have hO := hO.2 h1
    refine r_bipush hC (-3) dX5_layFloor_8 (by decide) ?_
    exact r_iret hC rfl dX5_layFloor_10 hO
set_option maxHeartbeats 4000000 in
set_option maxRecDepth 100000 in
theorem T5_gripOf {l : Launch} {G : mw_G} {p1 : Int32} {μ : mw_M} {Q : Int32 → Prop}  (hO : P5_gripOf p1 μ Q) : mw_Mi l G kdX yX5_gripOf cX5_gripOf 2 (some .int) 1 21 [.ref (mw_a G 11), .int p1] μ (mw_pq μ Q) := by
  refine mw_enter [(0, .ref (mw_a G 11)), (1, .int p1)] RX5 (by decide) rfl (Nat.le_of_ble_eq_true rfl) rfl ?_
  intro p e s m args below meth c hC
  unfold P5_gripOf at hO
  refine r_aload_n hC 0 dX5_gripOf_0 rfl rfl ?_
  refine r_iload_n hC 1 dX5_gripOf_1 rfl rfl ?_
  refine r_callVi hC [.int p1] (T5_hasFloor  hO) yv5_hasFloor ml5_44 ob5 rfl ⟨Nat.le_of_ble_eq_true rfl, Nat.le_of_ble_eq_true rfl⟩ rfl rfl (Nat.le_of_ble_eq_true rfl) dX5_gripOf_2 (fun r1 μ2 hO => ?_)
  rcases hO with ⟨hr, hO⟩ | ⟨hr, hO⟩
  · refine r_topEq hr ?_
    obtain ⟨hO, hm⟩ := hO
    refine r_memEq hm ?_
    refine r_if_eq hC 17 dX5_gripOf_5 (by decide) (fun h => absurd h (by decide)) (fun _ => ?_)
    refine r_aload_n hC 0 dX5_gripOf_8 rfl rfl ?_
    refine r_getR hC 12 fl5_21 ob5 rfl dX5_gripOf_9 ?_
    refine r_iload_n hC 1 dX5_gripOf_12 rfl rfl ?_
    obtain ⟨g3, hO⟩ := hO
    refine r_iald hC sh5_5 g3 p1.toNatClampNeg rfl dX5_gripOf_13 ?_
    refine r_goto hC 18 dX5_gripOf_14 (by decide) ?_
    exact r_iret hC rfl dX5_gripOf_18 ⟨hO, rfl⟩
  · refine r_topEq hr ?_
    obtain ⟨hO, hm⟩ := hO
    refine r_memEq hm ?_
    refine r_if_eq hC 17 dX5_gripOf_5 (by decide) (fun _ => ?_) (fun h => absurd (by decide) h)
    refine r_iconst hC 0 dX5_gripOf_17 (by decide) ?_
    exact r_iret hC rfl dX5_gripOf_18 ⟨hO, rfl⟩
set_option maxHeartbeats 4000000 in
set_option maxRecDepth 100000 in
theorem T5_slopeX {l : Launch} {G : mw_G} {p1 : Int32} {μ : mw_M} {Q : Int32 → Prop}  (hO : P5_slopeX p1 μ Q) : mw_Mi l G kdX yX5_slopeX cX5_slopeX 2 (some .int) 1 21 [.ref (mw_a G 11), .int p1] μ (mw_pq μ Q) := by
  refine mw_enter [(0, .ref (mw_a G 11)), (1, .int p1)] RX5 (by decide) rfl (Nat.le_of_ble_eq_true rfl) rfl ?_
  intro p e s m args below meth c hC
  unfold P5_slopeX at hO
  refine r_aload_n hC 0 dX5_slopeX_0 rfl rfl ?_
  refine r_iload_n hC 1 dX5_slopeX_1 rfl rfl ?_
  refine r_callVi hC [.int p1] (T5_hasFloor  hO) yv5_hasFloor ml5_44 ob5 rfl ⟨Nat.le_of_ble_eq_true rfl, Nat.le_of_ble_eq_true rfl⟩ rfl rfl (Nat.le_of_ble_eq_true rfl) dX5_slopeX_2 (fun r1 μ2 hO => ?_)
  rcases hO with ⟨hr, hO⟩ | ⟨hr, hO⟩
  · refine r_topEq hr ?_
    obtain ⟨hO, hm⟩ := hO
    refine r_memEq hm ?_
    refine r_if_eq hC 17 dX5_slopeX_5 (by decide) (fun h => absurd h (by decide)) (fun _ => ?_)
    refine r_aload_n hC 0 dX5_slopeX_8 rfl rfl ?_
    refine r_getR hC 13 fl5_25 ob5 rfl dX5_slopeX_9 ?_
    refine r_iload_n hC 1 dX5_slopeX_12 rfl rfl ?_
    obtain ⟨g3, hO⟩ := hO
    refine r_iald hC sh5_6 g3 p1.toNatClampNeg rfl dX5_slopeX_13 ?_
    refine r_goto hC 18 dX5_slopeX_14 (by decide) ?_
    exact r_iret hC rfl dX5_slopeX_18 ⟨hO, rfl⟩
  · refine r_topEq hr ?_
    obtain ⟨hO, hm⟩ := hO
    refine r_memEq hm ?_
    refine r_if_eq hC 17 dX5_slopeX_5 (by decide) (fun _ => ?_) (fun h => absurd (by decide) h)
    refine r_iconst hC 0 dX5_slopeX_17 (by decide) ?_
    exact r_iret hC rfl dX5_slopeX_18 ⟨hO, rfl⟩
set_option maxHeartbeats 4000000 in
set_option maxRecDepth 100000 in
theorem T5_slopeY {l : Launch} {G : mw_G} {p1 : Int32} {μ : mw_M} {Q : Int32 → Prop}  (hO : P5_slopeY p1 μ Q) : mw_Mi l G kdX yX5_slopeY cX5_slopeY 2 (some .int) 1 21 [.ref (mw_a G 11), .int p1] μ (mw_pq μ Q) := by
  refine mw_enter [(0, .ref (mw_a G 11)), (1, .int p1)] RX5 (by decide) rfl (Nat.le_of_ble_eq_true rfl) rfl ?_
  intro p e s m args below meth c hC
  unfold P5_slopeY at hO
  refine r_aload_n hC 0 dX5_slopeY_0 rfl rfl ?_
  refine r_iload_n hC 1 dX5_slopeY_1 rfl rfl ?_
  refine r_callVi hC [.int p1] (T5_hasFloor  hO) yv5_hasFloor ml5_44 ob5 rfl ⟨Nat.le_of_ble_eq_true rfl, Nat.le_of_ble_eq_true rfl⟩ rfl rfl (Nat.le_of_ble_eq_true rfl) dX5_slopeY_2 (fun r1 μ2 hO => ?_)
  rcases hO with ⟨hr, hO⟩ | ⟨hr, hO⟩
  · refine r_topEq hr ?_
    obtain ⟨hO, hm⟩ := hO
    refine r_memEq hm ?_
    refine r_if_eq hC 17 dX5_slopeY_5 (by decide) (fun h => absurd h (by decide)) (fun _ => ?_)
    refine r_aload_n hC 0 dX5_slopeY_8 rfl rfl ?_
    refine r_getR hC 14 fl5_28 ob5 rfl dX5_slopeY_9 ?_
    refine r_iload_n hC 1 dX5_slopeY_12 rfl rfl ?_
    obtain ⟨g3, hO⟩ := hO
    refine r_iald hC sh5_7 g3 p1.toNatClampNeg rfl dX5_slopeY_13 ?_
    refine r_goto hC 18 dX5_slopeY_14 (by decide) ?_
    exact r_iret hC rfl dX5_slopeY_18 ⟨hO, rfl⟩
  · refine r_topEq hr ?_
    obtain ⟨hO, hm⟩ := hO
    refine r_memEq hm ?_
    refine r_if_eq hC 17 dX5_slopeY_5 (by decide) (fun _ => ?_) (fun h => absurd (by decide) h)
    refine r_iconst hC 0 dX5_slopeY_17 (by decide) ?_
    exact r_iret hC rfl dX5_slopeY_18 ⟨hO, rfl⟩
set_option maxHeartbeats 4000000 in
set_option maxRecDepth 100000 in
theorem T5_stiffness {l : Launch} {G : mw_G} {p1 : Int32} {μ : mw_M} {Q : Int64 → Prop}  (hO : P5_stiffness p1 μ Q) : mw_Ml l G kdX yX5_stiffness cX5_stiffness 6 (some .long) 1 40 [.ref (mw_a G 11), .int p1] μ (mw_pq μ Q) := by
  refine mw_enter [(0, .ref (mw_a G 11)), (1, .int p1)] RX5 (by decide) rfl (Nat.le_of_ble_eq_true rfl) rfl ?_
  intro p e s m args below meth c hC
  unfold P5_stiffness at hO
  refine r_iload_n hC 1 dX5_stiffness_0 rfl rfl ?_
  refine r_bipush hC 10 dX5_stiffness_1 (by decide) ?_
  refine r_idiv hC dX5_stiffness_3 (by decide) ?_
  refine r_i2l hC dX5_stiffness_4 ?_
  refine r_nmL (fun w1 hw1 => ?_)
  have hO := hO w1 hw1
  refine r_lstore_n hC [(2, .long w1), (0, .ref (mw_a G 11)), (1, .int p1)] dX5_stiffness_5 rfl (by decide) rfl ?_
  refine r_aload_n hC 1 dX5_stiffness_6 rfl rfl ?_
  refine r_getI hC fl5_9 ob5 rfl dX5_stiffness_7 ?_
  refine r_bipush hC 10 dX5_stiffness_10 (by decide) ?_
  refine r_idiv hC dX5_stiffness_12 (by decide) ?_
  refine r_i2l hC dX5_stiffness_13 ?_
  refine r_nmL (fun w2 hw2 => ?_)
  have hO := hO w2 hw2
  refine r_lstore hC [(4, .long w2), (2, .long w1), (0, .ref (mw_a G 11)), (1, .int p1)] dX5_stiffness_14 (by decide) rfl ?_
  refine r_lconst hC 1 dX5_stiffness_16 (by decide) ?_
  refine r_lload_n hC 1 dX5_stiffness_17 rfl rfl ?_
  refine r_lload_n hC 1 dX5_stiffness_18 rfl rfl ?_
  refine r_lmul hC dX5_stiffness_19 ?_
  refine r_lload hC 0 dX5_stiffness_20 rfl ?_
  refine r_lload hC 0 dX5_stiffness_22 rfl ?_
  refine r_lmul hC dX5_stiffness_24 ?_
  refine r_lsub hC dX5_stiffness_25 ?_
  refine r_absL hC mm5_48 (Nat.le_of_ble_eq_true rfl) (Nat.le_of_ble_eq_true rfl) dX5_stiffness_26 ?_
  refine r_aload_n hC 2 dX5_stiffness_29 rfl rfl ?_
  refine r_getI hC fl5_15 ob5 rfl dX5_stiffness_30 ?_
  refine r_i2l hC dX5_stiffness_33 ?_
  refine r_ladd hC dX5_stiffness_34 ?_
  refine r_maxL hC mm5_54 (Nat.le_of_ble_eq_true rfl) (Nat.le_of_ble_eq_true rfl) dX5_stiffness_35 ?_
  exact r_lret hC rfl dX5_stiffness_38 ⟨hO, rfl⟩
set_option maxHeartbeats 4000000 in
set_option maxRecDepth 100000 in
theorem T5_shakeOf {l : Launch} {G : mw_G} {p1 : Int32} {p2 : Int32} {μ : mw_M} {Q : Int32 → Prop}  (hO : P5_shakeOf p1 p2 μ Q) : mw_Mi l G kdX yX5_shakeOf cX5_shakeOf 5 (some .int) 2 65 [.ref (mw_a G 11), .int p1, .int p2] μ (mw_pq μ Q) := by
  refine mw_enter [(0, .ref (mw_a G 11)), (1, .int p1), (2, .int p2)] RX5 (by decide) rfl (Nat.le_of_ble_eq_true rfl) rfl ?_
  intro p e s m args below meth c hC
  unfold P5_shakeOf at hO
  refine r_iload_n hC 2 dX5_shakeOf_0 rfl rfl ?_
  refine r_bipush hC 10 dX5_shakeOf_1 (by decide) ?_
  refine r_idiv hC dX5_shakeOf_3 (by decide) ?_
  refine r_i2l hC dX5_shakeOf_4 ?_
  refine r_nmL (fun w1 hw1 => ?_)
  have hO := hO w1 hw1
  refine r_lstore_n hC [(3, .long w1), (0, .ref (mw_a G 11)), (1, .int p1), (2, .int p2)] dX5_shakeOf_5 rfl (by decide) rfl ?_
  refine r_ldc2 hC kc5_58 dX5_shakeOf_6 ?_
  refine r_iload_n hC 2 dX5_shakeOf_9 rfl rfl ?_
  refine r_i2l hC dX5_shakeOf_10 ?_
  refine r_lload_n hC 0 dX5_shakeOf_11 rfl rfl ?_
  refine r_lmul hC dX5_shakeOf_12 ?_
  refine r_lload_n hC 0 dX5_shakeOf_13 rfl rfl ?_
  refine r_lmul hC dX5_shakeOf_14 ?_
  refine r_aload_n hC 1 dX5_shakeOf_15 rfl rfl ?_
  refine r_iload_n hC 3 dX5_shakeOf_16 rfl rfl ?_
  refine r_callVl hC [.int p2] (T5_stiffness  hO) yv5_stiffness ml5_60 ob5 rfl ⟨Nat.le_of_ble_eq_true rfl, Nat.le_of_ble_eq_true rfl⟩ rfl rfl (Nat.le_of_ble_eq_true rfl) dX5_shakeOf_17 (fun r2 μ3 hO => ?_)
  obtain ⟨hO, hm⟩ := hO
  refine r_memEq hm ?_
  obtain ⟨g4, hO⟩ := hO
  refine r_ldiv hC dX5_shakeOf_20 g4 ?_
  refine r_minL hC mm5_64 (Nat.le_of_ble_eq_true rfl) (Nat.le_of_ble_eq_true rfl) dX5_shakeOf_21 ?_
  refine r_l2i hC dX5_shakeOf_24 ?_
  exact r_iret hC rfl dX5_shakeOf_25 ⟨hO, rfl⟩
set_option maxHeartbeats 4000000 in
set_option maxRecDepth 100000 in
theorem T5_mostLopsided {l : Launch} {G : mw_G} {p1 : Int32} {p2 : Int32} {μ : mw_M} {Q : Int32 → Prop}  (hO : P5_mostLopsided p1 p2 μ Q) : mw_Mi l G kdX yX5_mostLopsided cX5_mostLopsided 8 (some .int) 2 65 [.ref (mw_a G 11), .int p1, .int p2] μ (mw_pq μ Q) := by
  refine mw_enter [(0, .ref (mw_a G 11)), (1, .int p1), (2, .int p2)] RX5 (by decide) rfl (Nat.le_of_ble_eq_true rfl) rfl ?_
  intro p e s m args below meth c hC
  unfold P5_mostLopsided at hO
  refine r_ldc2 hC kc5_67 dX5_mostLopsided_0 ?_
  refine r_lstore_n hC [(3, .long 9999), (0, .ref (mw_a G 11)), (1, .int p1), (2, .int p2)] dX5_mostLopsided_3 rfl (by decide) rfl ?_
  refine r_bipush hC 10 dX5_mostLopsided_4 (by decide) ?_
  refine r_istore hC [(5, .int 10), (3, .long 9999), (0, .ref (mw_a G 11)), (1, .int p1), (2, .int p2)] dX5_mostLopsided_6 (by decide) rfl ?_
  have hLn3 : ∀   (n3 : Nat) (v1 : Int32) (y2 : Int64), L5_mostLopsided_8 p1 p2 μ Q n3 v1 y2 → mw_W p l e (mw_rm 2 65) s m args below meth c G kdX 8 (MQ below (va_Qi (mw_pq μ Q) (mw_B G kdX) (mw_A G kdX)) args s 0 0 (mw_A G kdX)) 8 [(5, .int v1), (3, .long y2), (0, .ref (mw_a G 11)), (1, .int p1), (2, .int p2)] [] μ := by
    intro   n3
    induction n3 with
    | zero => intro v1 y2 hO; exact False.elim hO
    | succ n3 ihn3 =>
      intro v1 y2 hO
      refine r_iload hC 0 dX5_mostLopsided_8 rfl ?_
      refine r_iload_n hC 4 dX5_mostLopsided_10 rfl rfl ?_
      refine r_icmp_gt hC 68 dX5_mostLopsided_11 (by decide) (fun h4 => ?_) (fun h4 => ?_)
      · have hO := hO.1 h4
        refine r_lload_n hC 1 dX5_mostLopsided_68 rfl rfl ?_
        refine r_l2i hC dX5_mostLopsided_69 ?_
        exact r_iret hC rfl dX5_mostLopsided_70 ⟨hO, rfl⟩
      · have hO := hO.2 h4
        refine r_iload hC 0 dX5_mostLopsided_14 rfl ?_
        refine r_sipush hC 1200 dX5_mostLopsided_16 (by decide) ?_
        refine r_icmp_gt hC 68 dX5_mostLopsided_19 (by decide) (fun h5 => ?_) (fun h5 => ?_)
        · have hO := hO.1 h5
          refine r_lload_n hC 1 dX5_mostLopsided_68 rfl rfl ?_
          refine r_l2i hC dX5_mostLopsided_69 ?_
          exact r_iret hC rfl dX5_mostLopsided_70 ⟨hO, rfl⟩
        · have hO := hO.2 h5
          refine r_iconst hC 1 dX5_mostLopsided_22 (by decide) ?_
          refine r_iload hC 0 dX5_mostLopsided_23 rfl ?_
          refine r_bipush hC 10 dX5_mostLopsided_25 (by decide) ?_
          refine r_idiv hC dX5_mostLopsided_27 (by decide) ?_
          refine r_max hC mm5_69 (Nat.le_of_ble_eq_true rfl) (Nat.le_of_ble_eq_true rfl) dX5_mostLopsided_28 ?_
          refine r_i2l hC dX5_mostLopsided_31 ?_
          refine r_nmL (fun w6 hw6 => ?_)
          have hO := hO w6 hw6
          refine r_lstore hC [(6, .long w6), (5, .int v1), (3, .long y2), (0, .ref (mw_a G 11)), (1, .int p1), (2, .int p2)] dX5_mostLopsided_32 (by decide) rfl ?_
          refine r_lload_n hC 2 dX5_mostLopsided_34 rfl rfl ?_
          refine r_aload_n hC 3 dX5_mostLopsided_35 rfl rfl ?_
          refine r_iload_n hC 4 dX5_mostLopsided_36 rfl rfl ?_
          refine r_callVi hC [.int p1] (T5_gripOf  hO) yv5_gripOf ml5_72 ob5 rfl ⟨Nat.le_of_ble_eq_true rfl, Nat.le_of_ble_eq_true rfl⟩ rfl rfl (Nat.le_of_ble_eq_true rfl) dX5_mostLopsided_37 (fun r7 μ8 hO => ?_)
          obtain ⟨hO, hm⟩ := hO
          refine r_memEq hm ?_
          refine r_iconst hC 1 dX5_mostLopsided_40 (by decide) ?_
          refine r_iadd hC dX5_mostLopsided_41 ?_
          refine r_i2l hC dX5_mostLopsided_42 ?_
          refine r_aload_n hC 3 dX5_mostLopsided_43 rfl rfl ?_
          refine r_iload hC 1 dX5_mostLopsided_44 rfl ?_
          refine r_callVl hC [.int v1] (T5_stiffness  hO) yv5_stiffness ml5_60 ob5 rfl ⟨Nat.le_of_ble_eq_true rfl, Nat.le_of_ble_eq_true rfl⟩ rfl rfl (Nat.le_of_ble_eq_true rfl) dX5_mostLopsided_46 (fun r9 μ10 hO => ?_)
          obtain ⟨hO, hm⟩ := hO
          refine r_memEq hm ?_
          refine r_lmul hC dX5_mostLopsided_49 ?_
          refine r_lconst hC 1 dX5_mostLopsided_50 (by decide) ?_
          refine r_lsub hC dX5_mostLopsided_51 ?_
          refine r_lload hC 0 dX5_mostLopsided_52 rfl ?_
          refine r_lload hC 0 dX5_mostLopsided_54 rfl ?_
          refine r_lmul hC dX5_mostLopsided_56 ?_
          obtain ⟨g11, hO⟩ := hO
          refine r_ldiv hC dX5_mostLopsided_57 g11 ?_
          refine r_minL hC mm5_64 (Nat.le_of_ble_eq_true rfl) (Nat.le_of_ble_eq_true rfl) dX5_mostLopsided_58 ?_
          refine r_nmL (fun w12 hw12 => ?_)
          have hO := hO w12 hw12
          refine r_lstore_n hC [(3, .long w12), (6, .long w6), (5, .int v1), (0, .ref (mw_a G 11)), (1, .int p1), (2, .int p2)] dX5_mostLopsided_61 rfl (by decide) rfl ?_
          obtain ⟨x13, hx13⟩ : ∃ y : Int32, y = v1 + 10 := ⟨_, rfl⟩
          have hO := hO x13 hx13
          refine r_iinc hC x13 2 [(5, .int x13), (3, .long w12), (6, .long w6), (0, .ref (mw_a G 11)), (1, .int p1), (2, .int p2)] dX5_mostLopsided_62 rfl (by rw [hx13]; rfl) (by decide) rfl ?_
          refine r_goto hC 8 dX5_mostLopsided_65 (by decide) ?_
          refine r_lv hC [(5, .int x13), (3, .long w12), (0, .ref (mw_a G 11)), (1, .int p1), (2, .int p2)] [0, 1, 3, 4, 5] rfl ?_
          exact ihn3 x13 w12 hO
  obtain ⟨n3, hO⟩ := hO
  refine hLn3   n3 _ _ hO
set_option maxHeartbeats 4000000 in
set_option maxRecDepth 100000 in
theorem T6_isShelf {l : Launch} {G : mw_G} {p1 : Int32} {μ : mw_M} {QT : Prop} {QF : Prop}  (hO : P6_isShelf p1 QT QF) : mw_Mi l G kdX yX6_isShelf cX6_isShelf 1 (some .boolean) 0 0 [.int p1] μ (mw_bq (mw_pv μ QT) (mw_pv μ QF)) := by
  refine mw_enter [(0, .int p1)] RX6 (by decide) rfl (Nat.le_of_ble_eq_true rfl) rfl ?_
  intro p e s m args below meth c hC
  unfold P6_isShelf at hO
  refine r_iload_n hC 0 dX6_isShelf_0 rfl rfl ?_
  refine r_if_lt hC 14 dX6_isShelf_1 (by decide) (fun h1 => ?_) (fun h1 => ?_)
  · have hO := hO.1 h1
    refine r_iconst hC 0 dX6_isShelf_14 (by decide) ?_
    exact r_zret hC rfl (by decide) dX6_isShelf_15 (Or.inr ⟨rfl, hO, rfl⟩)
  · have hO := hO.2 h1
    refine r_iload_n hC 0 dX6_isShelf_4 rfl rfl ?_
    refine r_bipush hC 6 dX6_isShelf_5 (by decide) ?_
    refine r_icmp_ge hC 14 dX6_isShelf_7 (by decide) (fun h2 => ?_) (fun h2 => ?_)
    · have hO := hO.1 h2
      refine r_iconst hC 0 dX6_isShelf_14 (by decide) ?_
      exact r_zret hC rfl (by decide) dX6_isShelf_15 (Or.inr ⟨rfl, hO, rfl⟩)
    · have hO := hO.2 h2
      refine r_iconst hC 1 dX6_isShelf_10 (by decide) ?_
      refine r_goto hC 15 dX6_isShelf_11 (by decide) ?_
      exact r_zret hC rfl (by decide) dX6_isShelf_15 (Or.inl ⟨rfl, hO, rfl⟩)
set_option maxHeartbeats 4000000 in
set_option maxRecDepth 100000 in
theorem T6_isSort {l : Launch} {G : mw_G} {p1 : Int32} {μ : mw_M} {QT : Prop} {QF : Prop}  (hO : P6_isSort p1 QT QF) : mw_Mi l G kdX yX6_isSort cX6_isSort 1 (some .boolean) 0 0 [.int p1] μ (mw_bq (mw_pv μ QT) (mw_pv μ QF)) := by
  refine mw_enter [(0, .int p1)] RX6 (by decide) rfl (Nat.le_of_ble_eq_true rfl) rfl ?_
  intro p e s m args below meth c hC
  unfold P6_isSort at hO
  refine r_iload_n hC 0 dX6_isSort_0 rfl rfl ?_
  refine r_if_lt hC 13 dX6_isSort_1 (by decide) (fun h1 => ?_) (fun h1 => ?_)
  · have hO := hO.1 h1
    refine r_iconst hC 0 dX6_isSort_13 (by decide) ?_
    exact r_zret hC rfl (by decide) dX6_isSort_14 (Or.inr ⟨rfl, hO, rfl⟩)
  · have hO := hO.2 h1
    refine r_iload_n hC 0 dX6_isSort_4 rfl rfl ?_
    refine r_iconst hC 4 dX6_isSort_5 (by decide) ?_
    refine r_icmp_gt hC 13 dX6_isSort_6 (by decide) (fun h2 => ?_) (fun h2 => ?_)
    · have hO := hO.1 h2
      refine r_iconst hC 0 dX6_isSort_13 (by decide) ?_
      exact r_zret hC rfl (by decide) dX6_isSort_14 (Or.inr ⟨rfl, hO, rfl⟩)
    · have hO := hO.2 h2
      refine r_iconst hC 1 dX6_isSort_9 (by decide) ?_
      refine r_goto hC 14 dX6_isSort_10 (by decide) ?_
      exact r_zret hC rfl (by decide) dX6_isSort_14 (Or.inl ⟨rfl, hO, rfl⟩)
set_option maxHeartbeats 4000000 in
set_option maxRecDepth 100000 in
theorem T6_isEmpty {l : Launch} {G : mw_G} {p1 : Int32} {μ : mw_M} {QT : Prop} {QF : Prop}  (hO : P6_isEmpty p1 μ QT QF) : mw_Mi l G kdX yX6_isEmpty cX6_isEmpty 2 (some .boolean) 1 20 [.ref (mw_a G 65), .int p1] μ (mw_bq (mw_pv μ QT) (mw_pv μ QF)) := by
  refine mw_enter [(0, .ref (mw_a G 65)), (1, .int p1)] RX6 (by decide) rfl (Nat.le_of_ble_eq_true rfl) rfl ?_
  intro p e s m args below meth c hC
  unfold P6_isEmpty at hO
  refine r_iload_n hC 1 dX6_isEmpty_0 rfl rfl ?_
  refine r_callSi hC [.int p1] (T6_isShelf  hO) yv6_isShelf ml6_29 ⟨Nat.le_of_ble_eq_true rfl, Nat.le_of_ble_eq_true rfl⟩ rfl rfl (Nat.le_of_ble_eq_true rfl) dX6_isEmpty_1 (fun r1 μ2 hO => ?_)
  rcases hO with ⟨hr, hO⟩ | ⟨hr, hO⟩
  · refine r_topEq hr ?_
    obtain ⟨hO, hm⟩ := hO
    refine r_memEq hm ?_
    refine r_if_eq hC 16 dX6_isEmpty_4 (by decide) (fun h => absurd h (by decide)) (fun _ => ?_)
    refine r_aload_n hC 0 dX6_isEmpty_7 rfl rfl ?_
    refine r_getR hC 66 fl6_11 ob6 rfl dX6_isEmpty_8 ?_
    refine r_iload_n hC 1 dX6_isEmpty_11 rfl rfl ?_
    obtain ⟨g3, hO⟩ := hO
    refine r_iald hC sh6_0 g3 p1.toNatClampNeg rfl dX6_isEmpty_12 ?_
    refine r_if_ne hC 20 dX6_isEmpty_13 (by decide) (fun h4 => ?_) (fun h4 => ?_)
    · have hO := hO.2 h4
      refine r_iconst hC 0 dX6_isEmpty_20 (by decide) ?_
      exact r_zret hC rfl (by decide) dX6_isEmpty_21 (Or.inr ⟨rfl, hO, rfl⟩)
    · have hO := hO.1 h4
      refine r_iconst hC 1 dX6_isEmpty_16 (by decide) ?_
      refine r_goto hC 21 dX6_isEmpty_17 (by decide) ?_
      exact r_zret hC rfl (by decide) dX6_isEmpty_21 (Or.inl ⟨rfl, hO, rfl⟩)
  · refine r_topEq hr ?_
    obtain ⟨hO, hm⟩ := hO
    refine r_memEq hm ?_
    refine r_if_eq hC 16 dX6_isEmpty_4 (by decide) (fun _ => ?_) (fun h => absurd (by decide) h)
    refine r_iconst hC 1 dX6_isEmpty_16 (by decide) ?_
    refine r_goto hC 21 dX6_isEmpty_17 (by decide) ?_
    exact r_zret hC rfl (by decide) dX6_isEmpty_21 (Or.inl ⟨rfl, hO, rfl⟩)
set_option maxHeartbeats 4000000 in
set_option maxRecDepth 100000 in
theorem T6_holdsRow {l : Launch} {G : mw_G} {p1 : Int32} {μ : mw_M} {QT : Prop} {QF : Prop}  (hO : P6_holdsRow p1 μ QT QF) : mw_Mi l G kdX yX6_holdsRow cX6_holdsRow 2 (some .boolean) 1 20 [.ref (mw_a G 65), .int p1] μ (mw_bq (mw_pv μ QT) (mw_pv μ QF)) := by
  refine mw_enter [(0, .ref (mw_a G 65)), (1, .int p1)] RX6 (by decide) rfl (Nat.le_of_ble_eq_true rfl) rfl ?_
  intro p e s m args below meth c hC
  unfold P6_holdsRow at hO
  refine r_iload_n hC 1 dX6_holdsRow_0 rfl rfl ?_
  refine r_callSi hC [.int p1] (T6_isShelf  hO) yv6_isShelf ml6_29 ⟨Nat.le_of_ble_eq_true rfl, Nat.le_of_ble_eq_true rfl⟩ rfl rfl (Nat.le_of_ble_eq_true rfl) dX6_holdsRow_1 (fun r1 μ2 hO => ?_)
  rcases hO with ⟨hr, hO⟩ | ⟨hr, hO⟩
  · refine r_topEq hr ?_
    obtain ⟨hO, hm⟩ := hO
    refine r_memEq hm ?_
    refine r_if_eq hC 21 dX6_holdsRow_4 (by decide) (fun h => absurd h (by decide)) (fun _ => ?_)
    refine r_aload_n hC 0 dX6_holdsRow_7 rfl rfl ?_
    refine r_getR hC 66 fl6_11 ob6 rfl dX6_holdsRow_8 ?_
    refine r_iload_n hC 1 dX6_holdsRow_11 rfl rfl ?_
    obtain ⟨g3, hO⟩ := hO
    refine r_iald hC sh6_0 g3 p1.toNatClampNeg rfl dX6_holdsRow_12 ?_
    refine r_iconst hC 2 dX6_holdsRow_13 (by decide) ?_
    refine r_icmp_ne hC 21 dX6_holdsRow_14 (by decide) (fun h4 => ?_) (fun h4 => ?_)
    · have hO := hO.2 h4
      refine r_iconst hC 0 dX6_holdsRow_21 (by decide) ?_
      exact r_zret hC rfl (by decide) dX6_holdsRow_22 (Or.inr ⟨rfl, hO, rfl⟩)
    · have hO := hO.1 h4
      refine r_iconst hC 1 dX6_holdsRow_17 (by decide) ?_
      refine r_goto hC 22 dX6_holdsRow_18 (by decide) ?_
      exact r_zret hC rfl (by decide) dX6_holdsRow_22 (Or.inl ⟨rfl, hO, rfl⟩)
  · refine r_topEq hr ?_
    obtain ⟨hO, hm⟩ := hO
    refine r_memEq hm ?_
    refine r_if_eq hC 21 dX6_holdsRow_4 (by decide) (fun _ => ?_) (fun h => absurd (by decide) h)
    refine r_iconst hC 0 dX6_holdsRow_21 (by decide) ?_
    exact r_zret hC rfl (by decide) dX6_holdsRow_22 (Or.inr ⟨rfl, hO, rfl⟩)
set_option maxHeartbeats 4000000 in
set_option maxRecDepth 100000 in
theorem T6_holdsRowOf {l : Launch} {G : mw_G} {p1 : Int32} {p2 : Int32} {μ : mw_M} {QT : Prop} {QF : Prop}  (hO : P6_holdsRowOf p1 p2 μ QT QF) : mw_Mi l G kdX yX6_holdsRowOf cX6_holdsRowOf 3 (some .boolean) 2 41 [.ref (mw_a G 65), .int p1, .int p2] μ (mw_bq (mw_pv μ QT) (mw_pv μ QF)) := by
  refine mw_enter [(0, .ref (mw_a G 65)), (1, .int p1), (2, .int p2)] RX6 (by decide) rfl (Nat.le_of_ble_eq_true rfl) rfl ?_
  intro p e s m args below meth c hC
  unfold P6_holdsRowOf at hO
  refine r_aload_n hC 0 dX6_holdsRowOf_0 rfl rfl ?_
  refine r_iload_n hC 1 dX6_holdsRowOf_1 rfl rfl ?_
  refine r_callVi hC [.int p1] (T6_holdsRow  hO) yv6_holdsRow ml6_33 ob6 rfl ⟨Nat.le_of_ble_eq_true rfl, Nat.le_of_ble_eq_true rfl⟩ rfl rfl (Nat.le_of_ble_eq_true rfl) dX6_holdsRowOf_2 (fun r1 μ2 hO => ?_)
  rcases hO with ⟨hr, hO⟩ | ⟨hr, hO⟩
  · refine r_topEq hr ?_
    obtain ⟨hO, hm⟩ := hO
    refine r_memEq hm ?_
    refine r_if_eq hC 22 dX6_holdsRowOf_5 (by decide) (fun h => absurd h (by decide)) (fun _ => ?_)
    refine r_aload_n hC 0 dX6_holdsRowOf_8 rfl rfl ?_
    refine r_getR hC 68 fl6_18 ob6 rfl dX6_holdsRowOf_9 ?_
    refine r_iload_n hC 1 dX6_holdsRowOf_12 rfl rfl ?_
    obtain ⟨g3, hO⟩ := hO
    refine r_iald hC sh6_2 g3 p1.toNatClampNeg rfl dX6_holdsRowOf_13 ?_
    refine r_iload_n hC 2 dX6_holdsRowOf_14 rfl rfl ?_
    refine r_icmp_ne hC 22 dX6_holdsRowOf_15 (by decide) (fun h4 => ?_) (fun h4 => ?_)
    · have hO := hO.2 h4
      refine r_iconst hC 0 dX6_holdsRowOf_22 (by decide) ?_
      exact r_zret hC rfl (by decide) dX6_holdsRowOf_23 (Or.inr ⟨rfl, hO, rfl⟩)
    · have hO := hO.1 h4
      refine r_iconst hC 1 dX6_holdsRowOf_18 (by decide) ?_
      refine r_goto hC 23 dX6_holdsRowOf_19 (by decide) ?_
      exact r_zret hC rfl (by decide) dX6_holdsRowOf_23 (Or.inl ⟨rfl, hO, rfl⟩)
  · refine r_topEq hr ?_
    obtain ⟨hO, hm⟩ := hO
    refine r_memEq hm ?_
    refine r_if_eq hC 22 dX6_holdsRowOf_5 (by decide) (fun _ => ?_) (fun h => absurd (by decide) h)
    refine r_iconst hC 0 dX6_holdsRowOf_22 (by decide) ?_
    exact r_zret hC rfl (by decide) dX6_holdsRowOf_23 (Or.inr ⟨rfl, hO, rfl⟩)
set_option maxHeartbeats 4000000 in
set_option maxRecDepth 100000 in
theorem T6_sortOf {l : Launch} {G : mw_G} {p1 : Int32} {μ : mw_M} {Q : Int32 → Prop}  (hO : P6_sortOf p1 μ Q) : mw_Mi l G kdX yX6_sortOf cX6_sortOf 2 (some .int) 1 20 [.ref (mw_a G 65), .int p1] μ (mw_pq μ Q) := by
  refine mw_enter [(0, .ref (mw_a G 65)), (1, .int p1)] RX6 (by decide) rfl (Nat.le_of_ble_eq_true rfl) rfl ?_
  intro p e s m args below meth c hC
  unfold P6_sortOf at hO
  refine r_iload_n hC 1 dX6_sortOf_0 rfl rfl ?_
  refine r_callSi hC [.int p1] (T6_isShelf  hO) yv6_isShelf ml6_29 ⟨Nat.le_of_ble_eq_true rfl, Nat.le_of_ble_eq_true rfl⟩ rfl rfl (Nat.le_of_ble_eq_true rfl) dX6_sortOf_1 (fun r1 μ2 hO => ?_)
  rcases hO with ⟨hr, hO⟩ | ⟨hr, hO⟩
  · refine r_topEq hr ?_
    obtain ⟨hO, hm⟩ := hO
    refine r_memEq hm ?_
    refine r_if_eq hC 16 dX6_sortOf_4 (by decide) (fun h => absurd h (by decide)) (fun _ => ?_)
    refine r_aload_n hC 0 dX6_sortOf_7 rfl rfl ?_
    refine r_getR hC 68 fl6_18 ob6 rfl dX6_sortOf_8 ?_
    refine r_iload_n hC 1 dX6_sortOf_11 rfl rfl ?_
    obtain ⟨g3, hO⟩ := hO
    refine r_iald hC sh6_2 g3 p1.toNatClampNeg rfl dX6_sortOf_12 ?_
    refine r_goto hC 17 dX6_sortOf_13 (by decide) ?_
    exact r_iret hC rfl dX6_sortOf_17 ⟨hO, rfl⟩
  · refine r_topEq hr ?_
    obtain ⟨hO, hm⟩ := hO
    refine r_memEq hm ?_
    refine r_if_eq hC 16 dX6_sortOf_4 (by decide) (fun _ => ?_) (fun h => absurd (by decide) h)
    refine r_iconst hC (-1) dX6_sortOf_16 (by decide) ?_
    exact r_iret hC rfl dX6_sortOf_17 ⟨hO, rfl⟩
