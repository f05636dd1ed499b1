set_option maxHeartbeats 4000000 in
set_option maxRecDepth 100000 in
theorem T1_doAgain {l : Launch} {G : mw_G}  {μ : mw_M} {Q : Int32 → mw_M → Prop}  (hO : P1_doAgain μ Q) : mw_Mi l G kdX yX1_doAgain cX1_doAgain 1 (some .int) 2 44 [.ref (mw_a G 6)] μ (Q) := by
  refine mw_enter [(0, .ref (mw_a G 6))] RX1 (by decide) rfl (Nat.le_of_ble_eq_true rfl) rfl ?_
  intro p e s m args below meth c hC
  unfold P1_doAgain at hO
  refine r_aload_n hC 0 dX1_doAgain_0 rfl rfl ?_
  refine r_getI hC fl1_34 ob1 rfl dX1_doAgain_1 ?_
  refine r_aload_n hC 0 dX1_doAgain_4 rfl rfl ?_
  refine r_getI hC fl1_41 ob1 rfl dX1_doAgain_5 ?_
  refine r_icmp_ge hC 20 dX1_doAgain_8 (by decide) (fun h1 => ?_) (fun h1 => ?_)
  · have hO := hO.1 h1
    refine r_bipush hC (-5) dX1_doAgain_20 (by decide) ?_
    exact r_iret hC rfl dX1_doAgain_22 hO
  · have hO := hO.2 h1
    refine r_aload_n hC 0 dX1_doAgain_11 rfl rfl ?_
    refine r_getI hC fl1_34 ob1 rfl dX1_doAgain_12 ?_
    refine r_bipush hC 40 dX1_doAgain_15 (by decide) ?_
    refine r_icmp_lt hC 23 dX1_doAgain_17 (by decide) (fun h2 => ?_) (fun h2 => ?_)
    · have hO := hO.1 h2
      refine r_aload_n hC 0 dX1_doAgain_23 rfl rfl ?_
      refine r_getR hC 1 fl1_9 ob1 rfl dX1_doAgain_24 ?_
      refine r_aload_n hC 0 dX1_doAgain_27 rfl rfl ?_
      refine r_getR hC 7 fl1_15 ob1 rfl dX1_doAgain_28 ?_
      refine r_aload_n hC 0 dX1_doAgain_31 rfl rfl ?_
      refine r_getI hC fl1_34 ob1 rfl dX1_doAgain_32 ?_
      obtain ⟨g3, hO⟩ := hO
      refine r_iald hC sh1_1 g3 ((μ.1 6 5).toNatClampNeg) rfl dX1_doAgain_35 ?_
      refine r_aload_n hC 0 dX1_doAgain_36 rfl rfl ?_
      refine r_getR hC 8 fl1_19 ob1 rfl dX1_doAgain_37 ?_
      refine r_aload_n hC 0 dX1_doAgain_40 rfl rfl ?_
      refine r_getI hC fl1_34 ob1 rfl dX1_doAgain_41 ?_
      obtain ⟨g4, hO⟩ := hO
      refine r_iald hC sh1_2 g4 ((μ.1 6 5).toNatClampNeg) rfl dX1_doAgain_44 ?_
      refine r_aload_n hC 0 dX1_doAgain_45 rfl rfl ?_
      refine r_getR hC 10 fl1_25 ob1 rfl dX1_doAgain_46 ?_
      refine r_aload_n hC 0 dX1_doAgain_49 rfl rfl ?_
      refine r_getI hC fl1_34 ob1 rfl dX1_doAgain_50 ?_
      obtain ⟨g5, hO⟩ := hO
      refine r_iald hC sh1_4 g5 ((μ.1 6 5).toNatClampNeg) rfl dX1_doAgain_53 ?_
      refine r_callVv hC [.int (μ.1 7 ((μ.1 6 5).toNatClampNeg)), .int (μ.1 8 ((μ.1 6 5).toNatClampNeg)), .int (μ.1 10 ((μ.1 6 5).toNatClampNeg))] (T2_tell sh1_0 hO) yv2_tell ml1_44 sh1_0 rfl ⟨Nat.le_of_ble_eq_true rfl, Nat.le_of_ble_eq_true rfl⟩ rfl rfl (Nat.le_of_ble_eq_true rfl) dX1_doAgain_54 (fun μ6 hO => ?_)
      refine r_aload_n hC 0 dX1_doAgain_57 rfl rfl ?_
      refine r_dup hC dX1_doAgain_58 rfl ?_
      refine r_getI hC fl1_34 ob1 rfl dX1_doAgain_59 ?_
      refine r_iconst hC 1 dX1_doAgain_62 (by decide) ?_
      refine r_iadd hC dX1_doAgain_63 ?_
      refine r_putI hC fl1_34 ob1 rfl rfl rfl dX1_doAgain_64 ?_
      refine r_nmM (fun μ7 hμ7 => ?_)
      have hO := hO μ7 hμ7
      refine r_aload_n hC 0 dX1_doAgain_67 rfl rfl ?_
      refine r_callVi hC [] (T1_redoable  hO) yv1_redoable ml1_52 ob1 rfl ⟨Nat.le_of_ble_eq_true rfl, Nat.le_of_ble_eq_true rfl⟩ rfl rfl (Nat.le_of_ble_eq_true rfl) dX1_doAgain_68 (fun r8 μ9 hO => ?_)
      obtain ⟨hO, hm⟩ := hO
      refine r_memEq hm ?_
      exact r_iret hC rfl dX1_doAgain_71 hO
    · have hO := hO.2 h2
      refine r_bipush hC (-5) dX1_doAgain_20 (by decide) ?_
      exact r_iret hC rfl dX1_doAgain_22 hO
set_option maxHeartbeats 4000000 in
set_option maxRecDepth 100000 in
theorem T1_end {l : Launch} {G : mw_G}  {μ : mw_M} {Q : mw_M → Prop}  (hO : P1_end μ Q) : mw_Mv l G kdX yX1_end cX1_end 1 none 0 0 [.ref (mw_a G 6)] μ (Q) := by
  refine mw_enter [(0, .ref (mw_a G 6))] RX1 (by decide) rfl (Nat.le_of_ble_eq_true rfl) rfl ?_
  intro p e s m args below meth c hC
  unfold P1_end at hO
  refine r_aload_n hC 0 dX1_end_0 rfl rfl ?_
  refine r_iconst hC 0 dX1_end_1 (by decide) ?_
  refine r_putI hC fl1_34 ob1 rfl rfl rfl dX1_end_2 ?_
  refine r_nmM (fun μ1 hμ1 => ?_)
  have hO := hO μ1 hμ1
  refine r_aload_n hC 0 dX1_end_5 rfl rfl ?_
  refine r_iconst hC 0 dX1_end_6 (by decide) ?_
  refine r_putI hC fl1_41 ob1 rfl rfl rfl dX1_end_7 ?_
  refine r_nmM (fun μ2 hμ2 => ?_)
  have hO := hO μ2 hμ2
  exact r_vret hC rfl dX1_end_10 hO
set_option maxHeartbeats 4000000 in
set_option maxRecDepth 100000 in
theorem T2_cosine {l : Launch} {G : mw_G} {p1 : Int32} {μ : mw_M} {Q : Int32 → Prop}  (hO : P2_cosine p1 Q) : mw_Mi l G kdX yX2_cosine cX2_cosine 1 (some .int) 0 0 [.int p1] μ (mw_pq μ Q) := by
  refine mw_enter [(0, .int p1)] RX2 (by decide) rfl (Nat.le_of_ble_eq_true rfl) rfl ?_
  intro p e s m args below meth c hC
  unfold P2_cosine at hO
  refine r_iload_n hC 0 dX2_cosine_0 rfl rfl ?_
  refine r_if_lt hC 18 dX2_cosine_1 (by decide) (fun h1 => ?_) (fun h1 => ?_)
  · have hO := hO.1 h1
    refine r_iconst hC 0 dX2_cosine_18 (by decide) ?_
    exact r_iret hC rfl dX2_cosine_19 ⟨hO, rfl⟩
  · have hO := hO.2 h1
    refine r_iload_n hC 0 dX2_cosine_4 rfl rfl ?_
    refine r_bipush hC 12 dX2_cosine_5 (by decide) ?_
    refine r_icmp_ge hC 18 dX2_cosine_7 (by decide) (fun h2 => ?_) (fun h2 => ?_)
    · have hO := hO.1 h2
      refine r_iconst hC 0 dX2_cosine_18 (by decide) ?_
      exact r_iret hC rfl dX2_cosine_19 ⟨hO, rfl⟩
    · have hO := hO.2 h2
      refine r_gets hC 0 (by decide) gs2_24 dX2_cosine_10 ?_
      refine r_iload_n hC 0 dX2_cosine_13 rfl rfl ?_
      obtain ⟨g3, hO⟩ := hO
      refine r_sald hC 0 (by decide) g3 p1.toNatClampNeg rfl dX2_cosine_14 ?_
      refine r_goto hC 19 dX2_cosine_15 (by decide) ?_
      exact r_iret hC rfl dX2_cosine_19 ⟨hO, rfl⟩
set_option maxHeartbeats 4000000 in
set_option maxRecDepth 100000 in
theorem T2_sine {l : Launch} {G : mw_G} {p1 : Int32} {μ : mw_M} {Q : Int32 → Prop}  (hO : P2_sine p1 Q) : mw_Mi l G kdX yX2_sine cX2_sine 1 (some .int) 0 0 [.int p1] μ (mw_pq μ Q) := by
  refine mw_enter [(0, .int p1)] RX2 (by decide) rfl (Nat.le_of_ble_eq_true rfl) rfl ?_
  intro p e s m args below meth c hC
  unfold P2_sine at hO
  refine r_iload_n hC 0 dX2_sine_0 rfl rfl ?_
  refine r_if_lt hC 18 dX2_sine_1 (by decide) (fun h1 => ?_) (fun h1 => ?_)
  · have hO := hO.1 h1
    refine r_iconst hC 0 dX2_sine_18 (by decide) ?_
    exact r_iret hC rfl dX2_sine_19 ⟨hO, rfl⟩
  · have hO := hO.2 h1
    refine r_iload_n hC 0 dX2_sine_4 rfl rfl ?_
    refine r_bipush hC 12 dX2_sine_5 (by decide) ?_
    refine r_icmp_ge hC 18 dX2_sine_7 (by decide) (fun h2 => ?_) (fun h2 => ?_)
    · have hO := hO.1 h2
      refine r_iconst hC 0 dX2_sine_18 (by decide) ?_
      exact r_iret hC rfl dX2_sine_19 ⟨hO, rfl⟩
    · have hO := hO.2 h2
      refine r_gets hC 1 (by decide) gs2_27 dX2_sine_10 ?_
      refine r_iload_n hC 0 dX2_sine_13 rfl rfl ?_
      obtain ⟨g3, hO⟩ := hO
      refine r_sald hC 1 (by decide) g3 p1.toNatClampNeg rfl dX2_sine_14 ?_
      refine r_goto hC 19 dX2_sine_15 (by decide) ?_
      exact r_iret hC rfl dX2_sine_19 ⟨hO, rfl⟩
set_option maxHeartbeats 4000000 in
set_option maxRecDepth 100000 in
theorem T2_isTold {l : Launch} {G : mw_G} {p1 : Int32} {p2 : Int32} {μ : mw_M} {QT : Prop} {QF : Prop}  (hO : P2_isTold p1 p2 QT QF) : mw_Mi l G kdX yX2_isTold cX2_isTold 2 (some .boolean) 0 0 [.int p1, .int p2] μ (mw_bq (mw_pv μ QT) (mw_pv μ QF)) := by
  refine mw_enter [(0, .int p1), (1, .int p2)] RX2 (by decide) rfl (Nat.le_of_ble_eq_true rfl) rfl ?_
  intro p e s m args below meth c hC
  unfold P2_isTold at hO
  refine r_iload_n hC 0 dX2_isTold_0 rfl rfl ?_
  by_cases h1 : p1 = 0
  · have hO := hO.1 h1
    refine r_tin hC 28 dX2_isTold_1 (by rw [h1]; decide) (by rw [h1]; decide) (by rw [h1] <;> rfl) (by decide) ?_
    refine r_iload_n hC 1 dX2_isTold_28 rfl rfl ?_
    refine r_iconst hC 1 dX2_isTold_29 (by decide) ?_
    refine r_icmp_lt hC 43 dX2_isTold_30 (by decide) (fun h2 => ?_) (fun h2 => ?_)
    · have hO := hO.1 h2
      refine r_iconst hC 0 dX2_isTold_43 (by decide) ?_
      exact r_zret hC rfl (by decide) dX2_isTold_44 (Or.inr ⟨rfl, hO, rfl⟩)
    · have hO := hO.2 h2
      refine r_iload_n hC 1 dX2_isTold_33 rfl rfl ?_
      refine r_bipush hC 50 dX2_isTold_34 (by decide) ?_
      refine r_icmp_gt hC 43 dX2_isTold_36 (by decide) (fun h3 => ?_) (fun h3 => ?_)
      · have hO := hO.1 h3
        refine r_iconst hC 0 dX2_isTold_43 (by decide) ?_
        exact r_zret hC rfl (by decide) dX2_isTold_44 (Or.inr ⟨rfl, hO, rfl⟩)
      · have hO := hO.2 h3
        refine r_iconst hC 1 dX2_isTold_39 (by decide) ?_
        refine r_goto hC 44 dX2_isTold_40 (by decide) ?_
        exact r_zret hC rfl (by decide) dX2_isTold_44 (Or.inl ⟨rfl, hO, rfl⟩)
  by_cases h4 : p1 = 1
  · have hO := hO.2.1 h4
    refine r_tin hC 45 dX2_isTold_1 (by rw [h4]; decide) (by rw [h4]; decide) (by rw [h4] <;> rfl) (by decide) ?_
    refine r_iload_n hC 1 dX2_isTold_45 rfl rfl ?_
    refine r_if_lt hC 59 dX2_isTold_46 (by decide) (fun h5 => ?_) (fun h5 => ?_)
    · have hO := hO.1 h5
      refine r_iconst hC 0 dX2_isTold_59 (by decide) ?_
      exact r_zret hC rfl (by decide) dX2_isTold_60 (Or.inr ⟨rfl, hO, rfl⟩)
    · have hO := hO.2 h5
      refine r_iload_n hC 1 dX2_isTold_49 rfl rfl ?_
      refine r_bipush hC 99 dX2_isTold_50 (by decide) ?_
      refine r_icmp_gt hC 59 dX2_isTold_52 (by decide) (fun h6 => ?_) (fun h6 => ?_)
      · have hO := hO.1 h6
        refine r_iconst hC 0 dX2_isTold_59 (by decide) ?_
        exact r_zret hC rfl (by decide) dX2_isTold_60 (Or.inr ⟨rfl, hO, rfl⟩)
      · have hO := hO.2 h6
        refine r_iconst hC 1 dX2_isTold_55 (by decide) ?_
        refine r_goto hC 60 dX2_isTold_56 (by decide) ?_
        exact r_zret hC rfl (by decide) dX2_isTold_60 (Or.inl ⟨rfl, hO, rfl⟩)
  by_cases h7 : p1 = 2
  · have hO := hO.2.2.1 h7
    refine r_tin hC 61 dX2_isTold_1 (by rw [h7]; decide) (by rw [h7]; decide) (by rw [h7] <;> rfl) (by decide) ?_
    refine r_iload_n hC 1 dX2_isTold_61 rfl rfl ?_
    refine r_if_lt hC 75 dX2_isTold_62 (by decide) (fun h8 => ?_) (fun h8 => ?_)
    · have hO := hO.1 h8
      refine r_iconst hC 0 dX2_isTold_75 (by decide) ?_
      exact r_zret hC rfl (by decide) dX2_isTold_76 (Or.inr ⟨rfl, hO, rfl⟩)
    · have hO := hO.2 h8
      refine r_iload_n hC 1 dX2_isTold_65 rfl rfl ?_
      refine r_bipush hC 12 dX2_isTold_66 (by decide) ?_
      refine r_icmp_ge hC 75 dX2_isTold_68 (by decide) (fun h9 => ?_) (fun h9 => ?_)
      · have hO := hO.1 h9
        refine r_iconst hC 0 dX2_isTold_75 (by decide) ?_
        exact r_zret hC rfl (by decide) dX2_isTold_76 (Or.inr ⟨rfl, hO, rfl⟩)
      · have hO := hO.2 h9
        refine r_iconst hC 1 dX2_isTold_71 (by decide) ?_
        refine r_goto hC 76 dX2_isTold_72 (by decide) ?_
        exact r_zret hC rfl (by decide) dX2_isTold_76 (Or.inl ⟨rfl, hO, rfl⟩)
  have hO := hO.2.2.2 h1 h4 h7
  refine r_tdef hC 77 dX2_isTold_1 (by decide) rfl (fun k hk => match k, hk with | 0, _ => Or.inr (mw_ne h1 rfl) | 1, _ => Or.inr (mw_ne h4 rfl) | 2, _ => Or.inr (mw_ne h7 rfl) | k + 3, h => absurd h (by show ¬ k + 3 < 3; omega)) ?_
  refine r_iconst hC 0 dX2_isTold_77 (by decide) ?_
  exact r_zret hC rfl (by decide) dX2_isTold_78 (Or.inr ⟨rfl, hO, rfl⟩)
set_option maxHeartbeats 4000000 in
set_option maxRecDepth 100000 in
theorem T2_isLump {l : Launch} {G : mw_G} {p1 : Int32} {p2 : Int32} {p3 : Int32} {p4 : Int32} {μ : mw_M} {QT : Prop} {QF : Prop}  (hO : P2_isLump p1 p2 p3 p4 QT QF) : mw_Mi l G kdX yX2_isLump cX2_isLump 4 (some .boolean) 1 21 [.int p1, .int p2, .int p3, .int p4] μ (mw_bq (mw_pv μ QT) (mw_pv μ QF)) := by
  refine mw_enter [(0, .int p1), (1, .int p2), (2, .int p3), (3, .int p4)] RX2 (by decide) rfl (Nat.le_of_ble_eq_true rfl) rfl ?_
  intro p e s m args below meth c hC
  unfold P2_isLump at hO
  refine r_iconst hC 0 dX2_isLump_0 (by decide) ?_
  refine r_iload_n hC 0 dX2_isLump_1 rfl rfl ?_
  refine r_callSi hC [.int 0, .int p1] (T2_isTold  hO) yv2_isTold ml2_30 ⟨Nat.le_of_ble_eq_true rfl, Nat.le_of_ble_eq_true rfl⟩ rfl rfl (Nat.le_of_ble_eq_true rfl) dX2_isLump_2 (fun r1 μ2 hO => ?_)
  rcases hO with ⟨hr, hO⟩ | ⟨hr, hO⟩
  · refine r_topEq hr ?_
    obtain ⟨hO, hm⟩ := hO
    refine r_memEq hm ?_
    refine r_if_eq hC 38 dX2_isLump_5 (by decide) (fun h => absurd h (by decide)) (fun _ => ?_)
    refine r_iconst hC 1 dX2_isLump_8 (by decide) ?_
    refine r_iload_n hC 1 dX2_isLump_9 rfl rfl ?_
    refine r_callSi hC [.int 1, .int p2] (T2_isTold  hO) yv2_isTold ml2_30 ⟨Nat.le_of_ble_eq_true rfl, Nat.le_of_ble_eq_true rfl⟩ rfl rfl (Nat.le_of_ble_eq_true rfl) dX2_isLump_10 (fun r3 μ4 hO => ?_)
    rcases hO with ⟨hr, hO⟩ | ⟨hr, hO⟩
    · refine r_topEq hr ?_
      obtain ⟨hO, hm⟩ := hO
      refine r_memEq hm ?_
      refine r_if_eq hC 38 dX2_isLump_13 (by decide) (fun h => absurd h (by decide)) (fun _ => ?_)
      refine r_iconst hC 2 dX2_isLump_16 (by decide) ?_
      refine r_iload_n hC 2 dX2_isLump_17 rfl rfl ?_
      refine r_callSi hC [.int 2, .int p3] (T2_isTold  hO) yv2_isTold ml2_30 ⟨Nat.le_of_ble_eq_true rfl, Nat.le_of_ble_eq_true rfl⟩ rfl rfl (Nat.le_of_ble_eq_true rfl) dX2_isLump_18 (fun r5 μ6 hO => ?_)
      rcases hO with ⟨hr, hO⟩ | ⟨hr, hO⟩
      · refine r_topEq hr ?_
        obtain ⟨hO, hm⟩ := hO
        refine r_memEq hm ?_
        refine r_if_eq hC 38 dX2_isLump_21 (by decide) (fun h => absurd h (by decide)) (fun _ => ?_)
        refine r_iload_n hC 3 dX2_isLump_24 rfl rfl ?_
        refine r_if_lt hC 38 dX2_isLump_25 (by decide) (fun h7 => ?_) (fun h7 => ?_)
        · have hO := hO.1 h7
          refine r_iconst hC 0 dX2_isLump_38 (by decide) ?_
          exact r_zret hC rfl (by decide) dX2_isLump_39 (Or.inr ⟨rfl, hO, rfl⟩)
        · have hO := hO.2 h7
          refine r_iload_n hC 3 dX2_isLump_28 rfl rfl ?_
          refine r_bipush hC 9 dX2_isLump_29 (by decide) ?_
          refine r_icmp_gt hC 38 dX2_isLump_31 (by decide) (fun h8 => ?_) (fun h8 => ?_)
          · have hO := hO.1 h8
            refine r_iconst hC 0 dX2_isLump_38 (by decide) ?_
            exact r_zret hC rfl (by decide) dX2_isLump_39 (Or.inr ⟨rfl, hO, rfl⟩)
          · have hO := hO.2 h8
            refine r_iconst hC 1 dX2_isLump_34 (by decide) ?_
            refine r_goto hC 39 dX2_isLump_35 (by decide) ?_
            exact r_zret hC rfl (by decide) dX2_isLump_39 (Or.inl ⟨rfl, hO, rfl⟩)
      · refine r_topEq hr ?_
        obtain ⟨hO, hm⟩ := hO
        refine r_memEq hm ?_
        refine r_if_eq hC 38 dX2_isLump_21 (by decide) (fun _ => ?_) (fun h => absurd (by decide) h)
        refine r_iconst hC 0 dX2_isLump_38 (by decide) ?_
        exact r_zret hC rfl (by decide) dX2_isLump_39 (Or.inr ⟨rfl, hO, rfl⟩)
    · refine r_topEq hr ?_
      obtain ⟨hO, hm⟩ := hO
      refine r_memEq hm ?_
      refine r_if_eq hC 38 dX2_isLump_13 (by decide) (fun _ => ?_) (fun h => absurd (by decide) h)
      refine r_iconst hC 0 dX2_isLump_38 (by decide) ?_
      exact r_zret hC rfl (by decide) dX2_isLump_39 (Or.inr ⟨rfl, hO, rfl⟩)
  · refine r_topEq hr ?_
    obtain ⟨hO, hm⟩ := hO
    refine r_memEq hm ?_
    refine r_if_eq hC 38 dX2_isLump_5 (by decide) (fun _ => ?_) (fun h => absurd (by decide) h)
    refine r_iconst hC 0 dX2_isLump_38 (by decide) ?_
    exact r_zret hC rfl (by decide) dX2_isLump_39 (Or.inr ⟨rfl, hO, rfl⟩)
set_option maxHeartbeats 4000000 in
set_option maxRecDepth 100000 in
theorem T2_isCounter {l : Launch} {G : mw_G} {p1 : Int32} {μ : mw_M} {QT : Prop} {QF : Prop}  (hO : P2_isCounter p1 QT QF) : mw_Mi l G kdX yX2_isCounter cX2_isCounter 1 (some .boolean) 0 0 [.int p1] μ (mw_bq (mw_pv μ QT) (mw_pv μ QF)) := by
  refine mw_enter [(0, .int p1)] RX2 (by decide) rfl (Nat.le_of_ble_eq_true rfl) rfl ?_
  intro p e s m args below meth c hC
  unfold P2_isCounter at hO
  refine r_iload_n hC 0 dX2_isCounter_0 rfl rfl ?_
  refine r_if_lt hC 26 dX2_isCounter_1 (by decide) (fun h1 => ?_) (fun h1 => ?_)
  · have hO := hO.1 h1
    refine r_iconst hC 0 dX2_isCounter_26 (by decide) ?_
    exact r_zret hC rfl (by decide) dX2_isCounter_27 (Or.inr ⟨rfl, hO, rfl⟩)
  · have hO := hO.2 h1
    refine r_iload_n hC 0 dX2_isCounter_4 rfl rfl ?_
    refine r_bipush hC 100 dX2_isCounter_5 (by decide) ?_
    refine r_idiv hC dX2_isCounter_7 (by decide) ?_
    refine r_bipush hC 99 dX2_isCounter_8 (by decide) ?_
    refine r_icmp_gt hC 26 dX2_isCounter_10 (by decide) (fun h2 => ?_) (fun h2 => ?_)
    · have hO := hO.1 h2
      refine r_iconst hC 0 dX2_isCounter_26 (by decide) ?_
      exact r_zret hC rfl (by decide) dX2_isCounter_27 (Or.inr ⟨rfl, hO, rfl⟩)
    · have hO := hO.2 h2
      refine r_iload_n hC 0 dX2_isCounter_13 rfl rfl ?_
      refine r_bipush hC 100 dX2_isCounter_14 (by decide) ?_
      refine r_irem hC dX2_isCounter_16 (by decide) ?_
      refine r_bipush hC 12 dX2_isCounter_17 (by decide) ?_
      refine r_icmp_ge hC 26 dX2_isCounter_19 (by decide) (fun h3 => ?_) (fun h3 => ?_)
      · have hO := hO.1 h3
        refine r_iconst hC 0 dX2_isCounter_26 (by decide) ?_
        exact r_zret hC rfl (by decide) dX2_isCounter_27 (Or.inr ⟨rfl, hO, rfl⟩)
      · have hO := hO.2 h3
        refine r_iconst hC 1 dX2_isCounter_22 (by decide) ?_
        refine r_goto hC 27 dX2_isCounter_23 (by decide) ?_
        exact r_zret hC rfl (by decide) dX2_isCounter_27 (Or.inl ⟨rfl, hO, rfl⟩)
set_option maxHeartbeats 4000000 in
set_option maxRecDepth 100000 in
theorem T2_isFull {l : Launch} {G : mw_G} {b : Nat} {μ : mw_M} {QT : Prop} {QF : Prop} (hb : kdX[b]? = some (.inl (2, dsX2 b))) (hO : P2_isFull b μ QT QF) : mw_Mi l G kdX yX2_isFull cX2_isFull 1 (some .boolean) 0 0 [.ref (mw_a G b)] μ (mw_bq (mw_pv μ QT) (mw_pv μ QF)) := by
  refine mw_enter [(0, .ref (mw_a G b))] RX2 (by decide) rfl (Nat.le_of_ble_eq_true rfl) rfl ?_
  intro p e s m args below meth c hC
  unfold P2_isFull at hO
  refine r_aload_n hC 0 dX2_isFull_0 rfl rfl ?_
  refine r_getI hC fl2_34 hb rfl dX2_isFull_1 ?_
  refine r_bipush hC 12 dX2_isFull_4 (by decide) ?_
  refine r_icmp_lt hC 13 dX2_isFull_6 (by decide) (fun h1 => ?_) (fun h1 => ?_)
  · have hO := hO.1 h1
    refine r_iconst hC 0 dX2_isFull_13 (by decide) ?_
    exact r_zret hC rfl (by decide) dX2_isFull_14 (Or.inr ⟨rfl, hO, rfl⟩)
  · have hO := hO.2 h1
    refine r_iconst hC 1 dX2_isFull_9 (by decide) ?_
    refine r_goto hC 14 dX2_isFull_10 (by decide) ?_
    exact r_zret hC rfl (by decide) dX2_isFull_14 (Or.inl ⟨rfl, hO, rfl⟩)
set_option maxHeartbeats 4000000 in
set_option maxRecDepth 100000 in
theorem T2_join {l : Launch} {G : mw_G} {b : Nat} {p1 : Int32} {p2 : Int32} {p3 : Int32} {p4 : Int32} {μ : mw_M} {Q : Int32 → mw_M → Prop} (hb : kdX[b]? = some (.inl (2, dsX2 b))) (hO : P2_join b p1 p2 p3 p4 μ Q) : mw_Mi l G kdX yX2_join cX2_join 5 (some .int) 0 0 [.ref (mw_a G b), .int p1, .int p2, .int p3, .int p4] μ (Q) := by
  refine mw_enter [(0, .ref (mw_a G b)), (1, .int p1), (2, .int p2), (3, .int p3), (4, .int p4)] RX2 (by decide) rfl (Nat.le_of_ble_eq_true rfl) rfl ?_
  intro p e s m args below meth c hC
  unfold P2_join at hO
  refine r_aload_n hC 0 dX2_join_0 rfl rfl ?_
  refine r_getI hC fl2_34 hb rfl dX2_join_1 ?_
  refine r_bipush hC 12 dX2_join_4 (by decide) ?_
  refine r_icmp_lt hC 12 dX2_join_6 (by decide) (fun h1 => ?_) (fun h1 => ?_)
  · have hO := hO.1 h1
    refine r_aload_n hC 0 dX2_join_12 rfl rfl ?_
    refine r_getR hC (b + 1) fl2_11 hb rfl dX2_join_13 ?_
    refine r_aload_n hC 0 dX2_join_16 rfl rfl ?_
    refine r_getI hC fl2_34 hb rfl dX2_join_17 ?_
    refine r_iload_n hC 1 dX2_join_20 rfl rfl ?_
    obtain ⟨g2, hO⟩ := hO
    refine r_iast hC (sh2_0 hb) g2 ((μ.1 b 4).toNatClampNeg) rfl dX2_join_21 ?_
    refine r_nmM (fun μ3 hμ3 => ?_)
    have hO := hO μ3 hμ3
    refine r_aload_n hC 0 dX2_join_22 rfl rfl ?_
    refine r_getR hC (b + 2) fl2_15 hb rfl dX2_join_23 ?_
    refine r_aload_n hC 0 dX2_join_26 rfl rfl ?_
    refine r_getI hC fl2_34 hb rfl dX2_join_27 ?_
    refine r_iload_n hC 2 dX2_join_30 rfl rfl ?_
    obtain ⟨g4, hO⟩ := hO
    refine r_iast hC (sh2_1 hb) g4 ((μ3.1 b 4).toNatClampNeg) rfl dX2_join_31 ?_
    refine r_nmM (fun μ5 hμ5 => ?_)
    have hO := hO μ5 hμ5
    refine r_aload_n hC 0 dX2_join_32 rfl rfl ?_
    refine r_getR hC (b + 3) fl2_18 hb rfl dX2_join_33 ?_
    refine r_aload_n hC 0 dX2_join_36 rfl rfl ?_
    refine r_getI hC fl2_34 hb rfl dX2_join_37 ?_
    refine r_iload_n hC 3 dX2_join_40 rfl rfl ?_
    obtain ⟨g6, hO⟩ := hO
    refine r_iast hC (sh2_2 hb) g6 ((μ5.1 b 4).toNatClampNeg) rfl dX2_join_41 ?_
    refine r_nmM (fun μ7 hμ7 => ?_)
    have hO := hO μ7 hμ7
    refine r_aload_n hC 0 dX2_join_42 rfl rfl ?_
    refine r_getR hC (b + 4) fl2_21 hb rfl dX2_join_43 ?_
    refine r_aload_n hC 0 dX2_join_46 rfl rfl ?_
    refine r_getI hC fl2_34 hb rfl dX2_join_47 ?_
    refine r_iload hC 4 dX2_join_50 rfl ?_
    obtain ⟨g8, hO⟩ := hO
    refine r_iast hC (sh2_3 hb) g8 ((μ7.1 b 4).toNatClampNeg) rfl dX2_join_52 ?_
    refine r_nmM (fun μ9 hμ9 => ?_)
    have hO := hO μ9 hμ9
    refine r_aload_n hC 0 dX2_join_53 rfl rfl ?_
    refine r_dup hC dX2_join_54 rfl ?_
    refine r_getI hC fl2_34 hb rfl dX2_join_55 ?_
    refine r_iconst hC 1 dX2_join_58 (by decide) ?_
    refine r_iadd hC dX2_join_59 ?_
    refine r_putI hC fl2_34 hb rfl rfl rfl dX2_join_60 ?_
    refine r_nmM (fun μ10 hμ10 => ?_)
    have hO := hO μ10 hμ10
    refine r_aload_n hC 0 dX2_join_63 rfl rfl ?_
    refine r_getI hC fl2_34 hb rfl dX2_join_64 ?_
    refine r_iconst hC 1 dX2_join_67 (by decide) ?_
    refine r_isub hC dX2_join_68 ?_
    exact r_iret hC rfl dX2_join_69 hO
  · have hO := hO.2 h1
    refine r_bipush hC (-3) dX2_join_9 (by decide) ?_
    exact r_iret hC rfl dX2_join_11 hO
set_option maxHeartbeats 4000000 in
set_option maxRecDepth 100000 in
theorem T2_lieAs {l : Launch} {G : mw_G} {b : Nat} {d1 : Nat} {μ : mw_M} {Q : mw_M → Prop} (hb : kdX[b]? = some (.inl (2, dsX2 b))) (hd1 : kdX[d1]? = some (.inl (2, dsX2 d1))) (hO : P2_lieAs b d1 μ Q) : mw_Mv l G kdX yX2_lieAs cX2_lieAs 3 none 0 0 [.ref (mw_a G b), .ref (mw_a G d1)] μ (Q) := by
  refine mw_enter [(0, .ref (mw_a G b)), (1, .ref (mw_a G d1))] RX2 (by decide) rfl (Nat.le_of_ble_eq_true rfl) rfl ?_
  intro p e s m args below meth c hC
  unfold P2_lieAs at hO
  refine r_aload_n hC 0 dX2_lieAs_0 rfl rfl ?_
  refine r_aload_n hC 1 dX2_lieAs_1 rfl rfl ?_
  refine r_getI hC fl2_34 hd1 rfl dX2_lieAs_2 ?_
  refine r_putI hC fl2_34 hb rfl rfl rfl dX2_lieAs_5 ?_
  refine r_nmM (fun μ1 hμ1 => ?_)
  have hO := hO μ1 hμ1
  refine r_aload_n hC 0 dX2_lieAs_8 rfl rfl ?_
  refine r_aload_n hC 1 dX2_lieAs_9 rfl rfl ?_
  refine r_getI hC fl2_38 hd1 rfl dX2_lieAs_10 ?_
  refine r_putI hC fl2_38 hb rfl rfl rfl dX2_lieAs_13 ?_
  refine r_nmM (fun μ2 hμ2 => ?_)
  have hO := hO μ2 hμ2
  refine r_iconst hC 0 dX2_lieAs_16 (by decide) ?_
  refine r_istore_n hC [(2, .int 0), (0, .ref (mw_a G b)), (1, .ref (mw_a G d1))] dX2_lieAs_17 rfl (by decide) rfl ?_
  have hLn5 : ∀   (n5 : Nat) (v3 : Int32) (μ4 : mw_M), L2_lieAs_18 b d1 Q n5 v3 μ4 → mw_W p l e (mw_rm 0 0) s m args below meth c G kdX 3 (MQ below (va_Qv (Q) (mw_B G kdX) (mw_A G kdX)) args s 0 0 (mw_A G kdX)) 18 [(2, .int v3), (0, .ref (mw_a G b)), (1, .ref (mw_a G d1))] [] μ4 := by
    intro   n5
    induction n5 with
    | zero => intro v3 μ4 hO; exact False.elim hO
    | succ n5 ihn5 =>
      intro v3 μ4 hO
      refine r_iload_n hC 0 dX2_lieAs_18 rfl rfl ?_
      refine r_aload_n hC 1 dX2_lieAs_19 rfl rfl ?_
      refine r_getI hC fl2_34 hb rfl dX2_lieAs_20 ?_
      refine r_icmp_ge hC 86 dX2_lieAs_23 (by decide) (fun h6 => ?_) (fun h6 => ?_)
      · have hO := hO.1 h6
        exact r_vret hC rfl dX2_lieAs_86 hO
      · have hO := hO.2 h6
        refine r_iload_n hC 0 dX2_lieAs_26 rfl rfl ?_
        refine r_bipush hC 12 dX2_lieAs_27 (by decide) ?_
        refine r_icmp_ge hC 86 dX2_lieAs_29 (by decide) (fun h7 => ?_) (fun h7 => ?_)
        · have hO := hO.1 h7
          exact r_vret hC rfl dX2_lieAs_86 hO
        · have hO := hO.2 h7
          refine r_aload_n hC 1 dX2_lieAs_32 rfl rfl ?_
          refine r_getR hC (b + 1) fl2_11 hb rfl dX2_lieAs_33 ?_
          refine r_iload_n hC 0 dX2_lieAs_36 rfl rfl ?_
          refine r_aload_n hC 2 dX2_lieAs_37 rfl rfl ?_
          refine r_getR hC (d1 + 1) fl2_11 hd1 rfl dX2_lieAs_38 ?_
          refine r_iload_n hC 0 dX2_lieAs_41 rfl rfl ?_
          obtain ⟨g8, hO⟩ := hO
          refine r_iald hC (sh2_0 hd1) g8 v3.toNatClampNeg rfl dX2_lieAs_42 ?_
          obtain ⟨g9, hO⟩ := hO
          refine r_iast hC (sh2_0 hb) g9 v3.toNatClampNeg rfl dX2_lieAs_43 ?_
          refine r_nmM (fun μ10 hμ10 => ?_)
          have hO := hO μ10 hμ10
          refine r_aload_n hC 1 dX2_lieAs_44 rfl rfl ?_
          refine r_getR hC (b + 2) fl2_15 hb rfl dX2_lieAs_45 ?_
          refine r_iload_n hC 0 dX2_lieAs_48 rfl rfl ?_
          refine r_aload_n hC 2 dX2_lieAs_49 rfl rfl ?_
          refine r_getR hC (d1 + 2) fl2_15 hd1 rfl dX2_lieAs_50 ?_
          refine r_iload_n hC 0 dX2_lieAs_53 rfl rfl ?_
          obtain ⟨g11, hO⟩ := hO
          refine r_iald hC (sh2_1 hd1) g11 v3.toNatClampNeg rfl dX2_lieAs_54 ?_
          obtain ⟨g12, hO⟩ := hO
          refine r_iast hC (sh2_1 hb) g12 v3.toNatClampNeg rfl dX2_lieAs_55 ?_
          refine r_nmM (fun μ13 hμ13 => ?_)
          have hO := hO μ13 hμ13
          refine r_aload_n hC 1 dX2_lieAs_56 rfl rfl ?_
          refine r_getR hC (b + 3) fl2_18 hb rfl dX2_lieAs_57 ?_
          refine r_iload_n hC 0 dX2_lieAs_60 rfl rfl ?_
          refine r_aload_n hC 2 dX2_lieAs_61 rfl rfl ?_
          refine r_getR hC (d1 + 3) fl2_18 hd1 rfl dX2_lieAs_62 ?_
          refine r_iload_n hC 0 dX2_lieAs_65 rfl rfl ?_
          obtain ⟨g14, hO⟩ := hO
          refine r_iald hC (sh2_2 hd1) g14 v3.toNatClampNeg rfl dX2_lieAs_66 ?_
          obtain ⟨g15, hO⟩ := hO
          refine r_iast hC (sh2_2 hb) g15 v3.toNatClampNeg rfl dX2_lieAs_67 ?_
          refine r_nmM (fun μ16 hμ16 => ?_)
          have hO := hO μ16 hμ16
          refine r_aload_n hC 1 dX2_lieAs_68 rfl rfl ?_
          refine r_getR hC (b + 4) fl2_21 hb rfl dX2_lieAs_69 ?_
          refine r_iload_n hC 0 dX2_lieAs_72 rfl rfl ?_
          refine r_aload_n hC 2 dX2_lieAs_73 rfl rfl ?_
          refine r_getR hC (d1 + 4) fl2_21 hd1 rfl dX2_lieAs_74 ?_
          refine r_iload_n hC 0 dX2_lieAs_77 rfl rfl ?_
          obtain ⟨g17, hO⟩ := hO
          refine r_iald hC (sh2_3 hd1) g17 v3.toNatClampNeg rfl dX2_lieAs_78 ?_
          obtain ⟨g18, hO⟩ := hO
          refine r_iast hC (sh2_3 hb) g18 v3.toNatClampNeg rfl dX2_lieAs_79 ?_
          refine r_nmM (fun μ19 hμ19 => ?_)
          have hO := hO μ19 hμ19
          obtain ⟨x20, hx20⟩ : ∃ y : Int32, y = v3 + 1 := ⟨_, rfl⟩
          have hO := hO x20 hx20
          refine r_iinc hC x20 0 [(2, .int x20), (0, .ref (mw_a G b)), (1, .ref (mw_a G d1))] dX2_lieAs_80 rfl (by rw [hx20]; rfl) (by decide) rfl ?_
          refine r_goto hC 18 dX2_lieAs_83 (by decide) ?_
          refine r_lv hC [(2, .int x20), (0, .ref (mw_a G b)), (1, .ref (mw_a G d1))] [0, 1, 2] rfl ?_
          exact ihn5 x20 μ19 hO
  obtain ⟨n5, hO⟩ := hO
  refine hLn5   n5 _ _ hO
set_option maxHeartbeats 4000000 in
set_option maxRecDepth 100000 in
theorem T2_drawn {l : Launch} {G : mw_G} {p1 : Int32} {μ : mw_M} {Q : Int32 → Prop}  (hO : P2_drawn p1 Q) : mw_Mi l G kdX yX2_drawn cX2_drawn 1 (some .int) 0 0 [.int p1] μ (mw_pq μ Q) := by
  refine mw_enter [(0, .int p1)] RX2 (by decide) rfl (Nat.le_of_ble_eq_true rfl) rfl ?_
  intro p e s m args below meth c hC
  unfold P2_drawn at hO
  refine r_iload_n hC 0 dX2_drawn_0 rfl rfl ?_
  refine r_ldc hC kc2_49 dX2_drawn_1 ?_
  refine r_imul hC dX2_drawn_3 ?_
  refine r_sipush hC 12345 dX2_drawn_4 (by decide) ?_
  refine r_iadd hC dX2_drawn_7 ?_
  exact r_iret hC rfl dX2_drawn_8 ⟨hO, rfl⟩
set_option maxHeartbeats 4000000 in
set_option maxRecDepth 100000 in
theorem T2_tumble {l : Launch} {G : mw_G} {b : Nat} {p1 : Int32} {μ : mw_M} {Q : Int32 → mw_M → Prop} (hb : kdX[b]? = some (.inl (2, dsX2 b))) (hO : P2_tumble b p1 μ Q) : mw_Mi l G kdX yX2_tumble cX2_tumble 4 (some .int) 1 20 [.ref (mw_a G b), .int p1] μ (Q) := by
  refine mw_enter [(0, .ref (mw_a G b)), (1, .int p1)] RX2 (by decide) rfl (Nat.le_of_ble_eq_true rfl) rfl ?_
  intro p e s m args below meth c hC
  unfold P2_tumble at hO
  refine r_iload_n hC 1 dX2_tumble_0 rfl rfl ?_
  refine r_istore_n hC [(2, .int p1), (0, .ref (mw_a G b)), (1, .int p1)] dX2_tumble_1 rfl (by decide) rfl ?_
  refine r_iconst hC 0 dX2_tumble_2 (by decide) ?_
  refine r_istore_n hC [(3, .int 0), (2, .int p1), (0, .ref (mw_a G b)), (1, .int p1)] dX2_tumble_3 rfl (by decide) rfl ?_
  have hLn4 : ∀   (n4 : Nat) (v1 : Int32) (v2 : Int32) (μ3 : mw_M), L2_tumble_4 b p1 Q n4 v1 v2 μ3 → mw_W p l e (mw_rm 1 20) s m args below meth c G kdX 4 (MQ below (va_Qi (Q) (mw_B G kdX) (mw_A G kdX)) args s 0 0 (mw_A G kdX)) 4 [(3, .int v1), (2, .int v2), (0, .ref (mw_a G b)), (1, .int p1)] [] μ3 := by
    intro   n4
    induction n4 with
    | zero => intro v1 v2 μ3 hO; exact False.elim hO
    | succ n4 ihn4 =>
      intro v1 v2 μ3 hO
      refine r_iload_n hC 0 dX2_tumble_4 rfl rfl ?_
      refine r_aload_n hC 2 dX2_tumble_5 rfl rfl ?_
      refine r_getI hC fl2_34 hb rfl dX2_tumble_6 ?_
      refine r_icmp_ge hC 36 dX2_tumble_9 (by decide) (fun h5 => ?_) (fun h5 => ?_)
      · have hO := hO.1 h5
        refine r_iload_n hC 1 dX2_tumble_36 rfl rfl ?_
        exact r_iret hC rfl dX2_tumble_37 hO
      · have hO := hO.2 h5
        refine r_iload_n hC 1 dX2_tumble_12 rfl rfl ?_
        refine r_callSi hC [.int v2] (T2_drawn  hO) yv2_drawn ml2_45 ⟨Nat.le_of_ble_eq_true rfl, Nat.le_of_ble_eq_true rfl⟩ rfl rfl (Nat.le_of_ble_eq_true rfl) dX2_tumble_13 (fun r6 μ7 hO => ?_)
        obtain ⟨hO, hm⟩ := hO
        refine r_memEq hm ?_
        refine r_istore_n hC [(2, .int r6), (3, .int v1), (0, .ref (mw_a G b)), (1, .int p1)] dX2_tumble_16 rfl (by decide) rfl ?_
        refine r_aload_n hC 2 dX2_tumble_17 rfl rfl ?_
        refine r_getR hC (b + 3) fl2_18 hb rfl dX2_tumble_18 ?_
        refine r_iload_n hC 1 dX2_tumble_21 rfl rfl ?_
        refine r_iload_n hC 0 dX2_tumble_22 rfl rfl ?_
        refine r_bipush hC 8 dX2_tumble_23 (by decide) ?_
        refine r_iushr hC dX2_tumble_25 ?_
        refine r_bipush hC 12 dX2_tumble_26 (by decide) ?_
        refine r_irem hC dX2_tumble_28 (by decide) ?_
        obtain ⟨g8, hO⟩ := hO
        refine r_iast hC (sh2_2 hb) g8 v1.toNatClampNeg rfl dX2_tumble_29 ?_
        refine r_nmM (fun μ9 hμ9 => ?_)
        have hO := hO μ9 hμ9
        obtain ⟨x10, hx10⟩ : ∃ y : Int32, y = v1 + 1 := ⟨_, rfl⟩
        have hO := hO x10 hx10
        refine r_iinc hC x10 1 [(3, .int x10), (2, .int r6), (0, .ref (mw_a G b)), (1, .int p1)] dX2_tumble_30 rfl (by rw [hx10]; rfl) (by decide) rfl ?_
        refine r_goto hC 4 dX2_tumble_33 (by decide) ?_
        refine r_lv hC [(3, .int x10), (2, .int r6), (0, .ref (mw_a G b)), (1, .int p1)] [0, 1, 2, 3] rfl ?_
        exact ihn4 x10 r6 μ9 hO
  obtain ⟨n4, hO⟩ := hO
  refine hLn4   n4 _ _ _ hO
set_option maxHeartbeats 4000000 in
set_option maxRecDepth 100000 in
theorem T2_across {l : Launch} {G : mw_G} {b : Nat} {μ : mw_M} {Q : Int32 → Prop} (hb : kdX[b]? = some (.inl (2, dsX2 b))) (hO : P2_across b μ Q) : mw_Mi l G kdX yX2_across cX2_across 3 (some .int) 1 20 [.ref (mw_a G b)] μ (mw_pq μ Q) := by
  refine mw_enter [(0, .ref (mw_a G b))] RX2 (by decide) rfl (Nat.le_of_ble_eq_true rfl) rfl ?_
  intro p e s m args below meth c hC
  unfold P2_across at hO
  refine r_aload_n hC 0 dX2_across_0 rfl rfl ?_
  refine r_getI hC fl2_38 hb rfl dX2_across_1 ?_
  refine r_bipush hC 100 dX2_across_4 (by decide) ?_
  refine r_idiv hC dX2_across_6 (by decide) ?_
  refine r_aload_n hC 0 dX2_across_7 rfl rfl ?_
  refine r_getI hC fl2_38 hb rfl dX2_across_8 ?_
  refine r_bipush hC 100 dX2_across_11 (by decide) ?_
  refine r_irem hC dX2_across_13 (by decide) ?_
  refine r_callSi hC [.int (mw_rem (μ.1 b 5) 100)] (T2_cosine  hO) yv2_cosine ml2_50 ⟨Nat.le_of_ble_eq_true rfl, Nat.le_of_ble_eq_true rfl⟩ rfl rfl (Nat.le_of_ble_eq_true rfl) dX2_across_14 (fun r1 μ2 hO => ?_)
  obtain ⟨hO, hm⟩ := hO
  refine r_memEq hm ?_
  refine r_imul hC dX2_across_17 ?_
  refine r_bipush hC 10 dX2_across_18 (by decide) ?_
  refine r_idiv hC dX2_across_20 (by decide) ?_
  refine r_nmI (fun x3 hx3 => ?_)
  have hO := hO x3 hx3
  refine r_istore_n hC [(1, .int x3), (0, .ref (mw_a G b))] dX2_across_21 rfl (by decide) rfl ?_
  refine r_iconst hC 0 dX2_across_22 (by decide) ?_
  refine r_istore_n hC [(2, .int 0), (1, .int x3), (0, .ref (mw_a G b))] dX2_across_23 rfl (by decide) rfl ?_
  have hLn6 : ∀   (n6 : Nat) (v4 : Int32) (v5 : Int32), L2_across_24 b μ Q n6 v4 v5 → mw_W p l e (mw_rm 1 20) s m args below meth c G kdX 3 (MQ below (va_Qi (mw_pq μ Q) (mw_B G kdX) (mw_A G kdX)) args s 0 0 (mw_A G kdX)) 24 [(2, .int v4), (1, .int v5), (0, .ref (mw_a G b))] [] μ := by
    intro   n6
    induction n6 with
    | zero => intro v4 v5 hO; exact False.elim hO
    | succ n6 ihn6 =>
      intro v4 v5 hO
      refine r_iload_n hC 0 dX2_across_24 rfl rfl ?_
      refine r_aload_n hC 2 dX2_across_25 rfl rfl ?_
      refine r_getI hC fl2_34 hb rfl dX2_across_26 ?_
      refine r_icmp_ge hC 67 dX2_across_29 (by decide) (fun h7 => ?_) (fun h7 => ?_)
      · have hO := hO.1 h7
        refine r_iload_n hC 1 dX2_across_67 rfl rfl ?_
        exact r_iret hC rfl dX2_across_68 ⟨hO, rfl⟩
      · have hO := hO.2 h7
        refine r_iload_n hC 1 dX2_across_32 rfl rfl ?_
        refine r_aload_n hC 2 dX2_across_33 rfl rfl ?_
        refine r_getR hC (b + 1) fl2_11 hb rfl dX2_across_34 ?_
        refine r_iload_n hC 0 dX2_across_37 rfl rfl ?_
        obtain ⟨g8, hO⟩ := hO
        refine r_iald hC (sh2_0 hb) g8 v4.toNatClampNeg rfl dX2_across_38 ?_
        refine r_aload_n hC 2 dX2_across_39 rfl rfl ?_
        refine r_getR hC (b + 2) fl2_15 hb rfl dX2_across_40 ?_
        refine r_iload_n hC 0 dX2_across_43 rfl rfl ?_
        obtain ⟨g9, hO⟩ := hO
        refine r_iald hC (sh2_1 hb) g9 v4.toNatClampNeg rfl dX2_across_44 ?_
        refine r_iadd hC dX2_across_45 ?_
        refine r_aload_n hC 2 dX2_across_46 rfl rfl ?_
        refine r_getR hC (b + 3) fl2_18 hb rfl dX2_across_47 ?_
        refine r_iload_n hC 0 dX2_across_50 rfl rfl ?_
        obtain ⟨g10, hO⟩ := hO
        refine r_iald hC (sh2_2 hb) g10 v4.toNatClampNeg rfl dX2_across_51 ?_
        refine r_callSi hC [.int (μ.1 (b + 3) v4.toNatClampNeg)] (T2_cosine  hO) yv2_cosine ml2_50 ⟨Nat.le_of_ble_eq_true rfl, Nat.le_of_ble_eq_true rfl⟩ rfl rfl (Nat.le_of_ble_eq_true rfl) dX2_across_52 (fun r11 μ12 hO => ?_)
        obtain ⟨hO, hm⟩ := hO
        refine r_memEq hm ?_
        refine r_imul hC dX2_across_55 ?_
        refine r_bipush hC 10 dX2_across_56 (by decide) ?_
        refine r_idiv hC dX2_across_58 (by decide) ?_
        refine r_iadd hC dX2_across_59 ?_
        refine r_nmI (fun x13 hx13 => ?_)
        have hO := hO x13 hx13
        refine r_istore_n hC [(1, .int x13), (2, .int v4), (0, .ref (mw_a G b))] dX2_across_60 rfl (by decide) rfl ?_
        obtain ⟨x14, hx14⟩ : ∃ y : Int32, y = v4 + 1 := ⟨_, rfl⟩
        have hO := hO x14 hx14
        refine r_iinc hC x14 1 [(2, .int x14), (1, .int x13), (0, .ref (mw_a G b))] dX2_across_61 rfl (by rw [hx14]; rfl) (by decide) rfl ?_
        refine r_goto hC 24 dX2_across_64 (by decide) ?_
        refine r_lv hC [(2, .int x14), (1, .int x13), (0, .ref (mw_a G b))] [0, 1, 2] rfl ?_
        exact ihn6 x14 x13 hO
  obtain ⟨n6, hO⟩ := hO
  refine hLn6   n6 _ _ hO
set_option maxHeartbeats 4000000 in
set_option maxRecDepth 100000 in
theorem T2_along {l : Launch} {G : mw_G} {b : Nat} {μ : mw_M} {Q : Int32 → Prop} (hb : kdX[b]? = some (.inl (2, dsX2 b))) (hO : P2_along b μ Q) : mw_Mi l G kdX yX2_along cX2_along 3 (some .int) 1 20 [.ref (mw_a G b)] μ (mw_pq μ Q) := by
  refine mw_enter [(0, .ref (mw_a G b))] RX2 (by decide) rfl (Nat.le_of_ble_eq_true rfl) rfl ?_
  intro p e s m args below meth c hC
  unfold P2_along at hO
  refine r_aload_n hC 0 dX2_along_0 rfl rfl ?_
  refine r_getI hC fl2_38 hb rfl dX2_along_1 ?_
  refine r_bipush hC 100 dX2_along_4 (by decide) ?_
  refine r_idiv hC dX2_along_6 (by decide) ?_
  refine r_aload_n hC 0 dX2_along_7 rfl rfl ?_
  refine r_getI hC fl2_38 hb rfl dX2_along_8 ?_
  refine r_bipush hC 100 dX2_along_11 (by decide) ?_
  refine r_irem hC dX2_along_13 (by decide) ?_
  refine r_callSi hC [.int (mw_rem (μ.1 b 5) 100)] (T2_sine  hO) yv2_sine ml2_53 ⟨Nat.le_of_ble_eq_true rfl, Nat.le_of_ble_eq_true rfl⟩ rfl rfl (Nat.le_of_ble_eq_true rfl) dX2_along_14 (fun r1 μ2 hO => ?_)
  obtain ⟨hO, hm⟩ := hO
  refine r_memEq hm ?_
  refine r_imul hC dX2_along_17 ?_
  refine r_bipush hC 10 dX2_along_18 (by decide) ?_
  refine r_idiv hC dX2_along_20 (by decide) ?_
  refine r_nmI (fun x3 hx3 => ?_)
  have hO := hO x3 hx3
  refine r_istore_n hC [(1, .int x3), (0, .ref (mw_a G b))] dX2_along_21 rfl (by decide) rfl ?_
  refine r_iconst hC 0 dX2_along_22 (by decide) ?_
  refine r_istore_n hC [(2, .int 0), (1, .int x3), (0, .ref (mw_a G b))] dX2_along_23 rfl (by decide) rfl ?_
  have hLn6 : ∀   (n6 : Nat) (v4 : Int32) (v5 : Int32), L2_along_24 b μ Q n6 v4 v5 → mw_W p l e (mw_rm 1 20) s m args below meth c G kdX 3 (MQ below (va_Qi (mw_pq μ Q) (mw_B G kdX) (mw_A G kdX)) args s 0 0 (mw_A G kdX)) 24 [(2, .int v4), (1, .int v5), (0, .ref (mw_a G b))] [] μ := by
    intro   n6
    induction n6 with
    | zero => intro v4 v5 hO; exact False.elim hO
    | succ n6 ihn6 =>
      intro v4 v5 hO
      refine r_iload_n hC 0 dX2_along_24 rfl rfl ?_
      refine r_aload_n hC 2 dX2_along_25 rfl rfl ?_
      refine r_getI hC fl2_34 hb rfl dX2_along_26 ?_
      refine r_icmp_ge hC 67 dX2_along_29 (by decide) (fun h7 => ?_) (fun h7 => ?_)
      · have hO := hO.1 h7
        refine r_iload_n hC 1 dX2_along_67 rfl rfl ?_
        exact r_iret hC rfl dX2_along_68 ⟨hO, rfl⟩
      · have hO := hO.2 h7
        refine r_iload_n hC 1 dX2_along_32 rfl rfl ?_
        refine r_aload_n hC 2 dX2_along_33 rfl rfl ?_
        refine r_getR hC (b + 1) fl2_11 hb rfl dX2_along_34 ?_
        refine r_iload_n hC 0 dX2_along_37 rfl rfl ?_
        obtain ⟨g8, hO⟩ := hO
        refine r_iald hC (sh2_0 hb) g8 v4.toNatClampNeg rfl dX2_along_38 ?_
        refine r_aload_n hC 2 dX2_along_39 rfl rfl ?_
        refine r_getR hC (b + 2) fl2_15 hb rfl dX2_along_40 ?_
        refine r_iload_n hC 0 dX2_along_43 rfl rfl ?_
        obtain ⟨g9, hO⟩ := hO
        refine r_iald hC (sh2_1 hb) g9 v4.toNatClampNeg rfl dX2_along_44 ?_
        refine r_iadd hC dX2_along_45 ?_
        refine r_aload_n hC 2 dX2_along_46 rfl rfl ?_
        refine r_getR hC (b + 3) fl2_18 hb rfl dX2_along_47 ?_
        refine r_iload_n hC 0 dX2_along_50 rfl rfl ?_
        obtain ⟨g10, hO⟩ := hO
        refine r_iald hC (sh2_2 hb) g10 v4.toNatClampNeg rfl dX2_along_51 ?_
        refine r_callSi hC [.int (μ.1 (b + 3) v4.toNatClampNeg)] (T2_sine  hO) yv2_sine ml2_53 ⟨Nat.le_of_ble_eq_true rfl, Nat.le_of_ble_eq_true rfl⟩ rfl rfl (Nat.le_of_ble_eq_true rfl) dX2_along_52 (fun r11 μ12 hO => ?_)
        obtain ⟨hO, hm⟩ := hO
        refine r_memEq hm ?_
        refine r_imul hC dX2_along_55 ?_
        refine r_bipush hC 10 dX2_along_56 (by decide) ?_
        refine r_idiv hC dX2_along_58 (by decide) ?_
        refine r_iadd hC dX2_along_59 ?_
        refine r_nmI (fun x13 hx13 => ?_)
        have hO := hO x13 hx13
        refine r_istore_n hC [(1, .int x13), (2, .int v4), (0, .ref (mw_a G b))] dX2_along_60 rfl (by decide) rfl ?_
        obtain ⟨x14, hx14⟩ : ∃ y : Int32, y = v4 + 1 := ⟨_, rfl⟩
        have hO := hO x14 hx14
        refine r_iinc hC x14 1 [(2, .int x14), (1, .int x13), (0, .ref (mw_a G b))] dX2_along_61 rfl (by rw [hx14]; rfl) (by decide) rfl ?_
        refine r_goto hC 24 dX2_along_64 (by decide) ?_
        refine r_lv hC [(2, .int x14), (1, .int x13), (0, .ref (mw_a G b))] [0, 1, 2] rfl ?_
        exact ihn6 x14 x13 hO
  obtain ⟨n6, hO⟩ := hO
  refine hLn6   n6 _ _ hO
set_option maxHeartbeats 4000000 in
set_option maxRecDepth 100000 in
theorem T2_lopsidedBy {l : Launch} {G : mw_G} {p1 : Int32} {p2 : Int32} {μ : mw_M} {Q : Int32 → Prop}  (hO : P2_lopsidedBy p1 p2 Q) : mw_Mi l G kdX yX2_lopsidedBy cX2_lopsidedBy 4 (some .int) 1 40 [.int p1, .int p2] μ (mw_pq μ Q) := by
  refine mw_enter [(0, .int p1), (1, .int p2)] RX2 (by decide) rfl (Nat.le_of_ble_eq_true rfl) rfl ?_
  intro p e s m args below meth c hC
  unfold P2_lopsidedBy at hO
  refine r_iload_n hC 0 dX2_lopsidedBy_0 rfl rfl ?_
  refine r_abs hC mm2_67 (Nat.le_of_ble_eq_true rfl) (Nat.le_of_ble_eq_true rfl) dX2_lopsidedBy_1 ?_
  refine r_iload_n hC 1 dX2_lopsidedBy_4 rfl rfl ?_
  refine r_abs hC mm2_67 (Nat.le_of_ble_eq_true rfl) (Nat.le_of_ble_eq_true rfl) dX2_lopsidedBy_5 ?_
  refine r_max hC mm2_72 (Nat.le_of_ble_eq_true rfl) (Nat.le_of_ble_eq_true rfl) dX2_lopsidedBy_8 ?_
  refine r_nmI (fun x1 hx1 => ?_)
  have hO := hO x1 hx1
  refine r_istore_n hC [(2, .int x1), (0, .int p1), (1, .int p2)] dX2_lopsidedBy_11 rfl (by decide) rfl ?_
  refine r_iload_n hC 1 dX2_lopsidedBy_12 rfl rfl ?_
  refine r_abs hC mm2_67 (Nat.le_of_ble_eq_true rfl) (Nat.le_of_ble_eq_true rfl) dX2_lopsidedBy_13 ?_
  refine r_iload_n hC 2 dX2_lopsidedBy_16 rfl rfl ?_
  refine r_abs hC mm2_67 (Nat.le_of_ble_eq_true rfl) (Nat.le_of_ble_eq_true rfl) dX2_lopsidedBy_17 ?_
  refine r_min hC mm2_75 (Nat.le_of_ble_eq_true rfl) (Nat.le_of_ble_eq_true rfl) dX2_lopsidedBy_20 ?_
  refine r_nmI (fun x2 hx2 => ?_)
  have hO := hO x2 hx2
  refine r_istore_n hC [(3, .int x2), (2, .int x1), (0, .int p1), (1, .int p2)] dX2_lopsidedBy_23 rfl (by decide) rfl ?_
  refine r_iload_n hC 1 dX2_lopsidedBy_24 rfl rfl ?_
  refine r_iconst hC 3 dX2_lopsidedBy_25 (by decide) ?_
  refine r_iload_n hC 0 dX2_lopsidedBy_26 rfl rfl ?_
  refine r_imul hC dX2_lopsidedBy_27 ?_
  refine r_bipush hC 8 dX2_lopsidedBy_28 (by decide) ?_
  refine r_idiv hC dX2_lopsidedBy_30 (by decide) ?_
  refine r_iadd hC dX2_lopsidedBy_31 ?_
  refine r_bipush hC 100 dX2_lopsidedBy_32 (by decide) ?_
  refine r_idiv hC dX2_lopsidedBy_34 (by decide) ?_
  exact r_iret hC rfl dX2_lopsidedBy_35 ⟨hO, rfl⟩
set_option maxHeartbeats 4000000 in
set_option maxRecDepth 100000 in
theorem T2_lopsided {l : Launch} {G : mw_G} {b : Nat} {μ : mw_M} {Q : Int32 → Prop} (hb : kdX[b]? = some (.inl (2, dsX2 b))) (hO : P2_lopsided b μ Q) : mw_Mi l G kdX yX2_lopsided cX2_lopsided 1 (some .int) 2 63 [.ref (mw_a G b)] μ (mw_pq μ Q) := by
  refine mw_enter [(0, .ref (mw_a G b))] RX2 (by decide) rfl (Nat.le_of_ble_eq_true rfl) rfl ?_
  intro p e s m args below meth c hC
  unfold P2_lopsided at hO
  refine r_aload_n hC 0 dX2_lopsided_0 rfl rfl ?_
  refine r_callVi hC [] (T2_across hb hO) yv2_across ml2_56 hb rfl ⟨Nat.le_of_ble_eq_true rfl, Nat.le_of_ble_eq_true rfl⟩ rfl rfl (Nat.le_of_ble_eq_true rfl) dX2_lopsided_1 (fun r1 μ2 hO => ?_)
  obtain ⟨hO, hm⟩ := hO
  refine r_memEq hm ?_
  refine r_aload_n hC 0 dX2_lopsided_4 rfl rfl ?_
  refine r_callVi hC [] (T2_along hb hO) yv2_along ml2_60 hb rfl ⟨Nat.le_of_ble_eq_true rfl, Nat.le_of_ble_eq_true rfl⟩ rfl rfl (Nat.le_of_ble_eq_true rfl) dX2_lopsided_5 (fun r3 μ4 hO => ?_)
  obtain ⟨hO, hm⟩ := hO
  refine r_memEq hm ?_
  refine r_callSi hC [.int r1, .int r3] (T2_lopsidedBy  hO) yv2_lopsidedBy ml2_63 ⟨Nat.le_of_ble_eq_true rfl, Nat.le_of_ble_eq_true rfl⟩ rfl rfl (Nat.le_of_ble_eq_true rfl) dX2_lopsided_8 (fun r5 μ6 hO => ?_)
  obtain ⟨hO, hm⟩ := hO
  refine r_memEq hm ?_
  exact r_iret hC rfl dX2_lopsided_11 ⟨hO, rfl⟩
set_option maxHeartbeats 4000000 in
set_option maxRecDepth 100000 in
theorem T2_side {l : Launch} {G : mw_G} {b : Nat} {μ : mw_M} {Q : Int32 → Prop} (hb : kdX[b]? = some (.inl (2, dsX2 b))) (hO : P2_side b μ Q) : mw_Mi l G kdX yX2_side cX2_side 5 (some .int) 2 42 [.ref (mw_a G b)] μ (mw_pq μ Q) := by
  refine mw_enter [(0, .ref (mw_a G b))] RX2 (by decide) rfl (Nat.le_of_ble_eq_true rfl) rfl ?_
  intro p e s m args below meth c hC
  unfold P2_side at hO
  refine r_aload_n hC 0 dX2_side_0 rfl rfl ?_
  refine r_callVi hC [] (T2_across hb hO) yv2_across ml2_56 hb rfl ⟨Nat.le_of_ble_eq_true rfl, Nat.le_of_ble_eq_true rfl⟩ rfl rfl (Nat.le_of_ble_eq_true rfl) dX2_side_1 (fun r1 μ2 hO => ?_)
  obtain ⟨hO, hm⟩ := hO
  refine r_memEq hm ?_
  refine r_istore_n hC [(1, .int r1), (0, .ref (mw_a G b))] dX2_side_4 rfl (by decide) rfl ?_
  refine r_aload_n hC 1 dX2_side_5 rfl rfl ?_
  refine r_callVi hC [] (T2_along hb hO) yv2_along ml2_60 hb rfl ⟨Nat.le_of_ble_eq_true rfl, Nat.le_of_ble_eq_true rfl⟩ rfl rfl (Nat.le_of_ble_eq_true rfl) dX2_side_6 (fun r3 μ4 hO => ?_)
  obtain ⟨hO, hm⟩ := hO
  refine r_memEq hm ?_
  refine r_istore_n hC [(2, .int r3), (1, .int r1), (0, .ref (mw_a G b))] dX2_side_9 rfl (by decide) rfl ?_
  refine r_iconst hC 0 dX2_side_10 (by decide) ?_
  refine r_istore_n hC [(3, .int 0), (2, .int r3), (1, .int r1), (0, .ref (mw_a G b))] dX2_side_11 rfl (by decide) rfl ?_
  refine r_iconst hC 1 dX2_side_12 (by decide) ?_
  refine r_istore hC [(4, .int 1), (3, .int 0), (2, .int r3), (1, .int r1), (0, .ref (mw_a G b))] dX2_side_13 (by decide) rfl ?_
  have hLn7 : ∀   (n7 : Nat) (v5 : Int32) (v6 : Int32), L2_side_15 r3 r1 b μ Q n7 v5 v6 → mw_W p l e (mw_rm 2 42) s m args below meth c G kdX 5 (MQ below (va_Qi (mw_pq μ Q) (mw_B G kdX) (mw_A G kdX)) args s 0 0 (mw_A G kdX)) 15 [(4, .int v5), (3, .int v6), (2, .int r3), (1, .int r1), (0, .ref (mw_a G b))] [] μ := by
    intro   n7
    induction n7 with
    | zero => intro v5 v6 hO; exact False.elim hO
    | succ n7 ihn7 =>
      intro v5 v6 hO
      refine r_iload hC 0 dX2_side_15 rfl ?_
      refine r_bipush hC 12 dX2_side_17 (by decide) ?_
      refine r_icmp_ge hC 62 dX2_side_19 (by decide) (fun h8 => ?_) (fun h8 => ?_)
      · have hO := hO.1 h8
        refine r_iload_n hC 1 dX2_side_62 rfl rfl ?_
        exact r_iret hC rfl dX2_side_63 ⟨hO, rfl⟩
      · have hO := hO.2 h8
        refine r_iload_n hC 3 dX2_side_22 rfl rfl ?_
        refine r_iload hC 0 dX2_side_23 rfl ?_
        refine r_callSi hC [.int v5] (T2_cosine  hO) yv2_cosine ml2_50 ⟨Nat.le_of_ble_eq_true rfl, Nat.le_of_ble_eq_true rfl⟩ rfl rfl (Nat.le_of_ble_eq_true rfl) dX2_side_25 (fun r9 μ10 hO => ?_)
        obtain ⟨hO, hm⟩ := hO
        refine r_memEq hm ?_
        refine r_imul hC dX2_side_28 ?_
        refine r_iload_n hC 2 dX2_side_29 rfl rfl ?_
        refine r_iload hC 0 dX2_side_30 rfl ?_
        refine r_callSi hC [.int v5] (T2_sine  hO) yv2_sine ml2_53 ⟨Nat.le_of_ble_eq_true rfl, Nat.le_of_ble_eq_true rfl⟩ rfl rfl (Nat.le_of_ble_eq_true rfl) dX2_side_32 (fun r11 μ12 hO => ?_)
        obtain ⟨hO, hm⟩ := hO
        refine r_memEq hm ?_
        refine r_imul hC dX2_side_35 ?_
        refine r_iadd hC dX2_side_36 ?_
        refine r_iload_n hC 3 dX2_side_37 rfl rfl ?_
        refine r_iload_n hC 1 dX2_side_38 rfl rfl ?_
        refine r_callSi hC [.int v6] (T2_cosine  hO) yv2_cosine ml2_50 ⟨Nat.le_of_ble_eq_true rfl, Nat.le_of_ble_eq_true rfl⟩ rfl rfl (Nat.le_of_ble_eq_true rfl) dX2_side_39 (fun r13 μ14 hO => ?_)
        obtain ⟨hO, hm⟩ := hO
        refine r_memEq hm ?_
        refine r_imul hC dX2_side_42 ?_
        refine r_iload_n hC 2 dX2_side_43 rfl rfl ?_
        refine r_iload_n hC 1 dX2_side_44 rfl rfl ?_
        refine r_callSi hC [.int v6] (T2_sine  hO) yv2_sine ml2_53 ⟨Nat.le_of_ble_eq_true rfl, Nat.le_of_ble_eq_true rfl⟩ rfl rfl (Nat.le_of_ble_eq_true rfl) dX2_side_45 (fun r15 μ16 hO => ?_)
        obtain ⟨hO, hm⟩ := hO
        refine r_memEq hm ?_
        refine r_imul hC dX2_side_48 ?_
        refine r_iadd hC dX2_side_49 ?_
        refine r_icmp_le hC 56 dX2_side_50 (by decide) (fun h17 => ?_) (fun h17 => ?_)
        · have hO := hO.1 h17
          obtain ⟨x18, hx18⟩ : ∃ y : Int32, y = v5 + 1 := ⟨_, rfl⟩
          have hO := hO x18 hx18
          refine r_iinc hC x18 0 [(4, .int x18), (3, .int v6), (2, .int r3), (1, .int r1), (0, .ref (mw_a G b))] dX2_side_56 rfl (by rw [hx18]; rfl) (by decide) rfl ?_
          refine r_goto hC 15 dX2_side_59 (by decide) ?_
          refine r_lv hC [(4, .int x18), (3, .int v6), (2, .int r3), (1, .int r1), (0, .ref (mw_a G b))] [0, 1, 2, 3, 4] rfl ?_
          exact ihn7 x18 v6 hO
        · have hO := hO.2 h17
          refine r_iload hC 0 dX2_side_53 rfl ?_
          refine r_istore_n hC [(3, .int v5), (4, .int v5), (2, .int r3), (1, .int r1), (0, .ref (mw_a G b))] dX2_side_55 rfl (by decide) rfl ?_
          obtain ⟨x19, hx19⟩ : ∃ y : Int32, y = v5 + 1 := ⟨_, rfl⟩
          have hO := hO x19 hx19
          refine r_iinc hC x19 1 [(4, .int x19), (3, .int v5), (2, .int r3), (1, .int r1), (0, .ref (mw_a G b))] dX2_side_56 rfl (by rw [hx19]; rfl) (by decide) rfl ?_
          refine r_goto hC 15 dX2_side_59 (by decide) ?_
          refine r_lv hC [(4, .int x19), (3, .int v5), (2, .int r3), (1, .int r1), (0, .ref (mw_a G b))] [0, 1, 2, 3, 4] rfl ?_
          exact ihn7 x19 v5 hO
  obtain ⟨n7, hO⟩ := hO
  refine hLn7   n7 _ _ hO
set_option maxHeartbeats 4000000 in
set_option maxRecDepth 100000 in
theorem T2_wetOfAll {l : Launch} {G : mw_G} {b : Nat} {μ : mw_M} {Q : Int32 → Prop} (hb : kdX[b]? = some (.inl (2, dsX2 b))) (hO : P2_wetOfAll b μ Q) : mw_Mi l G kdX yX2_wetOfAll cX2_wetOfAll 3 (some .int) 0 0 [.ref (mw_a G b)] μ (mw_pq μ Q) := by
  refine mw_enter [(0, .ref (mw_a G b))] RX2 (by decide) rfl (Nat.le_of_ble_eq_true rfl) rfl ?_
  intro p e s m args below meth c hC
  unfold P2_wetOfAll at hO
  refine r_iconst hC 0 dX2_wetOfAll_0 (by decide) ?_
  refine r_istore_n hC [(1, .int 0), (0, .ref (mw_a G b))] dX2_wetOfAll_1 rfl (by decide) rfl ?_
  refine r_iconst hC 0 dX2_wetOfAll_2 (by decide) ?_
  refine r_istore_n hC [(2, .int 0), (1, .int 0), (0, .ref (mw_a G b))] dX2_wetOfAll_3 rfl (by decide) rfl ?_
  have hLn3 : ∀   (n3 : Nat) (v1 : Int32) (v2 : Int32), L2_wetOfAll_4 b μ Q n3 v1 v2 → mw_W p l e (mw_rm 0 0) s m args below meth c G kdX 3 (MQ below (va_Qi (mw_pq μ Q) (mw_B G kdX) (mw_A G kdX)) args s 0 0 (mw_A G kdX)) 4 [(2, .int v1), (1, .int v2), (0, .ref (mw_a G b))] [] μ := by
    intro   n3
    induction n3 with
    | zero => intro v1 v2 hO; exact False.elim hO
    | succ n3 ihn3 =>
      intro v1 v2 hO
      refine r_iload_n hC 0 dX2_wetOfAll_4 rfl rfl ?_
      refine r_aload_n hC 2 dX2_wetOfAll_5 rfl rfl ?_
      refine r_getI hC fl2_34 hb rfl dX2_wetOfAll_6 ?_
      refine r_icmp_ge hC 27 dX2_wetOfAll_9 (by decide) (fun h4 => ?_) (fun h4 => ?_)
      · have hO := hO.1 h4
        refine r_iload_n hC 1 dX2_wetOfAll_27 rfl rfl ?_
        exact r_iret hC rfl dX2_wetOfAll_28 ⟨hO, rfl⟩
      · have hO := hO.2 h4
        refine r_iload_n hC 1 dX2_wetOfAll_12 rfl rfl ?_
        refine r_aload_n hC 2 dX2_wetOfAll_13 rfl rfl ?_
        refine r_getR hC (b + 2) fl2_15 hb rfl dX2_wetOfAll_14 ?_
        refine r_iload_n hC 0 dX2_wetOfAll_17 rfl rfl ?_
        obtain ⟨g5, hO⟩ := hO
        refine r_iald hC (sh2_1 hb) g5 v1.toNatClampNeg rfl dX2_wetOfAll_18 ?_
        refine r_iadd hC dX2_wetOfAll_19 ?_
        refine r_nmI (fun x6 hx6 => ?_)
        have hO := hO x6 hx6
        refine r_istore_n hC [(1, .int x6), (2, .int v1), (0, .ref (mw_a G b))] dX2_wetOfAll_20 rfl (by decide) rfl ?_
        obtain ⟨x7, hx7⟩ : ∃ y : Int32, y = v1 + 1 := ⟨_, rfl⟩
        have hO := hO x7 hx7
        refine r_iinc hC x7 1 [(2, .int x7), (1, .int x6), (0, .ref (mw_a G b))] dX2_wetOfAll_21 rfl (by rw [hx7]; rfl) (by decide) rfl ?_
        refine r_goto hC 4 dX2_wetOfAll_24 (by decide) ?_
        refine r_lv hC [(2, .int x7), (1, .int x6), (0, .ref (mw_a G b))] [0, 1, 2] rfl ?_
        exact ihn3 x7 x6 hO
  obtain ⟨n3, hO⟩ := hO
  refine hLn3   n3 _ _ hO
set_option maxHeartbeats 4000000 in
set_option maxRecDepth 100000 in
theorem T3_nameOf {l : Launch} {G : mw_G} {p1 : Int32} {μ : mw_M} {Q : Int32 → Prop}  (hO : P3_nameOf p1 Q) : mw_Mi l G kdX yX3_nameOf cX3_nameOf 1 (some .int) 0 0 [.int p1] μ (mw_pq μ Q) := by
  refine mw_enter [(0, .int p1)] RX3 (by decide) rfl (Nat.le_of_ble_eq_true rfl) rfl ?_
  intro p e s m args below meth c hC
  unfold P3_nameOf at hO
  refine r_iload_n hC 0 dX3_nameOf_0 rfl rfl ?_
  by_cases h1 : p1 = 99
  · have hO := hO.1 h1
    refine r_tin hC 118 dX3_nameOf_1 (by rw [h1]; decide) (by rw [h1]; decide) (by rw [h1] <;> rfl) (by decide) ?_
    refine r_bipush hC 8 dX3_nameOf_118 (by decide) ?_
    exact r_iret hC rfl dX3_nameOf_120 ⟨hO, rfl⟩
  by_cases h2 : p1 = 100
  · have hO := hO.2.1 h2
    refine r_tin hC 110 dX3_nameOf_1 (by rw [h2]; decide) (by rw [h2]; decide) (by rw [h2] <;> rfl) (by decide) ?_
    refine r_iconst hC 5 dX3_nameOf_110 (by decide) ?_
    exact r_iret hC rfl dX3_nameOf_111 ⟨hO, rfl⟩
  by_cases h3 : p1 = 103
  · have hO := hO.2.2.1 h3
    refine r_tin hC 112 dX3_nameOf_1 (by rw [h3]; decide) (by rw [h3]; decide) (by rw [h3] <;> rfl) (by decide) ?_
    refine r_bipush hC 6 dX3_nameOf_112 (by decide) ?_
    exact r_iret hC rfl dX3_nameOf_114 ⟨hO, rfl⟩
  by_cases h4 : p1 = 104
  · have hO := hO.2.2.2.1 h4
    refine r_tin hC 102 dX3_nameOf_1 (by rw [h4]; decide) (by rw [h4]; decide) (by rw [h4] <;> rfl) (by decide) ?_
    refine r_iconst hC 1 dX3_nameOf_102 (by decide) ?_
    exact r_iret hC rfl dX3_nameOf_103 ⟨hO, rfl⟩
  by_cases h5 : p1 = 108
  · have hO := hO.2.2.2.2.1 h5
    refine r_tin hC 108 dX3_nameOf_1 (by rw [h5]; decide) (by rw [h5]; decide) (by rw [h5] <;> rfl) (by decide) ?_
    refine r_iconst hC 4 dX3_nameOf_108 (by decide) ?_
    exact r_iret hC rfl dX3_nameOf_109 ⟨hO, rfl⟩
  by_cases h6 : p1 = 112
  · have hO := hO.2.2.2.2.2.1 h6
    refine r_tin hC 104 dX3_nameOf_1 (by rw [h6]; decide) (by rw [h6]; decide) (by rw [h6] <;> rfl) (by decide) ?_
    refine r_iconst hC 2 dX3_nameOf_104 (by decide) ?_
    exact r_iret hC rfl dX3_nameOf_105 ⟨hO, rfl⟩
  by_cases h7 : p1 = 115
  · have hO := hO.2.2.2.2.2.2.1 h7
    refine r_tin hC 115 dX3_nameOf_1 (by rw [h7]; decide) (by rw [h7]; decide) (by rw [h7] <;> rfl) (by decide) ?_
    refine r_bipush hC 7 dX3_nameOf_115 (by decide) ?_
    exact r_iret hC rfl dX3_nameOf_117 ⟨hO, rfl⟩
  by_cases h8 : p1 = 116
  · have hO := hO.2.2.2.2.2.2.2.1 h8
    refine r_tin hC 106 dX3_nameOf_1 (by rw [h8]; decide) (by rw [h8]; decide) (by rw [h8] <;> rfl) (by decide) ?_
    refine r_iconst hC 3 dX3_nameOf_106 (by decide) ?_
    exact r_iret hC rfl dX3_nameOf_107 ⟨hO, rfl⟩
  by_cases h9 : p1 = 119
  · have hO := hO.2.2.2.2.2.2.2.2.1 h9
    refine r_tin hC 100 dX3_nameOf_1 (by rw [h9]; decide) (by rw [h9]; decide) (by rw [h9] <;> rfl) (by decide) ?_
    refine r_iconst hC 0 dX3_nameOf_100 (by decide) ?_
    exact r_iret hC rfl dX3_nameOf_101 ⟨hO, rfl⟩
  have hO := hO.2.2.2.2.2.2.2.2.2 h1 h2 h3 h4 h5 h6 h7 h8 h9
  refine r_tdef hC 121 dX3_nameOf_1 (by decide) rfl (fun k hk => match k, hk with | 0, _ => Or.inr (mw_ne h1 rfl) | 1, _ => Or.inr (mw_ne h2 rfl) | 2, _ => Or.inl rfl | 3, _ => Or.inl rfl | 4, _ => Or.inr (mw_ne h3 rfl) | 5, _ => Or.inr (mw_ne h4 rfl) | 6, _ => Or.inl rfl | 7, _ => Or.inl rfl | 8, _ => Or.inl rfl | 9, _ => Or.inr (mw_ne h5 rfl) | 10, _ => Or.inl rfl | 11, _ => Or.inl rfl | 12, _ => Or.inl rfl | 13, _ => Or.inr (mw_ne h6 rfl) | 14, _ => Or.inl rfl | 15, _ => Or.inl rfl | 16, _ => Or.inr (mw_ne h7 rfl) | 17, _ => Or.inr (mw_ne h8 rfl) | 18, _ => Or.inl rfl | 19, _ => Or.inl rfl | 20, _ => Or.inr (mw_ne h9 rfl) | k + 21, h => absurd h (by show ¬ k + 21 < 21; omega)) ?_
  refine r_iconst hC (-1) dX3_nameOf_121 (by decide) ?_
  exact r_iret hC rfl dX3_nameOf_122 ⟨hO, rfl⟩
set_option maxHeartbeats 4000000 in
set_option maxRecDepth 100000 in
theorem T3_empty {l : Launch} {G : mw_G} {b : Nat} {μ : mw_M} {Q : mw_M → Prop} (hb : kdX[b]? = some (.inl (3, dsX3 b))) (hO : P3_empty b μ Q) : mw_Mv l G kdX yX3_empty cX3_empty 1 none 0 0 [.ref (mw_a G b)] μ (Q) := by
  refine mw_enter [(0, .ref (mw_a G b))] RX3 (by decide) rfl (Nat.le_of_ble_eq_true rfl) rfl ?_
  intro p e s m args below meth c hC
  unfold P3_empty at hO
  refine r_aload_n hC 0 dX3_empty_0 rfl rfl ?_
  refine r_iconst hC 0 dX3_empty_1 (by decide) ?_
  refine r_putI hC fl3_18 hb rfl rfl rfl dX3_empty_2 ?_
  refine r_nmM (fun μ1 hμ1 => ?_)
  have hO := hO μ1 hμ1
  exact r_vret hC rfl dX3_empty_5 hO
set_option maxHeartbeats 4000000 in
set_option maxRecDepth 100000 in
theorem T3_add {l : Launch} {G : mw_G} {b : Nat} {p1 : Int32} {μ : mw_M} {Q : mw_M → Prop} (hb : kdX[b]? = some (.inl (3, dsX3 b))) (hO : P3_add b p1 μ Q) : mw_Mv l G kdX yX3_add cX3_add 2 none 0 0 [.ref (mw_a G b), .int p1] μ (Q) := by
  refine mw_enter [(0, .ref (mw_a G b)), (1, .int p1)] RX3 (by decide) rfl (Nat.le_of_ble_eq_true rfl) rfl ?_
  intro p e s m args below meth c hC
  unfold P3_add at hO
  refine r_aload_n hC 0 dX3_add_0 rfl rfl ?_
  refine r_getI hC fl3_18 hb rfl dX3_add_1 ?_
  refine r_bipush hC 120 dX3_add_4 (by decide) ?_
  refine r_icmp_ge hC 29 dX3_add_6 (by decide) (fun h1 => ?_) (fun h1 => ?_)
  · have hO := hO.1 h1
    exact r_vret hC rfl dX3_add_29 hO
  · have hO := hO.2 h1
    refine r_aload_n hC 0 dX3_add_9 rfl rfl ?_
    refine r_getR hC (b + 1) fl3_11 hb rfl dX3_add_10 ?_
    refine r_aload_n hC 0 dX3_add_13 rfl rfl ?_
    refine r_getI hC fl3_18 hb rfl dX3_add_14 ?_
    refine r_iload_n hC 1 dX3_add_17 rfl rfl ?_
    obtain ⟨g2, hO⟩ := hO
    refine r_iast hC (sh3_0 hb) g2 ((μ.1 b 2).toNatClampNeg) rfl dX3_add_18 ?_
    refine r_nmM (fun μ3 hμ3 => ?_)
    have hO := hO μ3 hμ3
    refine r_aload_n hC 0 dX3_add_19 rfl rfl ?_
    refine r_dup hC dX3_add_20 rfl ?_
    refine r_getI hC fl3_18 hb rfl dX3_add_21 ?_
    refine r_iconst hC 1 dX3_add_24 (by decide) ?_
    refine r_iadd hC dX3_add_25 ?_
    refine r_putI hC fl3_18 hb rfl rfl rfl dX3_add_26 ?_
    refine r_nmM (fun μ4 hμ4 => ?_)
    have hO := hO μ4 hμ4
    exact r_vret hC rfl dX3_add_29 hO
set_option maxHeartbeats 4000000 in
set_option maxRecDepth 100000 in
theorem T3_pop {l : Launch} {G : mw_G} {b : Nat} {μ : mw_M} {Q : Int32 → mw_M → Prop} (hb : kdX[b]? = some (.inl (3, dsX3 b))) (hO : P3_pop b μ Q) : mw_Mi l G kdX yX3_pop cX3_pop 1 (some .int) 0 0 [.ref (mw_a G b)] μ (Q) := by
  refine mw_enter [(0, .ref (mw_a G b))] RX3 (by decide) rfl (Nat.le_of_ble_eq_true rfl) rfl ?_
  intro p e s m args below meth c hC
  unfold P3_pop at hO
  refine r_aload_n hC 0 dX3_pop_0 rfl rfl ?_
  refine r_getI hC fl3_22 hb rfl dX3_pop_1 ?_
  refine r_iconst hC 1 dX3_pop_4 (by decide) ?_
  refine r_icmp_ge hC 10 dX3_pop_5 (by decide) (fun h1 => ?_) (fun h1 => ?_)
  · have hO := hO.1 h1
    refine r_aload_n hC 0 dX3_pop_10 rfl rfl ?_
    refine r_dup hC dX3_pop_11 rfl ?_
    refine r_getI hC fl3_22 hb rfl dX3_pop_12 ?_
    refine r_iconst hC 1 dX3_pop_15 (by decide) ?_
    refine r_isub hC dX3_pop_16 ?_
    refine r_putI hC fl3_22 hb rfl rfl rfl dX3_pop_17 ?_
    refine r_nmM (fun μ2 hμ2 => ?_)
    have hO := hO μ2 hμ2
    refine r_aload_n hC 0 dX3_pop_20 rfl rfl ?_
    refine r_getR hC (b + 2) fl3_15 hb rfl dX3_pop_21 ?_
    refine r_aload_n hC 0 dX3_pop_24 rfl rfl ?_
    refine r_getI hC fl3_22 hb rfl dX3_pop_25 ?_
    obtain ⟨g3, hO⟩ := hO
    refine r_iald hC (sh3_1 hb) g3 ((μ2.1 b 3).toNatClampNeg) rfl dX3_pop_28 ?_
    exact r_iret hC rfl dX3_pop_29 hO
  · have hO := hO.2 h1
    refine r_iconst hC 0 dX3_pop_8 (by decide) ?_
    exact r_iret hC rfl dX3_pop_9 hO
set_option maxHeartbeats 4000000 in
set_option maxRecDepth 100000 in
theorem T3_push {l : Launch} {G : mw_G} {b : Nat} {p1 : Int32} {μ : mw_M} {Q : mw_M → Prop} (hb : kdX[b]? = some (.inl (3, dsX3 b))) (hO : P3_push b p1 μ Q) : mw_Mv l G kdX yX3_push cX3_push 2 none 0 0 [.ref (mw_a G b), .int p1] μ (Q) := by
  refine mw_enter [(0, .ref (mw_a G b)), (1, .int p1)] RX3 (by decide) rfl (Nat.le_of_ble_eq_true rfl) rfl ?_
  intro p e s m args below meth c hC
  unfold P3_push at hO
  refine r_aload_n hC 0 dX3_push_0 rfl rfl ?_
  refine r_getI hC fl3_22 hb rfl dX3_push_1 ?_
  refine r_bipush hC 120 dX3_push_4 (by decide) ?_
  refine r_icmp_ge hC 29 dX3_push_6 (by decide) (fun h1 => ?_) (fun h1 => ?_)
  · have hO := hO.1 h1
    exact r_vret hC rfl dX3_push_29 hO
  · have hO := hO.2 h1
    refine r_aload_n hC 0 dX3_push_9 rfl rfl ?_
    refine r_getR hC (b + 2) fl3_15 hb rfl dX3_push_10 ?_
    refine r_aload_n hC 0 dX3_push_13 rfl rfl ?_
    refine r_getI hC fl3_22 hb rfl dX3_push_14 ?_
    refine r_iload_n hC 1 dX3_push_17 rfl rfl ?_
    obtain ⟨g2, hO⟩ := hO
    refine r_iast hC (sh3_1 hb) g2 ((μ.1 b 3).toNatClampNeg) rfl dX3_push_18 ?_
    refine r_nmM (fun μ3 hμ3 => ?_)
    have hO := hO μ3 hμ3
    refine r_aload_n hC 0 dX3_push_19 rfl rfl ?_
    refine r_dup hC dX3_push_20 rfl ?_
    refine r_getI hC fl3_22 hb rfl dX3_push_21 ?_
    refine r_iconst hC 1 dX3_push_24 (by decide) ?_
    refine r_iadd hC dX3_push_25 ?_
    refine r_putI hC fl3_22 hb rfl rfl rfl dX3_push_26 ?_
    refine r_nmM (fun μ4 hμ4 => ?_)
    have hO := hO μ4 hμ4
    exact r_vret hC rfl dX3_push_29 hO
set_option maxHeartbeats 4000000 in
set_option maxRecDepth 100000 in
theorem T3_joined {l : Launch} {G : mw_G} {p1 : Int32} {p2 : Int32} {p3 : Int32} {μ : mw_M} {Q : Int32 → Prop}  (hO : P3_joined p1 p2 p3 Q) : mw_Mi l G kdX yX3_joined cX3_joined 3 (some .int) 0 0 [.int p1, .int p2, .int p3] μ (mw_pq μ Q) := by
  refine mw_enter [(0, .int p1), (1, .int p2), (2, .int p3)] RX3 (by decide) rfl (Nat.le_of_ble_eq_true rfl) rfl ?_
  intro p e s m args below meth c hC
  unfold P3_joined at hO
  refine r_iload_n hC 0 dX3_joined_0 rfl rfl ?_
  by_cases h1 : p1 = 37
  · have hO := hO.1 h1
    refine r_lsw hC 177 dX3_joined_1 (by decide) (by rw [h1] <;> rfl) (by decide) ?_
    refine r_iload_n hC 2 dX3_joined_177 rfl rfl ?_
    refine r_if_ne hC 185 dX3_joined_178 (by decide) (fun h2 => ?_) (fun h2 => ?_)
    · have hO := hO.2 h2
      refine r_iload_n hC 1 dX3_joined_185 rfl rfl ?_
      refine r_iload_n hC 2 dX3_joined_186 rfl rfl ?_
      obtain ⟨g3, hO⟩ := hO
      refine r_irem hC dX3_joined_187 g3 ?_
      exact r_iret hC rfl dX3_joined_188 ⟨hO, rfl⟩
    · have hO := hO.1 h2
      refine r_iconst hC 0 dX3_joined_181 (by decide) ?_
      refine r_goto hC 188 dX3_joined_182 (by decide) ?_
      exact r_iret hC rfl dX3_joined_188 ⟨hO, rfl⟩
  by_cases h4 : p1 = 38
  · have hO := hO.2.1 h4
    refine r_lsw hC 106 dX3_joined_1 (by decide) (by rw [h4] <;> rfl) (by decide) ?_
    refine r_iload_n hC 1 dX3_joined_106 rfl rfl ?_
    refine r_if_eq hC 118 dX3_joined_107 (by decide) (fun h5 => ?_) (fun h5 => ?_)
    · have hO := hO.1 h5
      refine r_iconst hC 0 dX3_joined_118 (by decide) ?_
      exact r_iret hC rfl dX3_joined_119 ⟨hO, rfl⟩
    · have hO := hO.2 h5
      refine r_iload_n hC 2 dX3_joined_110 rfl rfl ?_
      refine r_if_eq hC 118 dX3_joined_111 (by decide) (fun h6 => ?_) (fun h6 => ?_)
      · have hO := hO.1 h6
        refine r_iconst hC 0 dX3_joined_118 (by decide) ?_
        exact r_iret hC rfl dX3_joined_119 ⟨hO, rfl⟩
      · have hO := hO.2 h6
        refine r_iconst hC 1 dX3_joined_114 (by decide) ?_
        refine r_goto hC 119 dX3_joined_115 (by decide) ?_
        exact r_iret hC rfl dX3_joined_119 ⟨hO, rfl⟩
  by_cases h7 : p1 = 42
  · have hO := hO.2.2.1 h7
    refine r_lsw hC 161 dX3_joined_1 (by decide) (by rw [h7] <;> rfl) (by decide) ?_
    refine r_iload_n hC 1 dX3_joined_161 rfl rfl ?_
    refine r_iload_n hC 2 dX3_joined_162 rfl rfl ?_
    refine r_imul hC dX3_joined_163 ?_
    exact r_iret hC rfl dX3_joined_164 ⟨hO, rfl⟩
  by_cases h8 : p1 = 43
  · have hO := hO.2.2.2.1 h8
    refine r_lsw hC 153 dX3_joined_1 (by decide) (by rw [h8] <;> rfl) (by decide) ?_
    refine r_iload_n hC 1 dX3_joined_153 rfl rfl ?_
    refine r_iload_n hC 2 dX3_joined_154 rfl rfl ?_
    refine r_iadd hC dX3_joined_155 ?_
    exact r_iret hC rfl dX3_joined_156 ⟨hO, rfl⟩
  by_cases h9 : p1 = 45
  · have hO := hO.2.2.2.2.1 h9
    refine r_lsw hC 157 dX3_joined_1 (by decide) (by rw [h9] <;> rfl) (by decide) ?_
    refine r_iload_n hC 1 dX3_joined_157 rfl rfl ?_
    refine r_iload_n hC 2 dX3_joined_158 rfl rfl ?_
    refine r_isub hC dX3_joined_159 ?_
    exact r_iret hC rfl dX3_joined_160 ⟨hO, rfl⟩
  by_cases h10 : p1 = 47
  · have hO := hO.2.2.2.2.2.1 h10
    refine r_lsw hC 165 dX3_joined_1 (by decide) (by rw [h10] <;> rfl) (by decide) ?_
    refine r_iload_n hC 2 dX3_joined_165 rfl rfl ?_
    refine r_if_ne hC 173 dX3_joined_166 (by decide) (fun h11 => ?_) (fun h11 => ?_)
    · have hO := hO.2 h11
      refine r_iload_n hC 1 dX3_joined_173 rfl rfl ?_
      refine r_iload_n hC 2 dX3_joined_174 rfl rfl ?_
      obtain ⟨g12, hO⟩ := hO
      refine r_idiv hC dX3_joined_175 g12 ?_
      exact r_iret hC rfl dX3_joined_176 ⟨hO, rfl⟩
    · have hO := hO.1 h11
      refine r_iconst hC 0 dX3_joined_169 (by decide) ?_
      refine r_goto hC 176 dX3_joined_170 (by decide) ?_
      exact r_iret hC rfl dX3_joined_176 ⟨hO, rfl⟩
  by_cases h13 : p1 = 60
  · have hO := hO.2.2.2.2.2.2.1 h13
    refine r_lsw hC 120 dX3_joined_1 (by decide) (by rw [h13] <;> rfl) (by decide) ?_
    refine r_iload_n hC 1 dX3_joined_120 rfl rfl ?_
    refine r_iload_n hC 2 dX3_joined_121 rfl rfl ?_
    refine r_icmp_ge hC 129 dX3_joined_122 (by decide) (fun h14 => ?_) (fun h14 => ?_)
    · have hO := hO.1 h14
      refine r_iconst hC 0 dX3_joined_129 (by decide) ?_
      exact r_iret hC rfl dX3_joined_130 ⟨hO, rfl⟩
    · have hO := hO.2 h14
      refine r_iconst hC 1 dX3_joined_125 (by decide) ?_
      refine r_goto hC 130 dX3_joined_126 (by decide) ?_
      exact r_iret hC rfl dX3_joined_130 ⟨hO, rfl⟩
  by_cases h15 : p1 = 61
  · have hO := hO.2.2.2.2.2.2.2.1 h15
    refine r_lsw hC 131 dX3_joined_1 (by decide) (by rw [h15] <;> rfl) (by decide) ?_
    refine r_iload_n hC 1 dX3_joined_131 rfl rfl ?_
    refine r_iload_n hC 2 dX3_joined_132 rfl rfl ?_
    refine r_icmp_ne hC 140 dX3_joined_133 (by decide) (fun h16 => ?_) (fun h16 => ?_)
    · have hO := hO.2 h16
      refine r_iconst hC 0 dX3_joined_140 (by decide) ?_
      exact r_iret hC rfl dX3_joined_141 ⟨hO, rfl⟩
    · have hO := hO.1 h16
      refine r_iconst hC 1 dX3_joined_136 (by decide) ?_
      refine r_goto hC 141 dX3_joined_137 (by decide) ?_
      exact r_iret hC rfl dX3_joined_141 ⟨hO, rfl⟩
  by_cases h17 : p1 = 62
  · have hO := hO.2.2.2.2.2.2.2.2.1 h17
    refine r_lsw hC 142 dX3_joined_1 (by decide) (by rw [h17] <;> rfl) (by decide) ?_
    refine r_iload_n hC 1 dX3_joined_142 rfl rfl ?_
    refine r_iload_n hC 2 dX3_joined_143 rfl rfl ?_
    refine r_icmp_le hC 151 dX3_joined_144 (by decide) (fun h18 => ?_) (fun h18 => ?_)
    · have hO := hO.1 h18
      refine r_iconst hC 0 dX3_joined_151 (by decide) ?_
      exact r_iret hC rfl dX3_joined_152 ⟨hO, rfl⟩
    · have hO := hO.2 h18
      refine r_iconst hC 1 dX3_joined_147 (by decide) ?_
      refine r_goto hC 152 dX3_joined_148 (by decide) ?_
      exact r_iret hC rfl dX3_joined_152 ⟨hO, rfl⟩
  by_cases h19 : p1 = 124
  · have hO := hO.2.2.2.2.2.2.2.2.2.1 h19
    refine r_lsw hC 92 dX3_joined_1 (by decide) (by rw [h19] <;> rfl) (by decide) ?_
    refine r_iload_n hC 1 dX3_joined_92 rfl rfl ?_
    refine r_if_ne hC 100 dX3_joined_93 (by decide) (fun h20 => ?_) (fun h20 => ?_)
    · have hO := hO.2 h20
      refine r_iconst hC 1 dX3_joined_100 (by decide) ?_
      refine r_goto hC 105 dX3_joined_101 (by decide) ?_
      exact r_iret hC rfl dX3_joined_105 ⟨hO, rfl⟩
    · have hO := hO.1 h20
      refine r_iload_n hC 2 dX3_joined_96 rfl rfl ?_
      refine r_if_eq hC 104 dX3_joined_97 (by decide) (fun h21 => ?_) (fun h21 => ?_)
      · have hO := hO.1 h21
        refine r_iconst hC 0 dX3_joined_104 (by decide) ?_
        exact r_iret hC rfl dX3_joined_105 ⟨hO, rfl⟩
      · have hO := hO.2 h21
        refine r_iconst hC 1 dX3_joined_100 (by decide) ?_
        refine r_goto hC 105 dX3_joined_101 (by decide) ?_
        exact r_iret hC rfl dX3_joined_105 ⟨hO, rfl⟩
  have hO := hO.2.2.2.2.2.2.2.2.2.2 h1 h4 h7 h8 h9 h10 h13 h15 h17 h19
  refine r_ldef hC 189 dX3_joined_1 (by decide) (fun q hq => by rcases (show q = ((37, 176) : Int × Int) ∨ q = ((38, 105) : Int × Int) ∨ q = ((42, 160) : Int × Int) ∨ q = ((43, 152) : Int × Int) ∨ q = ((45, 156) : Int × Int) ∨ q = ((47, 164) : Int × Int) ∨ q = ((60, 119) : Int × Int) ∨ q = ((61, 130) : Int × Int) ∨ q = ((62, 141) : Int × Int) ∨ q = ((124, 91) : Int × Int) by simpa using hq) with rfl | rfl | rfl | rfl | rfl | rfl | rfl | rfl | rfl | rfl <;> first | exact mw_ne h1 rfl | exact mw_ne h4 rfl | exact mw_ne h7 rfl | exact mw_ne h8 rfl | exact mw_ne h9 rfl | exact mw_ne h10 rfl | exact mw_ne h13 rfl | exact mw_ne h15 rfl | exact mw_ne h17 rfl | exact mw_ne h19 rfl) (by decide) ?_
  refine r_iconst hC 0 dX3_joined_189 (by decide) ?_
  exact r_iret hC rfl dX3_joined_190 ⟨hO, rfl⟩
set_option maxHeartbeats 4000000 in
set_option maxRecDepth 100000 in
theorem T3_workOut {l : Launch} {G : mw_G} {b : Nat} {p1 : Int32} {μ : mw_M} {Q : mw_M → Prop} (hb : kdX[b]? = some (.inl (3, dsX3 b))) (hO : P3_workOut b p1 μ Q) : mw_Mv l G kdX yX3_workOut cX3_workOut 3 none 1 22 [.ref (mw_a G b), .int p1] μ (Q) := by
  refine mw_enter [(0, .ref (mw_a G b)), (1, .int p1)] RX3 (by decide) rfl (Nat.le_of_ble_eq_true rfl) rfl ?_
  intro p e s m args below meth c hC
  unfold P3_workOut at hO
  refine r_aload_n hC 0 dX3_workOut_0 rfl rfl ?_
  refine r_callVi hC [] (T3_pop hb hO) yv3_pop ml3_25 hb rfl ⟨Nat.le_of_ble_eq_true rfl, Nat.le_of_ble_eq_true rfl⟩ rfl rfl (Nat.le_of_ble_eq_true rfl) dX3_workOut_1 (fun r1 μ2 hO => ?_)
  refine r_istore_n hC [(2, .int r1), (0, .ref (mw_a G b)), (1, .int p1)] dX3_workOut_4 rfl (by decide) rfl ?_
  refine r_iload_n hC 2 dX3_workOut_5 rfl rfl ?_
  refine r_sipush hC 10126 dX3_workOut_6 (by decide) ?_
  refine r_icmp_ne hC 21 dX3_workOut_9 (by decide) (fun h3 => ?_) (fun h3 => ?_)
  · have hO := hO.2 h3
    refine r_iload_n hC 2 dX3_workOut_21 rfl rfl ?_
    refine r_sipush hC 10033 dX3_workOut_22 (by decide) ?_
    refine r_icmp_ne hC 44 dX3_workOut_25 (by decide) (fun h4 => ?_) (fun h4 => ?_)
    · have hO := hO.2 h4
      refine r_aload_n hC 1 dX3_workOut_44 rfl rfl ?_
      refine r_iload_n hC 2 dX3_workOut_45 rfl rfl ?_
      refine r_sipush hC 10000 dX3_workOut_46 (by decide) ?_
      refine r_isub hC dX3_workOut_49 ?_
      refine r_i2c hC dX3_workOut_50 ?_
      refine r_aload_n hC 1 dX3_workOut_51 rfl rfl ?_
      refine r_callVi hC [] (T3_pop hb hO) yv3_pop ml3_25 hb rfl ⟨Nat.le_of_ble_eq_true rfl, Nat.le_of_ble_eq_true rfl⟩ rfl rfl (Nat.le_of_ble_eq_true rfl) dX3_workOut_52 (fun r5 μ6 hO => ?_)
      refine r_iload_n hC 0 dX3_workOut_55 rfl rfl ?_
      refine r_callSi hC [.int (mw_i2c (p1 - 10000)), .int r5, .int r1] (T3_joined  hO) yv3_joined ml3_36 ⟨Nat.le_of_ble_eq_true rfl, Nat.le_of_ble_eq_true rfl⟩ rfl rfl (Nat.le_of_ble_eq_true rfl) dX3_workOut_56 (fun r7 μ8 hO => ?_)
      obtain ⟨hO, hm⟩ := hO
      refine r_memEq hm ?_
      refine r_callVv hC [.int r7] (T3_push hb hO) yv3_push ml3_29 hb rfl ⟨Nat.le_of_ble_eq_true rfl, Nat.le_of_ble_eq_true rfl⟩ rfl rfl (Nat.le_of_ble_eq_true rfl) dX3_workOut_59 (fun μ9 hO => ?_)
      exact r_vret hC rfl dX3_workOut_62 hO
    · have hO := hO.1 h4
      refine r_aload_n hC 1 dX3_workOut_28 rfl rfl ?_
      refine r_iload_n hC 0 dX3_workOut_29 rfl rfl ?_
      refine r_if_ne hC 37 dX3_workOut_30 (by decide) (fun h10 => ?_) (fun h10 => ?_)
      · have hO := hO.2 h10
        refine r_iconst hC 0 dX3_workOut_37 (by decide) ?_
        refine r_callVv hC [.int 0] (T3_push hb hO) yv3_push ml3_29 hb rfl ⟨Nat.le_of_ble_eq_true rfl, Nat.le_of_ble_eq_true rfl⟩ rfl rfl (Nat.le_of_ble_eq_true rfl) dX3_workOut_38 (fun μ11 hO => ?_)
        refine r_goto hC 62 dX3_workOut_41 (by decide) ?_
        exact r_vret hC rfl dX3_workOut_62 hO
      · have hO := hO.1 h10
        refine r_iconst hC 1 dX3_workOut_33 (by decide) ?_
        refine r_goto hC 38 dX3_workOut_34 (by decide) ?_
        refine r_callVv hC [.int 1] (T3_push hb hO) yv3_push ml3_29 hb rfl ⟨Nat.le_of_ble_eq_true rfl, Nat.le_of_ble_eq_true rfl⟩ rfl rfl (Nat.le_of_ble_eq_true rfl) dX3_workOut_38 (fun μ12 hO => ?_)
        refine r_goto hC 62 dX3_workOut_41 (by decide) ?_
        exact r_vret hC rfl dX3_workOut_62 hO
  · have hO := hO.1 h3
    refine r_aload_n hC 1 dX3_workOut_12 rfl rfl ?_
    refine r_iload_n hC 0 dX3_workOut_13 rfl rfl ?_
    refine r_ineg hC dX3_workOut_14 ?_
    refine r_callVv hC [.int (-r1)] (T3_push hb hO) yv3_push ml3_29 hb rfl ⟨Nat.le_of_ble_eq_true rfl, Nat.le_of_ble_eq_true rfl⟩ rfl rfl (Nat.le_of_ble_eq_true rfl) dX3_workOut_15 (fun μ13 hO => ?_)
    refine r_goto hC 62 dX3_workOut_18 (by decide) ?_
    exact r_vret hC rfl dX3_workOut_62 hO
