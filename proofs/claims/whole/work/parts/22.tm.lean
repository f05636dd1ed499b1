set_option maxHeartbeats 4000000 in
set_option maxRecDepth 100000 in
theorem T11_mend {l : Launch} {G : mw_G} {p1 : Int32} {p2 : Int32} {p3 : Int32} {μ : mw_M} {Q : Int32 → mw_M → Prop}  (hO : P11_mend p1 p2 p3 μ Q) : mw_Mi l G kdM yX11_mend cX11_mend 5 (some .int) 2 46 [.ref (mw_a G 0), .int p1, .int p2, .int p3] μ (Q) := by
  refine mw_enter [(0, .ref (mw_a G 0)), (1, .int p1), (2, .int p2), (3, .int p3)] RX11 (by decide) rfl (Nat.le_of_ble_eq_true rfl) rfl ?_
  intro p e s m args below meth c hC
  unfold P11_mend at hO
  refine r_aload_n hC 0 dX11_mend_0 rfl rfl ?_
  refine r_iload_n hC 1 dX11_mend_1 rfl rfl ?_
  refine r_callVi hC [.int p1] (T11_isLump  hO) yv11_isLump ml11_132 ob11 rfl ⟨Nat.le_of_ble_eq_true rfl, Nat.le_of_ble_eq_true rfl⟩ rfl rfl (Nat.le_of_ble_eq_true rfl) dX11_mend_2 (fun r1 μ2 hO => ?_)
  rcases hO with ⟨hr, hO⟩ | ⟨hr, hO⟩
  · refine r_topEq hr ?_
    obtain ⟨hO, hm⟩ := hO
    refine r_memEq hm ?_
    refine r_if_eq hC 20 dX11_mend_5 (by decide) (fun h => absurd h (by decide)) (fun _ => ?_)
    refine r_iload_n hC 2 dX11_mend_8 rfl rfl ?_
    refine r_i2l hC dX11_mend_9 ?_
    refine r_lconst hC 0 dX11_mend_10 (by decide) ?_
    refine r_ldc2 hC kc11_135 dX11_mend_11 ?_
    refine r_callSi hC [.long (Int32.toInt64 p2), .long 0, .long 2] (T11_within  hO) yv11_within ml11_106 ⟨Nat.le_of_ble_eq_true rfl, Nat.le_of_ble_eq_true rfl⟩ rfl rfl (Nat.le_of_ble_eq_true rfl) dX11_mend_14 (fun r3 μ4 hO => ?_)
    rcases hO with ⟨hr, hO⟩ | ⟨hr, hO⟩
    · refine r_topEq hr ?_
      obtain ⟨hO, hm⟩ := hO
      refine r_memEq hm ?_
      refine r_if_ne hC 22 dX11_mend_17 (by decide) (fun _ => ?_) (fun h => absurd h (by decide))
      refine r_iload_n hC 2 dX11_mend_22 rfl rfl ?_
      refine r_if_ne hC 38 dX11_mend_23 (by decide) (fun h5 => ?_) (fun h5 => ?_)
      · have hO := hO.2 h5
        refine r_iload_n hC 3 dX11_mend_38 rfl rfl ?_
        refine r_i2l hC dX11_mend_39 ?_
        refine r_lconst hC 0 dX11_mend_40 (by decide) ?_
        refine r_iload_n hC 2 dX11_mend_41 rfl rfl ?_
        refine r_iconst hC 1 dX11_mend_42 (by decide) ?_
        refine r_icmp_ne hC 52 dX11_mend_43 (by decide) (fun h6 => ?_) (fun h6 => ?_)
        · have hO := hO.2 h6
          refine r_ldc2 hC kc11_114 dX11_mend_52 ?_
          refine r_callSi hC [.long (Int32.toInt64 p3), .long 0, .long 11] (T11_within  hO) yv11_within ml11_106 ⟨Nat.le_of_ble_eq_true rfl, Nat.le_of_ble_eq_true rfl⟩ rfl rfl (Nat.le_of_ble_eq_true rfl) dX11_mend_55 (fun r7 μ8 hO => ?_)
          rcases hO with ⟨hr, hO⟩ | ⟨hr, hO⟩
          · refine r_topEq hr ?_
            obtain ⟨hO, hm⟩ := hO
            refine r_memEq hm ?_
            refine r_istore hC [(4, .int 1), (0, .ref (mw_a G 0)), (1, .int p1), (2, .int p2), (3, .int p3)] dX11_mend_58 (by decide) rfl ?_
            refine r_iload hC 0 dX11_mend_60 rfl ?_
            refine r_if_eq hC 79 dX11_mend_62 (by decide) (fun h => absurd h (by decide)) (fun _ => ?_)
            refine r_aload_n hC 1 dX11_mend_65 rfl rfl ?_
            refine r_bipush hC 12 dX11_mend_66 (by decide) ?_
            refine r_iload_n hC 3 dX11_mend_68 rfl rfl ?_
            refine r_imul hC dX11_mend_69 ?_
            refine r_iload_n hC 2 dX11_mend_70 rfl rfl ?_
            refine r_iadd hC dX11_mend_71 ?_
            refine r_iload_n hC 4 dX11_mend_72 rfl rfl ?_
            refine r_callVi hC [.int ((12 * p2) + p1), .int p3] (T11_becomes  hO) yv11_becomes ml11_137 ob11 rfl ⟨Nat.le_of_ble_eq_true rfl, Nat.le_of_ble_eq_true rfl⟩ rfl rfl (Nat.le_of_ble_eq_true rfl) dX11_mend_73 (fun r9 μ10 hO => ?_)
            refine r_goto hC 80 dX11_mend_76 (by decide) ?_
            exact r_iret hC rfl dX11_mend_80 hO
          · refine r_topEq hr ?_
            obtain ⟨hO, hm⟩ := hO
            refine r_memEq hm ?_
            refine r_istore hC [(4, .int 0), (0, .ref (mw_a G 0)), (1, .int p1), (2, .int p2), (3, .int p3)] dX11_mend_58 (by decide) rfl ?_
            refine r_iload hC 0 dX11_mend_60 rfl ?_
            refine r_if_eq hC 79 dX11_mend_62 (by decide) (fun _ => ?_) (fun h => absurd (by decide) h)
            refine r_iconst hC (-1) dX11_mend_79 (by decide) ?_
            exact r_iret hC rfl dX11_mend_80 hO
        · have hO := hO.1 h6
          refine r_ldc2 hC kc11_112 dX11_mend_46 ?_
          refine r_goto hC 55 dX11_mend_49 (by decide) ?_
          refine r_callSi hC [.long (Int32.toInt64 p3), .long 0, .long 99] (T11_within  hO) yv11_within ml11_106 ⟨Nat.le_of_ble_eq_true rfl, Nat.le_of_ble_eq_true rfl⟩ rfl rfl (Nat.le_of_ble_eq_true rfl) dX11_mend_55 (fun r11 μ12 hO => ?_)
          rcases hO with ⟨hr, hO⟩ | ⟨hr, hO⟩
          · refine r_topEq hr ?_
            obtain ⟨hO, hm⟩ := hO
            refine r_memEq hm ?_
            refine r_istore hC [(4, .int 1), (0, .ref (mw_a G 0)), (1, .int p1), (2, .int p2), (3, .int p3)] dX11_mend_58 (by decide) rfl ?_
            refine r_iload hC 0 dX11_mend_60 rfl ?_
            refine r_if_eq hC 79 dX11_mend_62 (by decide) (fun h => absurd h (by decide)) (fun _ => ?_)
            refine r_aload_n hC 1 dX11_mend_65 rfl rfl ?_
            refine r_bipush hC 12 dX11_mend_66 (by decide) ?_
            refine r_iload_n hC 3 dX11_mend_68 rfl rfl ?_
            refine r_imul hC dX11_mend_69 ?_
            refine r_iload_n hC 2 dX11_mend_70 rfl rfl ?_
            refine r_iadd hC dX11_mend_71 ?_
            refine r_iload_n hC 4 dX11_mend_72 rfl rfl ?_
            refine r_callVi hC [.int ((12 * p2) + p1), .int p3] (T11_becomes  hO) yv11_becomes ml11_137 ob11 rfl ⟨Nat.le_of_ble_eq_true rfl, Nat.le_of_ble_eq_true rfl⟩ rfl rfl (Nat.le_of_ble_eq_true rfl) dX11_mend_73 (fun r13 μ14 hO => ?_)
            refine r_goto hC 80 dX11_mend_76 (by decide) ?_
            exact r_iret hC rfl dX11_mend_80 hO
          · refine r_topEq hr ?_
            obtain ⟨hO, hm⟩ := hO
            refine r_memEq hm ?_
            refine r_istore hC [(4, .int 0), (0, .ref (mw_a G 0)), (1, .int p1), (2, .int p2), (3, .int p3)] dX11_mend_58 (by decide) rfl ?_
            refine r_iload hC 0 dX11_mend_60 rfl ?_
            refine r_if_eq hC 79 dX11_mend_62 (by decide) (fun _ => ?_) (fun h => absurd (by decide) h)
            refine r_iconst hC (-1) dX11_mend_79 (by decide) ?_
            exact r_iret hC rfl dX11_mend_80 hO
      · have hO := hO.1 h5
        refine r_iload_n hC 3 dX11_mend_26 rfl rfl ?_
        refine r_i2l hC dX11_mend_27 ?_
        refine r_lconst hC 1 dX11_mend_28 (by decide) ?_
        refine r_ldc2 hC kc11_110 dX11_mend_29 ?_
        refine r_callSi hC [.long (Int32.toInt64 p3), .long 1, .long 50] (T11_within  hO) yv11_within ml11_106 ⟨Nat.le_of_ble_eq_true rfl, Nat.le_of_ble_eq_true rfl⟩ rfl rfl (Nat.le_of_ble_eq_true rfl) dX11_mend_32 (fun r15 μ16 hO => ?_)
        rcases hO with ⟨hr, hO⟩ | ⟨hr, hO⟩
        · refine r_topEq hr ?_
          obtain ⟨hO, hm⟩ := hO
          refine r_memEq hm ?_
          refine r_goto hC 58 dX11_mend_35 (by decide) ?_
          refine r_istore hC [(4, .int 1), (0, .ref (mw_a G 0)), (1, .int p1), (2, .int p2), (3, .int p3)] dX11_mend_58 (by decide) rfl ?_
          refine r_iload hC 0 dX11_mend_60 rfl ?_
          refine r_if_eq hC 79 dX11_mend_62 (by decide) (fun h => absurd h (by decide)) (fun _ => ?_)
          refine r_aload_n hC 1 dX11_mend_65 rfl rfl ?_
          refine r_bipush hC 12 dX11_mend_66 (by decide) ?_
          refine r_iload_n hC 3 dX11_mend_68 rfl rfl ?_
          refine r_imul hC dX11_mend_69 ?_
          refine r_iload_n hC 2 dX11_mend_70 rfl rfl ?_
          refine r_iadd hC dX11_mend_71 ?_
          refine r_iload_n hC 4 dX11_mend_72 rfl rfl ?_
          refine r_callVi hC [.int ((12 * p2) + p1), .int p3] (T11_becomes  hO) yv11_becomes ml11_137 ob11 rfl ⟨Nat.le_of_ble_eq_true rfl, Nat.le_of_ble_eq_true rfl⟩ rfl rfl (Nat.le_of_ble_eq_true rfl) dX11_mend_73 (fun r17 μ18 hO => ?_)
          refine r_goto hC 80 dX11_mend_76 (by decide) ?_
          exact r_iret hC rfl dX11_mend_80 hO
        · refine r_topEq hr ?_
          obtain ⟨hO, hm⟩ := hO
          refine r_memEq hm ?_
          refine r_goto hC 58 dX11_mend_35 (by decide) ?_
          refine r_istore hC [(4, .int 0), (0, .ref (mw_a G 0)), (1, .int p1), (2, .int p2), (3, .int p3)] dX11_mend_58 (by decide) rfl ?_
          refine r_iload hC 0 dX11_mend_60 rfl ?_
          refine r_if_eq hC 79 dX11_mend_62 (by decide) (fun _ => ?_) (fun h => absurd (by decide) h)
          refine r_iconst hC (-1) dX11_mend_79 (by decide) ?_
          exact r_iret hC rfl dX11_mend_80 hO
    · refine r_topEq hr ?_
      obtain ⟨hO, hm⟩ := hO
      refine r_memEq hm ?_
      refine r_if_ne hC 22 dX11_mend_17 (by decide) (fun h => absurd (by decide) h) (fun _ => ?_)
      refine r_iconst hC (-1) dX11_mend_20 (by decide) ?_
      exact r_iret hC rfl dX11_mend_21 hO
  · refine r_topEq hr ?_
    obtain ⟨hO, hm⟩ := hO
    refine r_memEq hm ?_
    refine r_if_eq hC 20 dX11_mend_5 (by decide) (fun _ => ?_) (fun h => absurd (by decide) h)
    refine r_iconst hC (-1) dX11_mend_20 (by decide) ?_
    exact r_iret hC rfl dX11_mend_21 hO
set_option maxHeartbeats 4000000 in
set_option maxRecDepth 100000 in
theorem T11_of {l : Launch} {G : mw_G} {p1 : Int32} {p2 : Int32} {μ : mw_M} {Q : Int32 → Prop}  (hO : P11_of p1 p2 μ Q) : mw_Mi l G kdM yX11_of cX11_of 3 (some .int) 2 46 [.ref (mw_a G 0), .int p1, .int p2] μ (mw_pq μ Q) := by
  refine mw_enter [(0, .ref (mw_a G 0)), (1, .int p1), (2, .int p2)] RX11 (by decide) rfl (Nat.le_of_ble_eq_true rfl) rfl ?_
  intro p e s m args below meth c hC
  unfold P11_of at hO
  refine r_aload_n hC 0 dX11_of_0 rfl rfl ?_
  refine r_iload_n hC 1 dX11_of_1 rfl rfl ?_
  refine r_callVi hC [.int p1] (T11_isLump  hO) yv11_isLump ml11_132 ob11 rfl ⟨Nat.le_of_ble_eq_true rfl, Nat.le_of_ble_eq_true rfl⟩ rfl rfl (Nat.le_of_ble_eq_true rfl) dX11_of_2 (fun r1 μ2 hO => ?_)
  rcases hO with ⟨hr, hO⟩ | ⟨hr, hO⟩
  · refine r_topEq hr ?_
    obtain ⟨hO, hm⟩ := hO
    refine r_memEq hm ?_
    refine r_if_eq hC 48 dX11_of_5 (by decide) (fun h => absurd h (by decide)) (fun _ => ?_)
    refine r_iload_n hC 2 dX11_of_8 rfl rfl ?_
    refine r_i2l hC dX11_of_9 ?_
    refine r_lconst hC 0 dX11_of_10 (by decide) ?_
    refine r_ldc2 hC kc11_141 dX11_of_11 ?_
    refine r_callSi hC [.long (Int32.toInt64 p2), .long 0, .long 3] (T11_within  hO) yv11_within ml11_106 ⟨Nat.le_of_ble_eq_true rfl, Nat.le_of_ble_eq_true rfl⟩ rfl rfl (Nat.le_of_ble_eq_true rfl) dX11_of_14 (fun r3 μ4 hO => ?_)
    rcases hO with ⟨hr, hO⟩ | ⟨hr, hO⟩
    · refine r_topEq hr ?_
      obtain ⟨hO, hm⟩ := hO
      refine r_memEq hm ?_
      refine r_if_eq hC 48 dX11_of_17 (by decide) (fun h => absurd h (by decide)) (fun _ => ?_)
      refine r_iload_n hC 2 dX11_of_20 rfl rfl ?_
      refine r_iconst hC 3 dX11_of_21 (by decide) ?_
      refine r_icmp_ne hC 34 dX11_of_22 (by decide) (fun h5 => ?_) (fun h5 => ?_)
      · have hO := hO.2 h5
        refine r_aload_n hC 0 dX11_of_34 rfl rfl ?_
        refine r_getR hC 1 fl11_9 ob11 rfl dX11_of_35 ?_
        refine r_bipush hC 12 dX11_of_38 (by decide) ?_
        refine r_iload_n hC 2 dX11_of_40 rfl rfl ?_
        refine r_imul hC dX11_of_41 ?_
        refine r_iload_n hC 1 dX11_of_42 rfl rfl ?_
        refine r_iadd hC dX11_of_43 ?_
        obtain ⟨g6, hO⟩ := hO
        refine r_iald hC sh11_0 g6 (((12 * p2) + p1).toNatClampNeg) rfl dX11_of_44 ?_
        refine r_goto hC 49 dX11_of_45 (by decide) ?_
        exact r_iret hC rfl dX11_of_49 ⟨hO, rfl⟩
      · have hO := hO.1 h5
        refine r_aload_n hC 0 dX11_of_25 rfl rfl ?_
        refine r_getR hC 5 fl11_22 ob11 rfl dX11_of_26 ?_
        refine r_iload_n hC 1 dX11_of_29 rfl rfl ?_
        obtain ⟨g7, hO⟩ := hO
        refine r_iald hC sh11_7 g7 p1.toNatClampNeg rfl dX11_of_30 ?_
        refine r_goto hC 49 dX11_of_31 (by decide) ?_
        exact r_iret hC rfl dX11_of_49 ⟨hO, rfl⟩
    · refine r_topEq hr ?_
      obtain ⟨hO, hm⟩ := hO
      refine r_memEq hm ?_
      refine r_if_eq hC 48 dX11_of_17 (by decide) (fun _ => ?_) (fun h => absurd (by decide) h)
      refine r_iconst hC (-1) dX11_of_48 (by decide) ?_
      exact r_iret hC rfl dX11_of_49 ⟨hO, rfl⟩
  · refine r_topEq hr ?_
    obtain ⟨hO, hm⟩ := hO
    refine r_memEq hm ?_
    refine r_if_eq hC 48 dX11_of_5 (by decide) (fun _ => ?_) (fun h => absurd (by decide) h)
    refine r_iconst hC (-1) dX11_of_48 (by decide) ?_
    exact r_iret hC rfl dX11_of_49 ⟨hO, rfl⟩
set_option maxHeartbeats 4000000 in
set_option maxRecDepth 100000 in
theorem T11_counter {l : Launch} {G : mw_G} {p1 : Int32} {μ : mw_M} {Q : Int32 → mw_M → Prop}  (hO : P11_counter p1 μ Q) : mw_Mi l G kdM yX11_counter cX11_counter 2 (some .int) 1 25 [.ref (mw_a G 0), .int p1] μ (Q) := by
  refine mw_enter [(0, .ref (mw_a G 0)), (1, .int p1)] RX11 (by decide) rfl (Nat.le_of_ble_eq_true rfl) rfl ?_
  intro p e s m args below meth c hC
  unfold P11_counter at hO
  refine r_iload_n hC 1 dX11_counter_0 rfl rfl ?_
  refine r_i2l hC dX11_counter_1 ?_
  refine r_lconst hC 0 dX11_counter_2 (by decide) ?_
  refine r_ldc2 hC kc11_143 dX11_counter_3 ?_
  refine r_callSi hC [.long (Int32.toInt64 p1), .long 0, .long 9999] (T11_within  hO) yv11_within ml11_106 ⟨Nat.le_of_ble_eq_true rfl, Nat.le_of_ble_eq_true rfl⟩ rfl rfl (Nat.le_of_ble_eq_true rfl) dX11_counter_6 (fun r1 μ2 hO => ?_)
  rcases hO with ⟨hr, hO⟩ | ⟨hr, hO⟩
  · refine r_topEq hr ?_
    obtain ⟨hO, hm⟩ := hO
    refine r_memEq hm ?_
    refine r_if_eq hC 31 dX11_counter_9 (by decide) (fun h => absurd h (by decide)) (fun _ => ?_)
    refine r_iload_n hC 1 dX11_counter_12 rfl rfl ?_
    refine r_bipush hC 100 dX11_counter_13 (by decide) ?_
    refine r_irem hC dX11_counter_15 (by decide) ?_
    refine r_bipush hC 12 dX11_counter_16 (by decide) ?_
    refine r_icmp_ge hC 31 dX11_counter_18 (by decide) (fun h3 => ?_) (fun h3 => ?_)
    · have hO := hO.1 h3
      refine r_iconst hC (-1) dX11_counter_31 (by decide) ?_
      exact r_iret hC rfl dX11_counter_32 hO
    · have hO := hO.2 h3
      refine r_aload_n hC 0 dX11_counter_21 rfl rfl ?_
      refine r_bipush hC 36 dX11_counter_22 (by decide) ?_
      refine r_iload_n hC 1 dX11_counter_24 rfl rfl ?_
      refine r_callVi hC [.int 36, .int p1] (T11_becomes  hO) yv11_becomes ml11_137 ob11 rfl ⟨Nat.le_of_ble_eq_true rfl, Nat.le_of_ble_eq_true rfl⟩ rfl rfl (Nat.le_of_ble_eq_true rfl) dX11_counter_25 (fun r4 μ5 hO => ?_)
      refine r_goto hC 32 dX11_counter_28 (by decide) ?_
      exact r_iret hC rfl dX11_counter_32 hO
  · refine r_topEq hr ?_
    obtain ⟨hO, hm⟩ := hO
    refine r_memEq hm ?_
    refine r_if_eq hC 31 dX11_counter_9 (by decide) (fun _ => ?_) (fun h => absurd (by decide) h)
    refine r_iconst hC (-1) dX11_counter_31 (by decide) ?_
    exact r_iret hC rfl dX11_counter_32 hO
set_option maxHeartbeats 4000000 in
set_option maxRecDepth 100000 in
theorem T11_set {l : Launch} {G : mw_G} {p1 : Int32} {p2 : Int32} {μ : mw_M} {Q : Int32 → mw_M → Prop}  (hO : P11_set p1 p2 μ Q) : mw_Mi l G kdM yX11_set cX11_set 5 (some .int) 1 25 [.ref (mw_a G 0), .int p1, .int p2] μ (Q) := by
  refine mw_enter [(0, .ref (mw_a G 0)), (1, .int p1), (2, .int p2)] RX11 (by decide) rfl (Nat.le_of_ble_eq_true rfl) rfl ?_
  intro p e s m args below meth c hC
  unfold P11_set at hO
  refine r_iload_n hC 1 dX11_set_0 rfl rfl ?_
  refine r_if_ne hC 18 dX11_set_1 (by decide) (fun h1 => ?_) (fun h1 => ?_)
  · have hO := hO.2 h1
    refine r_iload_n hC 1 dX11_set_18 rfl rfl ?_
    refine r_iconst hC 1 dX11_set_19 (by decide) ?_
    refine r_icmp_eq hC 28 dX11_set_20 (by decide) (fun h2 => ?_) (fun h2 => ?_)
    · have hO := hO.1 h2
      refine r_iload_n hC 2 dX11_set_28 rfl rfl ?_
      refine r_i2l hC dX11_set_29 ?_
      refine r_lconst hC 1 dX11_set_30 (by decide) ?_
      refine r_ldc2 hC kc11_143 dX11_set_31 ?_
      refine r_callSi hC [.long (Int32.toInt64 p2), .long 1, .long 9999] (T11_within  hO) yv11_within ml11_106 ⟨Nat.le_of_ble_eq_true rfl, Nat.le_of_ble_eq_true rfl⟩ rfl rfl (Nat.le_of_ble_eq_true rfl) dX11_set_34 (fun r3 μ4 hO => ?_)
      rcases hO with ⟨hr, hO⟩ | ⟨hr, hO⟩
      · refine r_topEq hr ?_
        obtain ⟨hO, hm⟩ := hO
        refine r_memEq hm ?_
        refine r_goto hC 79 dX11_set_37 (by decide) ?_
        refine r_istore_n hC [(3, .int 1), (0, .ref (mw_a G 0)), (1, .int p1), (2, .int p2)] dX11_set_79 rfl (by decide) rfl ?_
        refine r_iload_n hC 0 dX11_set_80 rfl rfl ?_
        refine r_if_ne hC 86 dX11_set_81 (by decide) (fun _ => ?_) (fun h => absurd h (by decide))
        refine r_aload_n hC 1 dX11_set_86 rfl rfl ?_
        refine r_getR hC 6 fl11_25 ob11 rfl dX11_set_87 ?_
        refine r_iload_n hC 2 dX11_set_90 rfl rfl ?_
        obtain ⟨g5, hO⟩ := hO
        refine r_iald hC sh11_8 g5 p1.toNatClampNeg rfl dX11_set_91 ?_
        refine r_nmI (fun x6 hx6 => ?_)
        have hO := hO x6 hx6
        refine r_istore hC [(4, .int x6), (3, .int 1), (0, .ref (mw_a G 0)), (1, .int p1), (2, .int p2)] dX11_set_92 (by decide) rfl ?_
        refine r_aload_n hC 2 dX11_set_94 rfl rfl ?_
        refine r_getR hC 6 fl11_25 ob11 rfl dX11_set_95 ?_
        refine r_iload_n hC 3 dX11_set_98 rfl rfl ?_
        refine r_iload_n hC 4 dX11_set_99 rfl rfl ?_
        obtain ⟨g7, hO⟩ := hO
        refine r_iast hC sh11_8 g7 p1.toNatClampNeg rfl dX11_set_100 ?_
        refine r_nmM (fun μ8 hμ8 => ?_)
        have hO := hO μ8 hμ8
        refine r_iload hC 0 dX11_set_101 rfl ?_
        exact r_iret hC rfl dX11_set_103 hO
      · refine r_topEq hr ?_
        obtain ⟨hO, hm⟩ := hO
        refine r_memEq hm ?_
        refine r_goto hC 79 dX11_set_37 (by decide) ?_
        refine r_istore_n hC [(3, .int 0), (0, .ref (mw_a G 0)), (1, .int p1), (2, .int p2)] dX11_set_79 rfl (by decide) rfl ?_
        refine r_iload_n hC 0 dX11_set_80 rfl rfl ?_
        refine r_if_ne hC 86 dX11_set_81 (by decide) (fun h => absurd (by decide) h) (fun _ => ?_)
        refine r_iconst hC (-1) dX11_set_84 (by decide) ?_
        exact r_iret hC rfl dX11_set_85 hO
    · have hO := hO.2 h2
      refine r_iload_n hC 1 dX11_set_23 rfl rfl ?_
      refine r_iconst hC 4 dX11_set_24 (by decide) ?_
      refine r_icmp_ne hC 40 dX11_set_25 (by decide) (fun h9 => ?_) (fun h9 => ?_)
      · have hO := hO.2 h9
        refine r_iload_n hC 1 dX11_set_40 rfl rfl ?_
        refine r_iconst hC 2 dX11_set_41 (by decide) ?_
        refine r_icmp_ne hC 57 dX11_set_42 (by decide) (fun h10 => ?_) (fun h10 => ?_)
        · have hO := hO.2 h10
          refine r_iload_n hC 1 dX11_set_57 rfl rfl ?_
          refine r_iconst hC 3 dX11_set_58 (by decide) ?_
          refine r_icmp_ne hC 78 dX11_set_59 (by decide) (fun h11 => ?_) (fun h11 => ?_)
          · have hO := hO.2 h11
            refine r_iconst hC 0 dX11_set_78 (by decide) ?_
            refine r_istore_n hC [(3, .int 0), (0, .ref (mw_a G 0)), (1, .int p1), (2, .int p2)] dX11_set_79 rfl (by decide) rfl ?_
            refine r_iload_n hC 0 dX11_set_80 rfl rfl ?_
            refine r_if_ne hC 86 dX11_set_81 (by decide) (fun h => absurd (by decide) h) (fun _ => ?_)
            refine r_iconst hC (-1) dX11_set_84 (by decide) ?_
            exact r_iret hC rfl dX11_set_85 hO
          · have hO := hO.1 h11
            refine r_iload_n hC 2 dX11_set_62 rfl rfl ?_
            refine r_i2l hC dX11_set_63 ?_
            refine r_lconst hC 0 dX11_set_64 (by decide) ?_
            refine r_ldc2 hC kc11_110 dX11_set_65 ?_
            refine r_callSi hC [.long (Int32.toInt64 p2), .long 0, .long 50] (T11_within  hO) yv11_within ml11_106 ⟨Nat.le_of_ble_eq_true rfl, Nat.le_of_ble_eq_true rfl⟩ rfl rfl (Nat.le_of_ble_eq_true rfl) dX11_set_68 (fun r12 μ13 hO => ?_)
            rcases hO with ⟨hr, hO⟩ | ⟨hr, hO⟩
            · refine r_topEq hr ?_
              obtain ⟨hO, hm⟩ := hO
              refine r_memEq hm ?_
              refine r_if_eq hC 78 dX11_set_71 (by decide) (fun h => absurd h (by decide)) (fun _ => ?_)
              refine r_iconst hC 1 dX11_set_74 (by decide) ?_
              refine r_goto hC 79 dX11_set_75 (by decide) ?_
              refine r_istore_n hC [(3, .int 1), (0, .ref (mw_a G 0)), (1, .int p1), (2, .int p2)] dX11_set_79 rfl (by decide) rfl ?_
              refine r_iload_n hC 0 dX11_set_80 rfl rfl ?_
              refine r_if_ne hC 86 dX11_set_81 (by decide) (fun _ => ?_) (fun h => absurd h (by decide))
              refine r_aload_n hC 1 dX11_set_86 rfl rfl ?_
              refine r_getR hC 6 fl11_25 ob11 rfl dX11_set_87 ?_
              refine r_iload_n hC 2 dX11_set_90 rfl rfl ?_
              obtain ⟨g14, hO⟩ := hO
              refine r_iald hC sh11_8 g14 p1.toNatClampNeg rfl dX11_set_91 ?_
              refine r_nmI (fun x15 hx15 => ?_)
              have hO := hO x15 hx15
              refine r_istore hC [(4, .int x15), (3, .int 1), (0, .ref (mw_a G 0)), (1, .int p1), (2, .int p2)] dX11_set_92 (by decide) rfl ?_
              refine r_aload_n hC 2 dX11_set_94 rfl rfl ?_
              refine r_getR hC 6 fl11_25 ob11 rfl dX11_set_95 ?_
              refine r_iload_n hC 3 dX11_set_98 rfl rfl ?_
              refine r_iload_n hC 4 dX11_set_99 rfl rfl ?_
              obtain ⟨g16, hO⟩ := hO
              refine r_iast hC sh11_8 g16 p1.toNatClampNeg rfl dX11_set_100 ?_
              refine r_nmM (fun μ17 hμ17 => ?_)
              have hO := hO μ17 hμ17
              refine r_iload hC 0 dX11_set_101 rfl ?_
              exact r_iret hC rfl dX11_set_103 hO
            · refine r_topEq hr ?_
              obtain ⟨hO, hm⟩ := hO
              refine r_memEq hm ?_
              refine r_if_eq hC 78 dX11_set_71 (by decide) (fun _ => ?_) (fun h => absurd (by decide) h)
              refine r_iconst hC 0 dX11_set_78 (by decide) ?_
              refine r_istore_n hC [(3, .int 0), (0, .ref (mw_a G 0)), (1, .int p1), (2, .int p2)] dX11_set_79 rfl (by decide) rfl ?_
              refine r_iload_n hC 0 dX11_set_80 rfl rfl ?_
              refine r_if_ne hC 86 dX11_set_81 (by decide) (fun h => absurd (by decide) h) (fun _ => ?_)
              refine r_iconst hC (-1) dX11_set_84 (by decide) ?_
              exact r_iret hC rfl dX11_set_85 hO
        · have hO := hO.1 h10
          refine r_iload_n hC 2 dX11_set_45 rfl rfl ?_
          refine r_i2l hC dX11_set_46 ?_
          refine r_lconst hC 0 dX11_set_47 (by decide) ?_
          refine r_ldc2 hC kc11_116 dX11_set_48 ?_
          refine r_callSi hC [.long (Int32.toInt64 p2), .long 0, .long 9] (T11_within  hO) yv11_within ml11_106 ⟨Nat.le_of_ble_eq_true rfl, Nat.le_of_ble_eq_true rfl⟩ rfl rfl (Nat.le_of_ble_eq_true rfl) dX11_set_51 (fun r18 μ19 hO => ?_)
          rcases hO with ⟨hr, hO⟩ | ⟨hr, hO⟩
          · refine r_topEq hr ?_
            obtain ⟨hO, hm⟩ := hO
            refine r_memEq hm ?_
            refine r_goto hC 79 dX11_set_54 (by decide) ?_
            refine r_istore_n hC [(3, .int 1), (0, .ref (mw_a G 0)), (1, .int p1), (2, .int p2)] dX11_set_79 rfl (by decide) rfl ?_
            refine r_iload_n hC 0 dX11_set_80 rfl rfl ?_
            refine r_if_ne hC 86 dX11_set_81 (by decide) (fun _ => ?_) (fun h => absurd h (by decide))
            refine r_aload_n hC 1 dX11_set_86 rfl rfl ?_
            refine r_getR hC 6 fl11_25 ob11 rfl dX11_set_87 ?_
            refine r_iload_n hC 2 dX11_set_90 rfl rfl ?_
            obtain ⟨g20, hO⟩ := hO
            refine r_iald hC sh11_8 g20 p1.toNatClampNeg rfl dX11_set_91 ?_
            refine r_nmI (fun x21 hx21 => ?_)
            have hO := hO x21 hx21
            refine r_istore hC [(4, .int x21), (3, .int 1), (0, .ref (mw_a G 0)), (1, .int p1), (2, .int p2)] dX11_set_92 (by decide) rfl ?_
            refine r_aload_n hC 2 dX11_set_94 rfl rfl ?_
            refine r_getR hC 6 fl11_25 ob11 rfl dX11_set_95 ?_
            refine r_iload_n hC 3 dX11_set_98 rfl rfl ?_
            refine r_iload_n hC 4 dX11_set_99 rfl rfl ?_
            obtain ⟨g22, hO⟩ := hO
            refine r_iast hC sh11_8 g22 p1.toNatClampNeg rfl dX11_set_100 ?_
            refine r_nmM (fun μ23 hμ23 => ?_)
            have hO := hO μ23 hμ23
            refine r_iload hC 0 dX11_set_101 rfl ?_
            exact r_iret hC rfl dX11_set_103 hO
          · refine r_topEq hr ?_
            obtain ⟨hO, hm⟩ := hO
            refine r_memEq hm ?_
            refine r_goto hC 79 dX11_set_54 (by decide) ?_
            refine r_istore_n hC [(3, .int 0), (0, .ref (mw_a G 0)), (1, .int p1), (2, .int p2)] dX11_set_79 rfl (by decide) rfl ?_
            refine r_iload_n hC 0 dX11_set_80 rfl rfl ?_
            refine r_if_ne hC 86 dX11_set_81 (by decide) (fun h => absurd (by decide) h) (fun _ => ?_)
            refine r_iconst hC (-1) dX11_set_84 (by decide) ?_
            exact r_iret hC rfl dX11_set_85 hO
      · have hO := hO.1 h9
        refine r_iload_n hC 2 dX11_set_28 rfl rfl ?_
        refine r_i2l hC dX11_set_29 ?_
        refine r_lconst hC 1 dX11_set_30 (by decide) ?_
        refine r_ldc2 hC kc11_143 dX11_set_31 ?_
        refine r_callSi hC [.long (Int32.toInt64 p2), .long 1, .long 9999] (T11_within  hO) yv11_within ml11_106 ⟨Nat.le_of_ble_eq_true rfl, Nat.le_of_ble_eq_true rfl⟩ rfl rfl (Nat.le_of_ble_eq_true rfl) dX11_set_34 (fun r24 μ25 hO => ?_)
        rcases hO with ⟨hr, hO⟩ | ⟨hr, hO⟩
        · refine r_topEq hr ?_
          obtain ⟨hO, hm⟩ := hO
          refine r_memEq hm ?_
          refine r_goto hC 79 dX11_set_37 (by decide) ?_
          refine r_istore_n hC [(3, .int 1), (0, .ref (mw_a G 0)), (1, .int p1), (2, .int p2)] dX11_set_79 rfl (by decide) rfl ?_
          refine r_iload_n hC 0 dX11_set_80 rfl rfl ?_
          refine r_if_ne hC 86 dX11_set_81 (by decide) (fun _ => ?_) (fun h => absurd h (by decide))
          refine r_aload_n hC 1 dX11_set_86 rfl rfl ?_
          refine r_getR hC 6 fl11_25 ob11 rfl dX11_set_87 ?_
          refine r_iload_n hC 2 dX11_set_90 rfl rfl ?_
          obtain ⟨g26, hO⟩ := hO
          refine r_iald hC sh11_8 g26 p1.toNatClampNeg rfl dX11_set_91 ?_
          refine r_nmI (fun x27 hx27 => ?_)
          have hO := hO x27 hx27
          refine r_istore hC [(4, .int x27), (3, .int 1), (0, .ref (mw_a G 0)), (1, .int p1), (2, .int p2)] dX11_set_92 (by decide) rfl ?_
          refine r_aload_n hC 2 dX11_set_94 rfl rfl ?_
          refine r_getR hC 6 fl11_25 ob11 rfl dX11_set_95 ?_
          refine r_iload_n hC 3 dX11_set_98 rfl rfl ?_
          refine r_iload_n hC 4 dX11_set_99 rfl rfl ?_
          obtain ⟨g28, hO⟩ := hO
          refine r_iast hC sh11_8 g28 p1.toNatClampNeg rfl dX11_set_100 ?_
          refine r_nmM (fun μ29 hμ29 => ?_)
          have hO := hO μ29 hμ29
          refine r_iload hC 0 dX11_set_101 rfl ?_
          exact r_iret hC rfl dX11_set_103 hO
        · refine r_topEq hr ?_
          obtain ⟨hO, hm⟩ := hO
          refine r_memEq hm ?_
          refine r_goto hC 79 dX11_set_37 (by decide) ?_
          refine r_istore_n hC [(3, .int 0), (0, .ref (mw_a G 0)), (1, .int p1), (2, .int p2)] dX11_set_79 rfl (by decide) rfl ?_
          refine r_iload_n hC 0 dX11_set_80 rfl rfl ?_
          refine r_if_ne hC 86 dX11_set_81 (by decide) (fun h => absurd (by decide) h) (fun _ => ?_)
          refine r_iconst hC (-1) dX11_set_84 (by decide) ?_
          exact r_iret hC rfl dX11_set_85 hO
  · have hO := hO.1 h1
    refine r_iload_n hC 2 dX11_set_4 rfl rfl ?_
    refine r_i2l hC dX11_set_5 ?_
    refine r_ldc2 hC kc11_145 dX11_set_6 ?_
    refine r_ldc2 hC kc11_147 dX11_set_9 ?_
    refine r_callSi hC [.long (Int32.toInt64 p2), .long 100, .long 900] (T11_within  hO) yv11_within ml11_106 ⟨Nat.le_of_ble_eq_true rfl, Nat.le_of_ble_eq_true rfl⟩ rfl rfl (Nat.le_of_ble_eq_true rfl) dX11_set_12 (fun r30 μ31 hO => ?_)
    rcases hO with ⟨hr, hO⟩ | ⟨hr, hO⟩
    · refine r_topEq hr ?_
      obtain ⟨hO, hm⟩ := hO
      refine r_memEq hm ?_
      refine r_goto hC 79 dX11_set_15 (by decide) ?_
      refine r_istore_n hC [(3, .int 1), (0, .ref (mw_a G 0)), (1, .int p1), (2, .int p2)] dX11_set_79 rfl (by decide) rfl ?_
      refine r_iload_n hC 0 dX11_set_80 rfl rfl ?_
      refine r_if_ne hC 86 dX11_set_81 (by decide) (fun _ => ?_) (fun h => absurd h (by decide))
      refine r_aload_n hC 1 dX11_set_86 rfl rfl ?_
      refine r_getR hC 6 fl11_25 ob11 rfl dX11_set_87 ?_
      refine r_iload_n hC 2 dX11_set_90 rfl rfl ?_
      obtain ⟨g32, hO⟩ := hO
      refine r_iald hC sh11_8 g32 p1.toNatClampNeg rfl dX11_set_91 ?_
      refine r_nmI (fun x33 hx33 => ?_)
      have hO := hO x33 hx33
      refine r_istore hC [(4, .int x33), (3, .int 1), (0, .ref (mw_a G 0)), (1, .int p1), (2, .int p2)] dX11_set_92 (by decide) rfl ?_
      refine r_aload_n hC 2 dX11_set_94 rfl rfl ?_
      refine r_getR hC 6 fl11_25 ob11 rfl dX11_set_95 ?_
      refine r_iload_n hC 3 dX11_set_98 rfl rfl ?_
      refine r_iload_n hC 4 dX11_set_99 rfl rfl ?_
      obtain ⟨g34, hO⟩ := hO
      refine r_iast hC sh11_8 g34 p1.toNatClampNeg rfl dX11_set_100 ?_
      refine r_nmM (fun μ35 hμ35 => ?_)
      have hO := hO μ35 hμ35
      refine r_iload hC 0 dX11_set_101 rfl ?_
      exact r_iret hC rfl dX11_set_103 hO
    · refine r_topEq hr ?_
      obtain ⟨hO, hm⟩ := hO
      refine r_memEq hm ?_
      refine r_goto hC 79 dX11_set_15 (by decide) ?_
      refine r_istore_n hC [(3, .int 0), (0, .ref (mw_a G 0)), (1, .int p1), (2, .int p2)] dX11_set_79 rfl (by decide) rfl ?_
      refine r_iload_n hC 0 dX11_set_80 rfl rfl ?_
      refine r_if_ne hC 86 dX11_set_81 (by decide) (fun h => absurd (by decide) h) (fun _ => ?_)
      refine r_iconst hC (-1) dX11_set_84 (by decide) ?_
      exact r_iret hC rfl dX11_set_85 hO
set_option maxHeartbeats 4000000 in
set_option maxRecDepth 100000 in
theorem T11_floor {l : Launch} {G : mw_G} {p1 : Int32} {p2 : Int32} {μ : mw_M} {Q : Int32 → mw_M → Prop}  (hO : P11_floor p1 p2 μ Q) : mw_Mi l G kdM yX11_floor cX11_floor 3 (some .int) 1 25 [.ref (mw_a G 0), .int p1, .int p2] μ (Q) := by
  refine mw_enter [(0, .ref (mw_a G 0)), (1, .int p1), (2, .int p2)] RX11 (by decide) rfl (Nat.le_of_ble_eq_true rfl) rfl ?_
  intro p e s m args below meth c hC
  unfold P11_floor at hO
  refine r_iload_n hC 1 dX11_floor_0 rfl rfl ?_
  refine r_i2l hC dX11_floor_1 ?_
  refine r_lconst hC 1 dX11_floor_2 (by decide) ?_
  refine r_ldc2 hC kc11_149 dX11_floor_3 ?_
  refine r_callSi hC [.long (Int32.toInt64 p1), .long 1, .long 999] (T11_within  hO) yv11_within ml11_106 ⟨Nat.le_of_ble_eq_true rfl, Nat.le_of_ble_eq_true rfl⟩ rfl rfl (Nat.le_of_ble_eq_true rfl) dX11_floor_6 (fun r1 μ2 hO => ?_)
  rcases hO with ⟨hr, hO⟩ | ⟨hr, hO⟩
  · refine r_topEq hr ?_
    obtain ⟨hO, hm⟩ := hO
    refine r_memEq hm ?_
    refine r_if_eq hC 34 dX11_floor_9 (by decide) (fun h => absurd h (by decide)) (fun _ => ?_)
    refine r_iload_n hC 2 dX11_floor_12 rfl rfl ?_
    refine r_if_lt hC 34 dX11_floor_13 (by decide) (fun h3 => ?_) (fun h3 => ?_)
    · have hO := hO.1 h3
      refine r_iconst hC (-1) dX11_floor_34 (by decide) ?_
      exact r_iret hC rfl dX11_floor_35 hO
    · have hO := hO.2 h3
      refine r_iload_n hC 2 dX11_floor_16 rfl rfl ?_
      refine r_bipush hC 100 dX11_floor_17 (by decide) ?_
      refine r_idiv hC dX11_floor_19 (by decide) ?_
      refine r_bipush hC 18 dX11_floor_20 (by decide) ?_
      refine r_icmp_gt hC 34 dX11_floor_22 (by decide) (fun h4 => ?_) (fun h4 => ?_)
      · have hO := hO.1 h4
        refine r_iconst hC (-1) dX11_floor_34 (by decide) ?_
        exact r_iret hC rfl dX11_floor_35 hO
      · have hO := hO.2 h4
        refine r_iload_n hC 2 dX11_floor_25 rfl rfl ?_
        refine r_bipush hC 100 dX11_floor_26 (by decide) ?_
        refine r_irem hC dX11_floor_28 (by decide) ?_
        refine r_bipush hC 18 dX11_floor_29 (by decide) ?_
        refine r_icmp_le hC 36 dX11_floor_31 (by decide) (fun h5 => ?_) (fun h5 => ?_)
        · have hO := hO.1 h5
          refine r_aload_n hC 0 dX11_floor_36 rfl rfl ?_
          refine r_getI hC fl11_151 ob11 rfl dX11_floor_37 ?_
          refine r_iconst hC 4 dX11_floor_40 (by decide) ?_
          refine r_icmp_ne hC 47 dX11_floor_41 (by decide) (fun h6 => ?_) (fun h6 => ?_)
          · have hO := hO.2 h6
            refine r_aload_n hC 0 dX11_floor_47 rfl rfl ?_
            refine r_getR hC 7 fl11_28 ob11 rfl dX11_floor_48 ?_
            refine r_aload_n hC 0 dX11_floor_51 rfl rfl ?_
            refine r_getI hC fl11_151 ob11 rfl dX11_floor_52 ?_
            refine r_iload_n hC 1 dX11_floor_55 rfl rfl ?_
            obtain ⟨g7, hO⟩ := hO
            refine r_iast hC sh11_10 g7 ((μ.1 0 9).toNatClampNeg) rfl dX11_floor_56 ?_
            refine r_nmM (fun μ8 hμ8 => ?_)
            have hO := hO μ8 hμ8
            refine r_aload_n hC 0 dX11_floor_57 rfl rfl ?_
            refine r_getR hC 8 fl11_31 ob11 rfl dX11_floor_58 ?_
            refine r_aload_n hC 0 dX11_floor_61 rfl rfl ?_
            refine r_getI hC fl11_151 ob11 rfl dX11_floor_62 ?_
            refine r_iload_n hC 2 dX11_floor_65 rfl rfl ?_
            refine r_bipush hC 100 dX11_floor_66 (by decide) ?_
            refine r_idiv hC dX11_floor_68 (by decide) ?_
            refine r_bipush hC 9 dX11_floor_69 (by decide) ?_
            refine r_isub hC dX11_floor_71 ?_
            obtain ⟨g9, hO⟩ := hO
            refine r_iast hC sh11_11 g9 ((μ8.1 0 9).toNatClampNeg) rfl dX11_floor_72 ?_
            refine r_nmM (fun μ10 hμ10 => ?_)
            have hO := hO μ10 hμ10
            refine r_aload_n hC 0 dX11_floor_73 rfl rfl ?_
            refine r_getR hC 9 fl11_34 ob11 rfl dX11_floor_74 ?_
            refine r_aload_n hC 0 dX11_floor_77 rfl rfl ?_
            refine r_getI hC fl11_151 ob11 rfl dX11_floor_78 ?_
            refine r_iload_n hC 2 dX11_floor_81 rfl rfl ?_
            refine r_bipush hC 100 dX11_floor_82 (by decide) ?_
            refine r_irem hC dX11_floor_84 (by decide) ?_
            refine r_bipush hC 9 dX11_floor_85 (by decide) ?_
            refine r_isub hC dX11_floor_87 ?_
            obtain ⟨g11, hO⟩ := hO
            refine r_iast hC sh11_12 g11 ((μ10.1 0 9).toNatClampNeg) rfl dX11_floor_88 ?_
            refine r_nmM (fun μ12 hμ12 => ?_)
            have hO := hO μ12 hμ12
            refine r_aload_n hC 0 dX11_floor_89 rfl rfl ?_
            refine r_dup hC dX11_floor_90 rfl ?_
            refine r_getI hC fl11_151 ob11 rfl dX11_floor_91 ?_
            refine r_iconst hC 1 dX11_floor_94 (by decide) ?_
            refine r_iadd hC dX11_floor_95 ?_
            refine r_putI hC fl11_151 ob11 rfl rfl rfl dX11_floor_96 ?_
            refine r_nmM (fun μ13 hμ13 => ?_)
            have hO := hO μ13 hμ13
            refine r_aload_n hC 0 dX11_floor_99 rfl rfl ?_
            refine r_getI hC fl11_151 ob11 rfl dX11_floor_100 ?_
            refine r_iconst hC 1 dX11_floor_103 (by decide) ?_
            refine r_isub hC dX11_floor_104 ?_
            exact r_iret hC rfl dX11_floor_105 hO
          · have hO := hO.1 h6
            refine r_bipush hC (-3) dX11_floor_44 (by decide) ?_
            exact r_iret hC rfl dX11_floor_46 hO
        · have hO := hO.2 h5
          refine r_iconst hC (-1) dX11_floor_34 (by decide) ?_
          exact r_iret hC rfl dX11_floor_35 hO
  · refine r_topEq hr ?_
    obtain ⟨hO, hm⟩ := hO
    refine r_memEq hm ?_
    refine r_if_eq hC 34 dX11_floor_9 (by decide) (fun _ => ?_) (fun h => absurd (by decide) h)
    refine r_iconst hC (-1) dX11_floor_34 (by decide) ?_
    exact r_iret hC rfl dX11_floor_35 hO
set_option maxHeartbeats 4000000 in
set_option maxRecDepth 100000 in
theorem T11_sumX {l : Launch} {G : mw_G}  {μ : mw_M} {Q : Int32 → Prop}  (hO : P11_sumX μ Q) : mw_Mi l G kdM yX11_sumX cX11_sumX 3 (some .int) 1 21 [.ref (mw_a G 0)] μ (mw_pq μ Q) := by
  refine mw_enter [(0, .ref (mw_a G 0))] RX11 (by decide) rfl (Nat.le_of_ble_eq_true rfl) rfl ?_
  intro p e s m args below meth c hC
  unfold P11_sumX at hO
  refine r_aload_n hC 0 dX11_sumX_0 rfl rfl ?_
  refine r_getR hC 1 fl11_9 ob11 rfl dX11_sumX_1 ?_
  refine r_bipush hC 36 dX11_sumX_4 (by decide) ?_
  refine r_iald hC sh11_0 (vpc (by decide) : vp_in 36 37) 36 (by decide) dX11_sumX_6 ?_
  refine r_bipush hC 100 dX11_sumX_7 (by decide) ?_
  refine r_idiv hC dX11_sumX_9 (by decide) ?_
  refine r_aload_n hC 0 dX11_sumX_10 rfl rfl ?_
  refine r_getR hC 1 fl11_9 ob11 rfl dX11_sumX_11 ?_
  refine r_bipush hC 36 dX11_sumX_14 (by decide) ?_
  refine r_iald hC sh11_0 (vpc (by decide) : vp_in 36 37) 36 (by decide) dX11_sumX_16 ?_
  refine r_bipush hC 100 dX11_sumX_17 (by decide) ?_
  refine r_irem hC dX11_sumX_19 (by decide) ?_
  refine r_callSi hC [.int (mw_rem (μ.1 1 36) 100)] (T11_cosine  hO) yv11_cosine ml11_99 ⟨Nat.le_of_ble_eq_true rfl, Nat.le_of_ble_eq_true rfl⟩ rfl rfl (Nat.le_of_ble_eq_true rfl) dX11_sumX_20 (fun r1 μ2 hO => ?_)
  obtain ⟨hO, hm⟩ := hO
  refine r_memEq hm ?_
  refine r_imul hC dX11_sumX_23 ?_
  refine r_bipush hC 10 dX11_sumX_24 (by decide) ?_
  refine r_idiv hC dX11_sumX_26 (by decide) ?_
  refine r_nmI (fun x3 hx3 => ?_)
  have hO := hO x3 hx3
  refine r_istore_n hC [(1, .int x3), (0, .ref (mw_a G 0))] dX11_sumX_27 rfl (by decide) rfl ?_
  refine r_iconst hC 0 dX11_sumX_28 (by decide) ?_
  refine r_istore_n hC [(2, .int 0), (1, .int x3), (0, .ref (mw_a G 0))] dX11_sumX_29 rfl (by decide) rfl ?_
  have hLn6 : ∀   (n6 : Nat) (v4 : Int32) (v5 : Int32), L11_sumX_30 μ Q n6 v4 v5 → mw_W p l e (mw_rm 1 21) s m args below meth c G kdM 3 (MQ below (va_Qi (mw_pq μ Q) (mw_B G kdM) (mw_A G kdM)) args s 0 0 (mw_A G kdM)) 30 [(2, .int v4), (1, .int v5), (0, .ref (mw_a G 0))] [] μ := by
    intro   n6
    induction n6 with
    | zero => intro v4 v5 hO; exact False.elim hO
    | succ n6 ihn6 =>
      intro v4 v5 hO
      refine r_iload_n hC 0 dX11_sumX_30 rfl rfl ?_
      refine r_aload_n hC 2 dX11_sumX_31 rfl rfl ?_
      refine r_getI hC fl11_103 ob11 rfl dX11_sumX_32 ?_
      refine r_icmp_ge hC 79 dX11_sumX_35 (by decide) (fun h7 => ?_) (fun h7 => ?_)
      · have hO := hO.1 h7
        refine r_iload_n hC 1 dX11_sumX_79 rfl rfl ?_
        exact r_iret hC rfl dX11_sumX_80 ⟨hO, rfl⟩
      · have hO := hO.2 h7
        refine r_iload_n hC 1 dX11_sumX_38 rfl rfl ?_
        refine r_aload_n hC 2 dX11_sumX_39 rfl rfl ?_
        refine r_getR hC 1 fl11_9 ob11 rfl dX11_sumX_40 ?_
        refine r_iload_n hC 0 dX11_sumX_43 rfl rfl ?_
        obtain ⟨g8, hO⟩ := hO
        refine r_iald hC sh11_0 g8 v4.toNatClampNeg rfl dX11_sumX_44 ?_
        refine r_aload_n hC 2 dX11_sumX_45 rfl rfl ?_
        refine r_getR hC 1 fl11_9 ob11 rfl dX11_sumX_46 ?_
        refine r_bipush hC 12 dX11_sumX_49 (by decide) ?_
        refine r_iload_n hC 0 dX11_sumX_51 rfl rfl ?_
        refine r_iadd hC dX11_sumX_52 ?_
        obtain ⟨g9, hO⟩ := hO
        refine r_iald hC sh11_0 g9 ((12 + v4).toNatClampNeg) rfl dX11_sumX_53 ?_
        refine r_iadd hC dX11_sumX_54 ?_
        refine r_aload_n hC 2 dX11_sumX_55 rfl rfl ?_
        refine r_getR hC 1 fl11_9 ob11 rfl dX11_sumX_56 ?_
        refine r_bipush hC 24 dX11_sumX_59 (by decide) ?_
        refine r_iload_n hC 0 dX11_sumX_61 rfl rfl ?_
        refine r_iadd hC dX11_sumX_62 ?_
        obtain ⟨g10, hO⟩ := hO
        refine r_iald hC sh11_0 g10 ((24 + v4).toNatClampNeg) rfl dX11_sumX_63 ?_
        refine r_callSi hC [.int (μ.1 1 ((24 + v4).toNatClampNeg))] (T11_cosine  hO) yv11_cosine ml11_99 ⟨Nat.le_of_ble_eq_true rfl, Nat.le_of_ble_eq_true rfl⟩ rfl rfl (Nat.le_of_ble_eq_true rfl) dX11_sumX_64 (fun r11 μ12 hO => ?_)
        obtain ⟨hO, hm⟩ := hO
        refine r_memEq hm ?_
        refine r_imul hC dX11_sumX_67 ?_
        refine r_bipush hC 10 dX11_sumX_68 (by decide) ?_
        refine r_idiv hC dX11_sumX_70 (by decide) ?_
        refine r_iadd hC dX11_sumX_71 ?_
        refine r_nmI (fun x13 hx13 => ?_)
        have hO := hO x13 hx13
        refine r_istore_n hC [(1, .int x13), (2, .int v4), (0, .ref (mw_a G 0))] dX11_sumX_72 rfl (by decide) rfl ?_
        obtain ⟨x14, hx14⟩ : ∃ y : Int32, y = v4 + 1 := ⟨_, rfl⟩
        have hO := hO x14 hx14
        refine r_iinc hC x14 1 [(2, .int x14), (1, .int x13), (0, .ref (mw_a G 0))] dX11_sumX_73 rfl (by rw [hx14]; rfl) (by decide) rfl ?_
        refine r_goto hC 30 dX11_sumX_76 (by decide) ?_
        refine r_lv hC [(2, .int x14), (1, .int x13), (0, .ref (mw_a G 0))] [0, 1, 2] rfl ?_
        exact ihn6 x14 x13 hO
  obtain ⟨n6, hO⟩ := hO
  refine hLn6   n6 _ _ hO
set_option maxHeartbeats 4000000 in
set_option maxRecDepth 100000 in
theorem T11_sumY {l : Launch} {G : mw_G}  {μ : mw_M} {Q : Int32 → Prop}  (hO : P11_sumY μ Q) : mw_Mi l G kdM yX11_sumY cX11_sumY 3 (some .int) 2 41 [.ref (mw_a G 0)] μ (mw_pq μ Q) := by
  refine mw_enter [(0, .ref (mw_a G 0))] RX11 (by decide) rfl (Nat.le_of_ble_eq_true rfl) rfl ?_
  intro p e s m args below meth c hC
  unfold P11_sumY at hO
  refine r_aload_n hC 0 dX11_sumY_0 rfl rfl ?_
  refine r_getR hC 1 fl11_9 ob11 rfl dX11_sumY_1 ?_
  refine r_bipush hC 36 dX11_sumY_4 (by decide) ?_
  refine r_iald hC sh11_0 (vpc (by decide) : vp_in 36 37) 36 (by decide) dX11_sumY_6 ?_
  refine r_bipush hC 100 dX11_sumY_7 (by decide) ?_
  refine r_idiv hC dX11_sumY_9 (by decide) ?_
  refine r_aload_n hC 0 dX11_sumY_10 rfl rfl ?_
  refine r_getR hC 1 fl11_9 ob11 rfl dX11_sumY_11 ?_
  refine r_bipush hC 36 dX11_sumY_14 (by decide) ?_
  refine r_iald hC sh11_0 (vpc (by decide) : vp_in 36 37) 36 (by decide) dX11_sumY_16 ?_
  refine r_bipush hC 100 dX11_sumY_17 (by decide) ?_
  refine r_irem hC dX11_sumY_19 (by decide) ?_
  refine r_callSi hC [.int (mw_rem (μ.1 1 36) 100)] (T11_sine  hO) yv11_sine ml11_154 ⟨Nat.le_of_ble_eq_true rfl, Nat.le_of_ble_eq_true rfl⟩ rfl rfl (Nat.le_of_ble_eq_true rfl) dX11_sumY_20 (fun r1 μ2 hO => ?_)
  obtain ⟨hO, hm⟩ := hO
  refine r_memEq hm ?_
  refine r_imul hC dX11_sumY_23 ?_
  refine r_bipush hC 10 dX11_sumY_24 (by decide) ?_
  refine r_idiv hC dX11_sumY_26 (by decide) ?_
  refine r_nmI (fun x3 hx3 => ?_)
  have hO := hO x3 hx3
  refine r_istore_n hC [(1, .int x3), (0, .ref (mw_a G 0))] dX11_sumY_27 rfl (by decide) rfl ?_
  refine r_iconst hC 0 dX11_sumY_28 (by decide) ?_
  refine r_istore_n hC [(2, .int 0), (1, .int x3), (0, .ref (mw_a G 0))] dX11_sumY_29 rfl (by decide) rfl ?_
  have hLn6 : ∀   (n6 : Nat) (v4 : Int32) (v5 : Int32), L11_sumY_30 μ Q n6 v4 v5 → mw_W p l e (mw_rm 2 41) s m args below meth c G kdM 3 (MQ below (va_Qi (mw_pq μ Q) (mw_B G kdM) (mw_A G kdM)) args s 0 0 (mw_A G kdM)) 30 [(2, .int v4), (1, .int v5), (0, .ref (mw_a G 0))] [] μ := by
    intro   n6
    induction n6 with
    | zero => intro v4 v5 hO; exact False.elim hO
    | succ n6 ihn6 =>
      intro v4 v5 hO
      refine r_iload_n hC 0 dX11_sumY_30 rfl rfl ?_
      refine r_aload_n hC 2 dX11_sumY_31 rfl rfl ?_
      refine r_getI hC fl11_103 ob11 rfl dX11_sumY_32 ?_
      refine r_icmp_ge hC 79 dX11_sumY_35 (by decide) (fun h7 => ?_) (fun h7 => ?_)
      · have hO := hO.1 h7
        refine r_iload_n hC 1 dX11_sumY_79 rfl rfl ?_
        exact r_iret hC rfl dX11_sumY_80 ⟨hO, rfl⟩
      · have hO := hO.2 h7
        refine r_iload_n hC 1 dX11_sumY_38 rfl rfl ?_
        refine r_aload_n hC 2 dX11_sumY_39 rfl rfl ?_
        refine r_getR hC 1 fl11_9 ob11 rfl dX11_sumY_40 ?_
        refine r_iload_n hC 0 dX11_sumY_43 rfl rfl ?_
        obtain ⟨g8, hO⟩ := hO
        refine r_iald hC sh11_0 g8 v4.toNatClampNeg rfl dX11_sumY_44 ?_
        refine r_aload_n hC 2 dX11_sumY_45 rfl rfl ?_
        refine r_getR hC 1 fl11_9 ob11 rfl dX11_sumY_46 ?_
        refine r_bipush hC 12 dX11_sumY_49 (by decide) ?_
        refine r_iload_n hC 0 dX11_sumY_51 rfl rfl ?_
        refine r_iadd hC dX11_sumY_52 ?_
        obtain ⟨g9, hO⟩ := hO
        refine r_iald hC sh11_0 g9 ((12 + v4).toNatClampNeg) rfl dX11_sumY_53 ?_
        refine r_iadd hC dX11_sumY_54 ?_
        refine r_aload_n hC 2 dX11_sumY_55 rfl rfl ?_
        refine r_getR hC 1 fl11_9 ob11 rfl dX11_sumY_56 ?_
        refine r_bipush hC 24 dX11_sumY_59 (by decide) ?_
        refine r_iload_n hC 0 dX11_sumY_61 rfl rfl ?_
        refine r_iadd hC dX11_sumY_62 ?_
        obtain ⟨g10, hO⟩ := hO
        refine r_iald hC sh11_0 g10 ((24 + v4).toNatClampNeg) rfl dX11_sumY_63 ?_
        refine r_callSi hC [.int (μ.1 1 ((24 + v4).toNatClampNeg))] (T11_sine  hO) yv11_sine ml11_154 ⟨Nat.le_of_ble_eq_true rfl, Nat.le_of_ble_eq_true rfl⟩ rfl rfl (Nat.le_of_ble_eq_true rfl) dX11_sumY_64 (fun r11 μ12 hO => ?_)
        obtain ⟨hO, hm⟩ := hO
        refine r_memEq hm ?_
        refine r_imul hC dX11_sumY_67 ?_
        refine r_bipush hC 10 dX11_sumY_68 (by decide) ?_
        refine r_idiv hC dX11_sumY_70 (by decide) ?_
        refine r_iadd hC dX11_sumY_71 ?_
        refine r_nmI (fun x13 hx13 => ?_)
        have hO := hO x13 hx13
        refine r_istore_n hC [(1, .int x13), (2, .int v4), (0, .ref (mw_a G 0))] dX11_sumY_72 rfl (by decide) rfl ?_
        obtain ⟨x14, hx14⟩ : ∃ y : Int32, y = v4 + 1 := ⟨_, rfl⟩
        have hO := hO x14 hx14
        refine r_iinc hC x14 1 [(2, .int x14), (1, .int x13), (0, .ref (mw_a G 0))] dX11_sumY_73 rfl (by rw [hx14]; rfl) (by decide) rfl ?_
        refine r_goto hC 30 dX11_sumY_76 (by decide) ?_
        refine r_lv hC [(2, .int x14), (1, .int x13), (0, .ref (mw_a G 0))] [0, 1, 2] rfl ?_
        exact ihn6 x14 x13 hO
  obtain ⟨n6, hO⟩ := hO
  refine hLn6   n6 _ _ hO
set_option maxHeartbeats 4000000 in
set_option maxRecDepth 100000 in
theorem T11_lopsided {l : Launch} {G : mw_G}  {μ : mw_M} {Q : Int32 → Prop}  (hO : P11_lopsided μ Q) : mw_Mi l G kdM yX11_lopsided cX11_lopsided 5 (some .int) 3 63 [.ref (mw_a G 0)] μ (mw_pq μ Q) := by
  refine mw_enter [(0, .ref (mw_a G 0))] RX11 (by decide) rfl (Nat.le_of_ble_eq_true rfl) rfl ?_
  intro p e s m args below meth c hC
  unfold P11_lopsided at hO
  refine r_aload_n hC 0 dX11_lopsided_0 rfl rfl ?_
  refine r_callVi hC [] (T11_sumX  hO) yv11_sumX ml11_157 ob11 rfl ⟨Nat.le_of_ble_eq_true rfl, Nat.le_of_ble_eq_true rfl⟩ rfl rfl (Nat.le_of_ble_eq_true rfl) dX11_lopsided_1 (fun r1 μ2 hO => ?_)
  obtain ⟨hO, hm⟩ := hO
  refine r_memEq hm ?_
  refine r_callSi hC [.int r1] (T11_size  hO) yv11_size ml11_161 ⟨Nat.le_of_ble_eq_true rfl, Nat.le_of_ble_eq_true rfl⟩ rfl rfl (Nat.le_of_ble_eq_true rfl) dX11_lopsided_4 (fun r3 μ4 hO => ?_)
  obtain ⟨hO, hm⟩ := hO
  refine r_memEq hm ?_
  refine r_istore_n hC [(1, .int r3), (0, .ref (mw_a G 0))] dX11_lopsided_7 rfl (by decide) rfl ?_
  refine r_aload_n hC 1 dX11_lopsided_8 rfl rfl ?_
  refine r_callVi hC [] (T11_sumY  hO) yv11_sumY ml11_164 ob11 rfl ⟨Nat.le_of_ble_eq_true rfl, Nat.le_of_ble_eq_true rfl⟩ rfl rfl (Nat.le_of_ble_eq_true rfl) dX11_lopsided_9 (fun r5 μ6 hO => ?_)
  obtain ⟨hO, hm⟩ := hO
  refine r_memEq hm ?_
  refine r_callSi hC [.int r5] (T11_size  hO) yv11_size ml11_161 ⟨Nat.le_of_ble_eq_true rfl, Nat.le_of_ble_eq_true rfl⟩ rfl rfl (Nat.le_of_ble_eq_true rfl) dX11_lopsided_12 (fun r7 μ8 hO => ?_)
  obtain ⟨hO, hm⟩ := hO
  refine r_memEq hm ?_
  refine r_istore_n hC [(2, .int r7), (1, .int r3), (0, .ref (mw_a G 0))] dX11_lopsided_15 rfl (by decide) rfl ?_
  refine r_iload_n hC 1 dX11_lopsided_16 rfl rfl ?_
  refine r_iload_n hC 0 dX11_lopsided_17 rfl rfl ?_
  refine r_icmp_le hC 25 dX11_lopsided_18 (by decide) (fun h9 => ?_) (fun h9 => ?_)
  · have hO := hO.1 h9
    refine r_iload_n hC 0 dX11_lopsided_25 rfl rfl ?_
    refine r_istore_n hC [(3, .int r7), (2, .int r7), (1, .int r3), (0, .ref (mw_a G 0))] dX11_lopsided_26 rfl (by decide) rfl ?_
    refine r_iload_n hC 2 dX11_lopsided_27 rfl rfl ?_
    refine r_iload_n hC 1 dX11_lopsided_28 rfl rfl ?_
    refine r_icmp_le hC 36 dX11_lopsided_29 (by decide) (fun h10 => ?_) (fun h10 => ?_)
    · have hO := hO.1 h10
      refine r_iload_n hC 2 dX11_lopsided_36 rfl rfl ?_
      refine r_istore hC [(4, .int r3), (3, .int r7), (2, .int r7), (1, .int r3), (0, .ref (mw_a G 0))] dX11_lopsided_37 (by decide) rfl ?_
      refine r_iload_n hC 1 dX11_lopsided_39 rfl rfl ?_
      refine r_iconst hC 3 dX11_lopsided_40 (by decide) ?_
      refine r_iload hC 0 dX11_lopsided_41 rfl ?_
      refine r_imul hC dX11_lopsided_43 ?_
      refine r_bipush hC 8 dX11_lopsided_44 (by decide) ?_
      refine r_idiv hC dX11_lopsided_46 (by decide) ?_
      refine r_iadd hC dX11_lopsided_47 ?_
      refine r_bipush hC 100 dX11_lopsided_48 (by decide) ?_
      refine r_idiv hC dX11_lopsided_50 (by decide) ?_
      exact r_iret hC rfl dX11_lopsided_51 ⟨hO, rfl⟩
    · have hO := hO.2 h10
      refine r_iload_n hC 1 dX11_lopsided_32 rfl rfl ?_
      refine r_goto hC 37 dX11_lopsided_33 (by decide) ?_
      refine r_istore hC [(4, .int r7), (3, .int r7), (2, .int r7), (1, .int r3), (0, .ref (mw_a G 0))] dX11_lopsided_37 (by decide) rfl ?_
      refine r_iload_n hC 1 dX11_lopsided_39 rfl rfl ?_
      refine r_iconst hC 3 dX11_lopsided_40 (by decide) ?_
      refine r_iload hC 0 dX11_lopsided_41 rfl ?_
      refine r_imul hC dX11_lopsided_43 ?_
      refine r_bipush hC 8 dX11_lopsided_44 (by decide) ?_
      refine r_idiv hC dX11_lopsided_46 (by decide) ?_
      refine r_iadd hC dX11_lopsided_47 ?_
      refine r_bipush hC 100 dX11_lopsided_48 (by decide) ?_
      refine r_idiv hC dX11_lopsided_50 (by decide) ?_
      exact r_iret hC rfl dX11_lopsided_51 ⟨hO, rfl⟩
  · have hO := hO.2 h9
    refine r_iload_n hC 1 dX11_lopsided_21 rfl rfl ?_
    refine r_goto hC 26 dX11_lopsided_22 (by decide) ?_
    refine r_istore_n hC [(3, .int r3), (2, .int r7), (1, .int r3), (0, .ref (mw_a G 0))] dX11_lopsided_26 rfl (by decide) rfl ?_
    refine r_iload_n hC 2 dX11_lopsided_27 rfl rfl ?_
    refine r_iload_n hC 1 dX11_lopsided_28 rfl rfl ?_
    refine r_icmp_le hC 36 dX11_lopsided_29 (by decide) (fun h11 => ?_) (fun h11 => ?_)
    · have hO := hO.1 h11
      refine r_iload_n hC 2 dX11_lopsided_36 rfl rfl ?_
      refine r_istore hC [(4, .int r3), (3, .int r3), (2, .int r7), (1, .int r3), (0, .ref (mw_a G 0))] dX11_lopsided_37 (by decide) rfl ?_
      refine r_iload_n hC 1 dX11_lopsided_39 rfl rfl ?_
      refine r_iconst hC 3 dX11_lopsided_40 (by decide) ?_
      refine r_iload hC 0 dX11_lopsided_41 rfl ?_
      refine r_imul hC dX11_lopsided_43 ?_
      refine r_bipush hC 8 dX11_lopsided_44 (by decide) ?_
      refine r_idiv hC dX11_lopsided_46 (by decide) ?_
      refine r_iadd hC dX11_lopsided_47 ?_
      refine r_bipush hC 100 dX11_lopsided_48 (by decide) ?_
      refine r_idiv hC dX11_lopsided_50 (by decide) ?_
      exact r_iret hC rfl dX11_lopsided_51 ⟨hO, rfl⟩
    · have hO := hO.2 h11
      refine r_iload_n hC 1 dX11_lopsided_32 rfl rfl ?_
      refine r_goto hC 37 dX11_lopsided_33 (by decide) ?_
      refine r_istore hC [(4, .int r7), (3, .int r3), (2, .int r7), (1, .int r3), (0, .ref (mw_a G 0))] dX11_lopsided_37 (by decide) rfl ?_
      refine r_iload_n hC 1 dX11_lopsided_39 rfl rfl ?_
      refine r_iconst hC 3 dX11_lopsided_40 (by decide) ?_
      refine r_iload hC 0 dX11_lopsided_41 rfl ?_
      refine r_imul hC dX11_lopsided_43 ?_
      refine r_bipush hC 8 dX11_lopsided_44 (by decide) ?_
      refine r_idiv hC dX11_lopsided_46 (by decide) ?_
      refine r_iadd hC dX11_lopsided_47 ?_
      refine r_bipush hC 100 dX11_lopsided_48 (by decide) ?_
      refine r_idiv hC dX11_lopsided_50 (by decide) ?_
      exact r_iret hC rfl dX11_lopsided_51 ⟨hO, rfl⟩
set_option maxHeartbeats 4000000 in
set_option maxRecDepth 100000 in
theorem T11_side {l : Launch} {G : mw_G}  {μ : mw_M} {Q : Int32 → Prop}  (hO : P11_side μ Q) : mw_Mi l G kdM yX11_side cX11_side 5 (some .int) 3 63 [.ref (mw_a G 0)] μ (mw_pq μ Q) := by
  refine mw_enter [(0, .ref (mw_a G 0))] RX11 (by decide) rfl (Nat.le_of_ble_eq_true rfl) rfl ?_
  intro p e s m args below meth c hC
  unfold P11_side at hO
  refine r_aload_n hC 0 dX11_side_0 rfl rfl ?_
  refine r_callVi hC [] (T11_sumX  hO) yv11_sumX ml11_157 ob11 rfl ⟨Nat.le_of_ble_eq_true rfl, Nat.le_of_ble_eq_true rfl⟩ rfl rfl (Nat.le_of_ble_eq_true rfl) dX11_side_1 (fun r1 μ2 hO => ?_)
  obtain ⟨hO, hm⟩ := hO
  refine r_memEq hm ?_
  refine r_istore_n hC [(1, .int r1), (0, .ref (mw_a G 0))] dX11_side_4 rfl (by decide) rfl ?_
  refine r_aload_n hC 1 dX11_side_5 rfl rfl ?_
  refine r_callVi hC [] (T11_sumY  hO) yv11_sumY ml11_164 ob11 rfl ⟨Nat.le_of_ble_eq_true rfl, Nat.le_of_ble_eq_true rfl⟩ rfl rfl (Nat.le_of_ble_eq_true rfl) dX11_side_6 (fun r3 μ4 hO => ?_)
  obtain ⟨hO, hm⟩ := hO
  refine r_memEq hm ?_
  refine r_istore_n hC [(2, .int r3), (1, .int r1), (0, .ref (mw_a G 0))] dX11_side_9 rfl (by decide) rfl ?_
  refine r_iconst hC 0 dX11_side_10 (by decide) ?_
  refine r_istore_n hC [(3, .int 0), (2, .int r3), (1, .int r1), (0, .ref (mw_a G 0))] dX11_side_11 rfl (by decide) rfl ?_
  refine r_iconst hC 1 dX11_side_12 (by decide) ?_
  refine r_istore hC [(4, .int 1), (3, .int 0), (2, .int r3), (1, .int r1), (0, .ref (mw_a G 0))] dX11_side_13 (by decide) rfl ?_
  have hLn7 : ∀   (n7 : Nat) (v5 : Int32) (v6 : Int32), L11_side_15 r3 r1 μ Q n7 v5 v6 → mw_W p l e (mw_rm 3 63) s m args below meth c G kdM 5 (MQ below (va_Qi (mw_pq μ Q) (mw_B G kdM) (mw_A G kdM)) args s 0 0 (mw_A G kdM)) 15 [(4, .int v5), (3, .int v6), (2, .int r3), (1, .int r1), (0, .ref (mw_a G 0))] [] μ := by
    intro   n7
    induction n7 with
    | zero => intro v5 v6 hO; exact False.elim hO
    | succ n7 ihn7 =>
      intro v5 v6 hO
      refine r_iload hC 0 dX11_side_15 rfl ?_
      refine r_bipush hC 12 dX11_side_17 (by decide) ?_
      refine r_icmp_ge hC 66 dX11_side_19 (by decide) (fun h8 => ?_) (fun h8 => ?_)
      · have hO := hO.1 h8
        refine r_iload_n hC 1 dX11_side_66 rfl rfl ?_
        exact r_iret hC rfl dX11_side_67 ⟨hO, rfl⟩
      · have hO := hO.2 h8
        refine r_iload_n hC 3 dX11_side_22 rfl rfl ?_
        refine r_iload hC 0 dX11_side_23 rfl ?_
        refine r_callSi hC [.int v5] (T11_cosine  hO) yv11_cosine ml11_99 ⟨Nat.le_of_ble_eq_true rfl, Nat.le_of_ble_eq_true rfl⟩ rfl rfl (Nat.le_of_ble_eq_true rfl) dX11_side_25 (fun r9 μ10 hO => ?_)
        obtain ⟨hO, hm⟩ := hO
        refine r_memEq hm ?_
        refine r_imul hC dX11_side_28 ?_
        refine r_iload_n hC 2 dX11_side_29 rfl rfl ?_
        refine r_iload hC 0 dX11_side_30 rfl ?_
        refine r_callSi hC [.int v5] (T11_sine  hO) yv11_sine ml11_154 ⟨Nat.le_of_ble_eq_true rfl, Nat.le_of_ble_eq_true rfl⟩ rfl rfl (Nat.le_of_ble_eq_true rfl) dX11_side_32 (fun r11 μ12 hO => ?_)
        obtain ⟨hO, hm⟩ := hO
        refine r_memEq hm ?_
        refine r_imul hC dX11_side_35 ?_
        refine r_iadd hC dX11_side_36 ?_
        refine r_iload_n hC 3 dX11_side_37 rfl rfl ?_
        refine r_iload_n hC 1 dX11_side_38 rfl rfl ?_
        refine r_callSi hC [.int v6] (T11_cosine  hO) yv11_cosine ml11_99 ⟨Nat.le_of_ble_eq_true rfl, Nat.le_of_ble_eq_true rfl⟩ rfl rfl (Nat.le_of_ble_eq_true rfl) dX11_side_39 (fun r13 μ14 hO => ?_)
        obtain ⟨hO, hm⟩ := hO
        refine r_memEq hm ?_
        refine r_imul hC dX11_side_42 ?_
        refine r_iload_n hC 2 dX11_side_43 rfl rfl ?_
        refine r_iload_n hC 1 dX11_side_44 rfl rfl ?_
        refine r_callSi hC [.int v6] (T11_sine  hO) yv11_sine ml11_154 ⟨Nat.le_of_ble_eq_true rfl, Nat.le_of_ble_eq_true rfl⟩ rfl rfl (Nat.le_of_ble_eq_true rfl) dX11_side_45 (fun r15 μ16 hO => ?_)
        obtain ⟨hO, hm⟩ := hO
        refine r_memEq hm ?_
        refine r_imul hC dX11_side_48 ?_
        refine r_iadd hC dX11_side_49 ?_
        refine r_icmp_le hC 58 dX11_side_50 (by decide) (fun h17 => ?_) (fun h17 => ?_)
        · have hO := hO.1 h17
          refine r_iload_n hC 1 dX11_side_58 rfl rfl ?_
          refine r_istore_n hC [(3, .int v6), (4, .int v5), (2, .int r3), (1, .int r1), (0, .ref (mw_a G 0))] dX11_side_59 rfl (by decide) rfl ?_
          obtain ⟨x18, hx18⟩ : ∃ y : Int32, y = v5 + 1 := ⟨_, rfl⟩
          have hO := hO x18 hx18
          refine r_iinc hC x18 1 [(4, .int x18), (3, .int v6), (2, .int r3), (1, .int r1), (0, .ref (mw_a G 0))] dX11_side_60 rfl (by rw [hx18]; rfl) (by decide) rfl ?_
          refine r_goto hC 15 dX11_side_63 (by decide) ?_
          refine r_lv hC [(4, .int x18), (3, .int v6), (2, .int r3), (1, .int r1), (0, .ref (mw_a G 0))] [0, 1, 2, 3, 4] rfl ?_
          exact ihn7 x18 v6 hO
        · have hO := hO.2 h17
          refine r_iload hC 0 dX11_side_53 rfl ?_
          refine r_goto hC 59 dX11_side_55 (by decide) ?_
          refine r_istore_n hC [(3, .int v5), (4, .int v5), (2, .int r3), (1, .int r1), (0, .ref (mw_a G 0))] dX11_side_59 rfl (by decide) rfl ?_
          obtain ⟨x19, hx19⟩ : ∃ y : Int32, y = v5 + 1 := ⟨_, rfl⟩
          have hO := hO x19 hx19
          refine r_iinc hC x19 1 [(4, .int x19), (3, .int v5), (2, .int r3), (1, .int r1), (0, .ref (mw_a G 0))] dX11_side_60 rfl (by rw [hx19]; rfl) (by decide) rfl ?_
          refine r_goto hC 15 dX11_side_63 (by decide) ?_
          refine r_lv hC [(4, .int x19), (3, .int v5), (2, .int r3), (1, .int r1), (0, .ref (mw_a G 0))] [0, 1, 2, 3, 4] rfl ?_
          exact ihn7 x19 v5 hO
  obtain ⟨n7, hO⟩ := hO
  refine hLn7   n7 _ _ hO
set_option maxHeartbeats 4000000 in
set_option maxRecDepth 100000 in
theorem T11_allWet {l : Launch} {G : mw_G}  {μ : mw_M} {Q : Int32 → Prop}  (hO : P11_allWet μ Q) : mw_Mi l G kdM yX11_allWet cX11_allWet 3 (some .int) 0 0 [.ref (mw_a G 0)] μ (mw_pq μ Q) := by
  refine mw_enter [(0, .ref (mw_a G 0))] RX11 (by decide) rfl (Nat.le_of_ble_eq_true rfl) rfl ?_
  intro p e s m args below meth c hC
  unfold P11_allWet at hO
  refine r_iconst hC 0 dX11_allWet_0 (by decide) ?_
  refine r_istore_n hC [(1, .int 0), (0, .ref (mw_a G 0))] dX11_allWet_1 rfl (by decide) rfl ?_
  refine r_iconst hC 0 dX11_allWet_2 (by decide) ?_
  refine r_istore_n hC [(2, .int 0), (1, .int 0), (0, .ref (mw_a G 0))] dX11_allWet_3 rfl (by decide) rfl ?_
  have hLn3 : ∀   (n3 : Nat) (v1 : Int32) (v2 : Int32), L11_allWet_4 μ Q n3 v1 v2 → mw_W p l e (mw_rm 0 0) s m args below meth c G kdM 3 (MQ below (va_Qi (mw_pq μ Q) (mw_B G kdM) (mw_A G kdM)) args s 0 0 (mw_A G kdM)) 4 [(2, .int v1), (1, .int v2), (0, .ref (mw_a G 0))] [] μ := by
    intro   n3
    induction n3 with
    | zero => intro v1 v2 hO; exact False.elim hO
    | succ n3 ihn3 =>
      intro v1 v2 hO
      refine r_iload_n hC 0 dX11_allWet_4 rfl rfl ?_
      refine r_aload_n hC 2 dX11_allWet_5 rfl rfl ?_
      refine r_getI hC fl11_103 ob11 rfl dX11_allWet_6 ?_
      refine r_icmp_ge hC 30 dX11_allWet_9 (by decide) (fun h4 => ?_) (fun h4 => ?_)
      · have hO := hO.1 h4
        refine r_iload_n hC 1 dX11_allWet_30 rfl rfl ?_
        exact r_iret hC rfl dX11_allWet_31 ⟨hO, rfl⟩
      · have hO := hO.2 h4
        refine r_iload_n hC 1 dX11_allWet_12 rfl rfl ?_
        refine r_aload_n hC 2 dX11_allWet_13 rfl rfl ?_
        refine r_getR hC 1 fl11_9 ob11 rfl dX11_allWet_14 ?_
        refine r_bipush hC 12 dX11_allWet_17 (by decide) ?_
        refine r_iload_n hC 0 dX11_allWet_19 rfl rfl ?_
        refine r_iadd hC dX11_allWet_20 ?_
        obtain ⟨g5, hO⟩ := hO
        refine r_iald hC sh11_0 g5 ((12 + v1).toNatClampNeg) rfl dX11_allWet_21 ?_
        refine r_iadd hC dX11_allWet_22 ?_
        refine r_nmI (fun x6 hx6 => ?_)
        have hO := hO x6 hx6
        refine r_istore_n hC [(1, .int x6), (2, .int v1), (0, .ref (mw_a G 0))] dX11_allWet_23 rfl (by decide) rfl ?_
        obtain ⟨x7, hx7⟩ : ∃ y : Int32, y = v1 + 1 := ⟨_, rfl⟩
        have hO := hO x7 hx7
        refine r_iinc hC x7 1 [(2, .int x7), (1, .int x6), (0, .ref (mw_a G 0))] dX11_allWet_24 rfl (by rw [hx7]; rfl) (by decide) rfl ?_
        refine r_goto hC 4 dX11_allWet_27 (by decide) ?_
        refine r_lv hC [(2, .int x7), (1, .int x6), (0, .ref (mw_a G 0))] [0, 1, 2] rfl ?_
        exact ihn3 x7 x6 hO
  obtain ⟨n3, hO⟩ := hO
  refine hLn3   n3 _ _ hO
set_option maxHeartbeats 4000000 in
set_option maxRecDepth 100000 in
theorem T11_load {l : Launch} {G : mw_G} {p1 : Int32} {μ : mw_M} {Q : Int32 → Prop}  (hO : P11_load p1 μ Q) : mw_Mi l G kdM yX11_load cX11_load 2 (some .int) 4 87 [.ref (mw_a G 0), .int p1] μ (mw_pq μ Q) := by
  refine mw_enter [(0, .ref (mw_a G 0)), (1, .int p1)] RX11 (by decide) rfl (Nat.le_of_ble_eq_true rfl) rfl ?_
  intro p e s m args below meth c hC
  unfold P11_load at hO
  refine r_iload_n hC 1 dX11_load_0 rfl rfl ?_
  by_cases h1 : p1 = 0
  · have hO := hO.1 h1
    refine r_tin hC 36 dX11_load_1 (by rw [h1]; decide) (by rw [h1]; decide) (by rw [h1] <;> rfl) (by decide) ?_
    refine r_aload_n hC 0 dX11_load_36 rfl rfl ?_
    refine r_callVi hC [] (T11_lopsided  hO) yv11_lopsided ml11_167 ob11 rfl ⟨Nat.le_of_ble_eq_true rfl, Nat.le_of_ble_eq_true rfl⟩ rfl rfl (Nat.le_of_ble_eq_true rfl) dX11_load_37 (fun r2 μ3 hO => ?_)
    obtain ⟨hO, hm⟩ := hO
    refine r_memEq hm ?_
    exact r_iret hC rfl dX11_load_40 ⟨hO, rfl⟩
  by_cases h4 : p1 = 1
  · have hO := hO.2.1 h4
    refine r_tin hC 41 dX11_load_1 (by rw [h4]; decide) (by rw [h4]; decide) (by rw [h4] <;> rfl) (by decide) ?_
    refine r_aload_n hC 0 dX11_load_41 rfl rfl ?_
    refine r_callVi hC [] (T11_sumX  hO) yv11_sumX ml11_157 ob11 rfl ⟨Nat.le_of_ble_eq_true rfl, Nat.le_of_ble_eq_true rfl⟩ rfl rfl (Nat.le_of_ble_eq_true rfl) dX11_load_42 (fun r5 μ6 hO => ?_)
    obtain ⟨hO, hm⟩ := hO
    refine r_memEq hm ?_
    exact r_iret hC rfl dX11_load_45 ⟨hO, rfl⟩
  by_cases h7 : p1 = 2
  · have hO := hO.2.2.1 h7
    refine r_tin hC 46 dX11_load_1 (by rw [h7]; decide) (by rw [h7]; decide) (by rw [h7] <;> rfl) (by decide) ?_
    refine r_aload_n hC 0 dX11_load_46 rfl rfl ?_
    refine r_callVi hC [] (T11_sumY  hO) yv11_sumY ml11_164 ob11 rfl ⟨Nat.le_of_ble_eq_true rfl, Nat.le_of_ble_eq_true rfl⟩ rfl rfl (Nat.le_of_ble_eq_true rfl) dX11_load_47 (fun r8 μ9 hO => ?_)
    obtain ⟨hO, hm⟩ := hO
    refine r_memEq hm ?_
    exact r_iret hC rfl dX11_load_50 ⟨hO, rfl⟩
  by_cases h10 : p1 = 3
  · have hO := hO.2.2.2.1 h10
    refine r_tin hC 51 dX11_load_1 (by rw [h10]; decide) (by rw [h10]; decide) (by rw [h10] <;> rfl) (by decide) ?_
    refine r_aload_n hC 0 dX11_load_51 rfl rfl ?_
    refine r_callVi hC [] (T11_side  hO) yv11_side ml11_170 ob11 rfl ⟨Nat.le_of_ble_eq_true rfl, Nat.le_of_ble_eq_true rfl⟩ rfl rfl (Nat.le_of_ble_eq_true rfl) dX11_load_52 (fun r11 μ12 hO => ?_)
    obtain ⟨hO, hm⟩ := hO
    refine r_memEq hm ?_
    exact r_iret hC rfl dX11_load_55 ⟨hO, rfl⟩
  by_cases h13 : p1 = 4
  · have hO := hO.2.2.2.2.1 h13
    refine r_tin hC 56 dX11_load_1 (by rw [h13]; decide) (by rw [h13]; decide) (by rw [h13] <;> rfl) (by decide) ?_
    refine r_aload_n hC 0 dX11_load_56 rfl rfl ?_
    refine r_callVi hC [] (T11_allWet  hO) yv11_allWet ml11_173 ob11 rfl ⟨Nat.le_of_ble_eq_true rfl, Nat.le_of_ble_eq_true rfl⟩ rfl rfl (Nat.le_of_ble_eq_true rfl) dX11_load_57 (fun r14 μ15 hO => ?_)
    obtain ⟨hO, hm⟩ := hO
    refine r_memEq hm ?_
    exact r_iret hC rfl dX11_load_60 ⟨hO, rfl⟩
  have hO := hO.2.2.2.2.2 h1 h4 h7 h10 h13
  refine r_tdef hC 61 dX11_load_1 (by decide) rfl (fun k hk => match k, hk with | 0, _ => Or.inr (mw_ne h1 rfl) | 1, _ => Or.inr (mw_ne h4 rfl) | 2, _ => Or.inr (mw_ne h7 rfl) | 3, _ => Or.inr (mw_ne h10 rfl) | 4, _ => Or.inr (mw_ne h13 rfl) | k + 5, h => absurd h (by show ¬ k + 5 < 5; omega)) ?_
  refine r_ldc hC kc11_176 dX11_load_61 ?_
  exact r_iret hC rfl dX11_load_63 ⟨hO, rfl⟩
set_option maxHeartbeats 4000000 in
set_option maxRecDepth 100000 in
theorem T11_shakeOf {l : Launch} {G : mw_G} {p1 : Int32} {p2 : Int32} {μ : mw_M} {Q : Int32 → Prop}  (hO : P11_shakeOf p1 p2 μ Q) : mw_Mi l G kdM yX11_shakeOf cX11_shakeOf 7 (some .int) 1 20 [.ref (mw_a G 0), .int p1, .int p2] μ (mw_pq μ Q) := by
  refine mw_enter [(0, .ref (mw_a G 0)), (1, .int p1), (2, .int p2)] RX11 (by decide) rfl (Nat.le_of_ble_eq_true rfl) rfl ?_
  intro p e s m args below meth c hC
  unfold P11_shakeOf at hO
  refine r_iload_n hC 2 dX11_shakeOf_0 rfl rfl ?_
  refine r_bipush hC 10 dX11_shakeOf_1 (by decide) ?_
  refine r_idiv hC dX11_shakeOf_3 (by decide) ?_
  refine r_nmI (fun x1 hx1 => ?_)
  have hO := hO x1 hx1
  refine r_istore_n hC [(3, .int x1), (0, .ref (mw_a G 0)), (1, .int p1), (2, .int p2)] dX11_shakeOf_4 rfl (by decide) rfl ?_
  refine r_aload_n hC 1 dX11_shakeOf_5 rfl rfl ?_
  refine r_getR hC 6 fl11_25 ob11 rfl dX11_shakeOf_6 ?_
  refine r_iconst hC 0 dX11_shakeOf_9 (by decide) ?_
  refine r_iald hC sh11_8 (vpc (by decide) : vp_in 0 5) 0 (by decide) dX11_shakeOf_10 ?_
  refine r_bipush hC 10 dX11_shakeOf_11 (by decide) ?_
  refine r_idiv hC dX11_shakeOf_13 (by decide) ?_
  refine r_nmI (fun x2 hx2 => ?_)
  have hO := hO x2 hx2
  refine r_istore hC [(4, .int x2), (3, .int x1), (0, .ref (mw_a G 0)), (1, .int p1), (2, .int p2)] dX11_shakeOf_14 (by decide) rfl ?_
  refine r_iload_n hC 3 dX11_shakeOf_16 rfl rfl ?_
  refine r_i2l hC dX11_shakeOf_17 ?_
  refine r_iload_n hC 1 dX11_shakeOf_18 rfl rfl ?_
  refine r_i2l hC dX11_shakeOf_19 ?_
  refine r_lmul hC dX11_shakeOf_20 ?_
  refine r_iload_n hC 1 dX11_shakeOf_21 rfl rfl ?_
  refine r_i2l hC dX11_shakeOf_22 ?_
  refine r_lmul hC dX11_shakeOf_23 ?_
  refine r_iload_n hC 1 dX11_shakeOf_24 rfl rfl ?_
  refine r_iload_n hC 1 dX11_shakeOf_25 rfl rfl ?_
  refine r_imul hC dX11_shakeOf_26 ?_
  refine r_iload hC 0 dX11_shakeOf_27 rfl ?_
  refine r_iload hC 0 dX11_shakeOf_29 rfl ?_
  refine r_imul hC dX11_shakeOf_31 ?_
  refine r_isub hC dX11_shakeOf_32 ?_
  refine r_callSi hC [.int ((x1 * x1) - (x2 * x2))] (T11_size  hO) yv11_size ml11_161 ⟨Nat.le_of_ble_eq_true rfl, Nat.le_of_ble_eq_true rfl⟩ rfl rfl (Nat.le_of_ble_eq_true rfl) dX11_shakeOf_33 (fun r3 μ4 hO => ?_)
  obtain ⟨hO, hm⟩ := hO
  refine r_memEq hm ?_
  refine r_aload_n hC 2 dX11_shakeOf_36 rfl rfl ?_
  refine r_getR hC 6 fl11_25 ob11 rfl dX11_shakeOf_37 ?_
  refine r_iconst hC 1 dX11_shakeOf_40 (by decide) ?_
  refine r_iald hC sh11_8 (vpc (by decide) : vp_in 1 5) 1 (by decide) dX11_shakeOf_41 ?_
  refine r_iadd hC dX11_shakeOf_42 ?_
  refine r_i2l hC dX11_shakeOf_43 ?_
  obtain ⟨g5, hO⟩ := hO
  refine r_ldiv hC dX11_shakeOf_44 g5 ?_
  refine r_nmL (fun w6 hw6 => ?_)
  have hO := hO w6 hw6
  refine r_lstore hC [(5, .long w6), (4, .int x2), (3, .int x1), (0, .ref (mw_a G 0)), (1, .int p1), (2, .int p2)] dX11_shakeOf_45 (by decide) rfl ?_
  refine r_lload hC 0 dX11_shakeOf_47 rfl ?_
  refine r_ldc2 hC kc11_177 dX11_shakeOf_49 ?_
  refine r_lcmp hC dX11_shakeOf_52 ?_
  refine r_if_le hC 61 dX11_shakeOf_53 (by decide) (fun h7 => ?_) (fun h7 => ?_)
  · have hO := hO.1 h7
    refine r_lload hC 0 dX11_shakeOf_61 rfl ?_
    refine r_l2i hC dX11_shakeOf_63 ?_
    exact r_iret hC rfl dX11_shakeOf_64 ⟨hO, rfl⟩
  · have hO := hO.2 h7
    refine r_ldc hC kc11_179 dX11_shakeOf_56 ?_
    refine r_goto hC 64 dX11_shakeOf_58 (by decide) ?_
    exact r_iret hC rfl dX11_shakeOf_64 ⟨hO, rfl⟩
set_option maxHeartbeats 4000000 in
set_option maxRecDepth 100000 in
theorem T11_shake {l : Launch} {G : mw_G} {p1 : Int32} {μ : mw_M} {Q : Int32 → Prop}  (hO : P11_shake p1 μ Q) : mw_Mi l G kdM yX11_shake cX11_shake 2 (some .int) 4 87 [.ref (mw_a G 0), .int p1] μ (mw_pq μ Q) := by
  refine mw_enter [(0, .ref (mw_a G 0)), (1, .int p1)] RX11 (by decide) rfl (Nat.le_of_ble_eq_true rfl) rfl ?_
  intro p e s m args below meth c hC
  unfold P11_shake at hO
  refine r_iload_n hC 1 dX11_shake_0 rfl rfl ?_
  refine r_i2l hC dX11_shake_1 ?_
  refine r_lconst hC 0 dX11_shake_2 (by decide) ?_
  refine r_ldc2 hC kc11_180 dX11_shake_3 ?_
  refine r_callSi hC [.long (Int32.toInt64 p1), .long 0, .long 1200] (T11_within  hO) yv11_within ml11_106 ⟨Nat.le_of_ble_eq_true rfl, Nat.le_of_ble_eq_true rfl⟩ rfl rfl (Nat.le_of_ble_eq_true rfl) dX11_shake_6 (fun r1 μ2 hO => ?_)
  rcases hO with ⟨hr, hO⟩ | ⟨hr, hO⟩
  · refine r_topEq hr ?_
    obtain ⟨hO, hm⟩ := hO
    refine r_memEq hm ?_
    refine r_if_eq hC 24 dX11_shake_9 (by decide) (fun h => absurd h (by decide)) (fun _ => ?_)
    refine r_aload_n hC 0 dX11_shake_12 rfl rfl ?_
    refine r_aload_n hC 0 dX11_shake_13 rfl rfl ?_
    refine r_callVi hC [] (T11_lopsided  hO) yv11_lopsided ml11_167 ob11 rfl ⟨Nat.le_of_ble_eq_true rfl, Nat.le_of_ble_eq_true rfl⟩ rfl rfl (Nat.le_of_ble_eq_true rfl) dX11_shake_14 (fun r3 μ4 hO => ?_)
    obtain ⟨hO, hm⟩ := hO
    refine r_memEq hm ?_
    refine r_iload_n hC 1 dX11_shake_17 rfl rfl ?_
    refine r_callVi hC [.int r3, .int p1] (T11_shakeOf  hO) yv11_shakeOf ml11_182 ob11 rfl ⟨Nat.le_of_ble_eq_true rfl, Nat.le_of_ble_eq_true rfl⟩ rfl rfl (Nat.le_of_ble_eq_true rfl) dX11_shake_18 (fun r5 μ6 hO => ?_)
    obtain ⟨hO, hm⟩ := hO
    refine r_memEq hm ?_
    refine r_goto hC 25 dX11_shake_21 (by decide) ?_
    exact r_iret hC rfl dX11_shake_25 ⟨hO, rfl⟩
  · refine r_topEq hr ?_
    obtain ⟨hO, hm⟩ := hO
    refine r_memEq hm ?_
    refine r_if_eq hC 24 dX11_shake_9 (by decide) (fun _ => ?_) (fun h => absurd (by decide) h)
    refine r_iconst hC (-1) dX11_shake_24 (by decide) ?_
    exact r_iret hC rfl dX11_shake_25 ⟨hO, rfl⟩
set_option maxHeartbeats 4000000 in
set_option maxRecDepth 100000 in
theorem T11_feed {l : Launch} {G : mw_G} {p1 : Int32} {p2 : Int32} {μ : mw_M} {Q : Int32 → mw_M → Prop}  (hO : P11_feed p1 p2 μ Q) : mw_Mi l G kdM yX11_feed cX11_feed 4 (some .int) 1 25 [.ref (mw_a G 0), .int p1, .int p2] μ (Q) := by
  refine mw_enter [(0, .ref (mw_a G 0)), (1, .int p1), (2, .int p2)] RX11 (by decide) rfl (Nat.le_of_ble_eq_true rfl) rfl ?_
  intro p e s m args below meth c hC
  unfold P11_feed at hO
  refine r_iload_n hC 1 dX11_feed_0 rfl rfl ?_
  refine r_i2l hC dX11_feed_1 ?_
  refine r_lconst hC 1 dX11_feed_2 (by decide) ?_
  refine r_ldc2 hC kc11_185 dX11_feed_3 ?_
  refine r_callSi hC [.long (Int32.toInt64 p1), .long 1, .long 4] (T11_within  hO) yv11_within ml11_106 ⟨Nat.le_of_ble_eq_true rfl, Nat.le_of_ble_eq_true rfl⟩ rfl rfl (Nat.le_of_ble_eq_true rfl) dX11_feed_6 (fun r1 μ2 hO => ?_)
  rcases hO with ⟨hr, hO⟩ | ⟨hr, hO⟩
  · refine r_topEq hr ?_
    obtain ⟨hO, hm⟩ := hO
    refine r_memEq hm ?_
    refine r_if_ne hC 14 dX11_feed_9 (by decide) (fun _ => ?_) (fun h => absurd h (by decide))
    refine r_aload_n hC 0 dX11_feed_14 rfl rfl ?_
    refine r_getI hC fl11_187 ob11 rfl dX11_feed_15 ?_
    refine r_iload_n hC 1 dX11_feed_18 rfl rfl ?_
    refine r_iadd hC dX11_feed_19 ?_
    refine r_bipush hC 120 dX11_feed_20 (by decide) ?_
    refine r_icmp_le hC 28 dX11_feed_22 (by decide) (fun h3 => ?_) (fun h3 => ?_)
    · have hO := hO.1 h3
      refine r_iconst hC 0 dX11_feed_28 (by decide) ?_
      refine r_istore_n hC [(3, .int 0), (0, .ref (mw_a G 0)), (1, .int p1), (2, .int p2)] dX11_feed_29 rfl (by decide) rfl ?_
      have hLn6 : ∀   (n6 : Nat) (v4 : Int32) (μ5 : mw_M), L11_feed_30 p1 p2 Q n6 v4 μ5 → mw_W p l e (mw_rm 1 25) s m args below meth c G kdM 4 (MQ below (va_Qi (Q) (mw_B G kdM) (mw_A G kdM)) args s 0 0 (mw_A G kdM)) 30 [(3, .int v4), (0, .ref (mw_a G 0)), (1, .int p1), (2, .int p2)] [] μ5 := by
        intro   n6
        induction n6 with
        | zero => intro v4 μ5 hO; exact False.elim hO
        | succ n6 ihn6 =>
          intro v4 μ5 hO
          refine r_iload_n hC 0 dX11_feed_30 rfl rfl ?_
          refine r_iload_n hC 2 dX11_feed_31 rfl rfl ?_
          refine r_icmp_ge hC 70 dX11_feed_32 (by decide) (fun h7 => ?_) (fun h7 => ?_)
          · have hO := hO.1 h7
            refine r_aload_n hC 1 dX11_feed_70 rfl rfl ?_
            refine r_getI hC fl11_187 ob11 rfl dX11_feed_71 ?_
            exact r_iret hC rfl dX11_feed_74 hO
          · have hO := hO.2 h7
            refine r_aload_n hC 1 dX11_feed_35 rfl rfl ?_
            refine r_getR hC 10 fl11_37 ob11 rfl dX11_feed_36 ?_
            refine r_aload_n hC 1 dX11_feed_39 rfl rfl ?_
            refine r_getI hC fl11_187 ob11 rfl dX11_feed_40 ?_
            refine r_iload_n hC 3 dX11_feed_43 rfl rfl ?_
            refine r_bipush hC 8 dX11_feed_44 (by decide) ?_
            refine r_iload_n hC 0 dX11_feed_46 rfl rfl ?_
            refine r_imul hC dX11_feed_47 ?_
            refine r_ishr hC dX11_feed_48 ?_
            refine r_sipush hC 255 dX11_feed_49 (by decide) ?_
            refine r_iand hC dX11_feed_52 ?_
            obtain ⟨g8, hO⟩ := hO
            refine r_iast hC sh11_13 g8 ((μ5.1 0 14).toNatClampNeg) rfl dX11_feed_53 ?_
            refine r_nmM (fun μ9 hμ9 => ?_)
            have hO := hO μ9 hμ9
            refine r_aload_n hC 1 dX11_feed_54 rfl rfl ?_
            refine r_dup hC dX11_feed_55 rfl ?_
            refine r_getI hC fl11_187 ob11 rfl dX11_feed_56 ?_
            refine r_iconst hC 1 dX11_feed_59 (by decide) ?_
            refine r_iadd hC dX11_feed_60 ?_
            refine r_putI hC fl11_187 ob11 rfl rfl rfl dX11_feed_61 ?_
            refine r_nmM (fun μ10 hμ10 => ?_)
            have hO := hO μ10 hμ10
            obtain ⟨x11, hx11⟩ : ∃ y : Int32, y = v4 + 1 := ⟨_, rfl⟩
            have hO := hO x11 hx11
            refine r_iinc hC x11 0 [(3, .int x11), (0, .ref (mw_a G 0)), (1, .int p1), (2, .int p2)] dX11_feed_64 rfl (by rw [hx11]; rfl) (by decide) rfl ?_
            refine r_goto hC 30 dX11_feed_67 (by decide) ?_
            refine r_lv hC [(3, .int x11), (0, .ref (mw_a G 0)), (1, .int p1), (2, .int p2)] [0, 1, 2, 3] rfl ?_
            exact ihn6 x11 μ10 hO
      obtain ⟨n6, hO⟩ := hO
      refine hLn6   n6 _ _ hO
    · have hO := hO.2 h3
      refine r_bipush hC (-3) dX11_feed_25 (by decide) ?_
      exact r_iret hC rfl dX11_feed_27 hO
  · refine r_topEq hr ?_
    obtain ⟨hO, hm⟩ := hO
    refine r_memEq hm ?_
    refine r_if_ne hC 14 dX11_feed_9 (by decide) (fun h => absurd (by decide) h) (fun _ => ?_)
    refine r_iconst hC (-1) dX11_feed_12 (by decide) ?_
    exact r_iret hC rfl dX11_feed_13 hO
set_option maxHeartbeats 4000000 in
set_option maxRecDepth 100000 in
theorem T11_byteAt {l : Launch} {G : mw_G}  {μ : mw_M} {Q : Int32 → Prop}  (hO : P11_byteAt μ Q) : mw_Mi l G kdM yX11_byteAt cX11_byteAt 1 (some .int) 0 0 [.ref (mw_a G 0)] μ (mw_pq μ Q) := by
  refine mw_enter [(0, .ref (mw_a G 0))] RX11 (by decide) rfl (Nat.le_of_ble_eq_true rfl) rfl ?_
  intro p e s m args below meth c hC
  unfold P11_byteAt at hO
  refine r_aload_n hC 0 dX11_byteAt_0 rfl rfl ?_
  refine r_getI hC fl11_190 ob11 rfl dX11_byteAt_1 ?_
  refine r_aload_n hC 0 dX11_byteAt_4 rfl rfl ?_
  refine r_getI hC fl11_193 ob11 rfl dX11_byteAt_5 ?_
  refine r_icmp_ge hC 47 dX11_byteAt_8 (by decide) (fun h1 => ?_) (fun h1 => ?_)
  · have hO := hO.1 h1
    refine r_iconst hC 0 dX11_byteAt_47 (by decide) ?_
    exact r_iret hC rfl dX11_byteAt_48 ⟨hO, rfl⟩
  · have hO := hO.2 h1
    refine r_aload_n hC 0 dX11_byteAt_11 rfl rfl ?_
    refine r_getI hC fl11_196 ob11 rfl dX11_byteAt_12 ?_
    refine r_if_ge hC 30 dX11_byteAt_15 (by decide) (fun h2 => ?_) (fun h2 => ?_)
    · have hO := hO.1 h2
      refine r_aload_n hC 0 dX11_byteAt_30 rfl rfl ?_
      refine r_getR hC 11 fl11_40 ob11 rfl dX11_byteAt_31 ?_
      refine r_aload_n hC 0 dX11_byteAt_34 rfl rfl ?_
      refine r_getI hC fl11_196 ob11 rfl dX11_byteAt_35 ?_
      refine r_aload_n hC 0 dX11_byteAt_38 rfl rfl ?_
      refine r_getI hC fl11_190 ob11 rfl dX11_byteAt_39 ?_
      refine r_iadd hC dX11_byteAt_42 ?_
      obtain ⟨g3, hO⟩ := hO
      refine r_iald hC sh11_17 g3 (((μ.1 0 19) + (μ.1 0 20)).toNatClampNeg) rfl dX11_byteAt_43 ?_
      refine r_goto hC 48 dX11_byteAt_44 (by decide) ?_
      exact r_iret hC rfl dX11_byteAt_48 ⟨hO, rfl⟩
    · have hO := hO.2 h2
      refine r_aload_n hC 0 dX11_byteAt_18 rfl rfl ?_
      refine r_getR hC 10 fl11_37 ob11 rfl dX11_byteAt_19 ?_
      refine r_aload_n hC 0 dX11_byteAt_22 rfl rfl ?_
      refine r_getI hC fl11_190 ob11 rfl dX11_byteAt_23 ?_
      obtain ⟨g4, hO⟩ := hO
      refine r_iald hC sh11_13 g4 ((μ.1 0 20).toNatClampNeg) rfl dX11_byteAt_26 ?_
      refine r_goto hC 48 dX11_byteAt_27 (by decide) ?_
      exact r_iret hC rfl dX11_byteAt_48 ⟨hO, rfl⟩
set_option maxHeartbeats 4000000 in
set_option maxRecDepth 100000 in
theorem T11_wrong {l : Launch} {G : mw_G}  {μ : mw_M} {Q : Int32 → mw_M → Prop}  (hO : P11_wrong μ Q) : mw_Mi l G kdM yX11_wrong cX11_wrong 1 (some .int) 0 0 [.ref (mw_a G 0)] μ (Q) := by
  refine mw_enter [(0, .ref (mw_a G 0))] RX11 (by decide) rfl (Nat.le_of_ble_eq_true rfl) rfl ?_
  intro p e s m args below meth c hC
  unfold P11_wrong at hO
  refine r_aload_n hC 0 dX11_wrong_0 rfl rfl ?_
  refine r_aload_n hC 0 dX11_wrong_1 rfl rfl ?_
  refine r_getI hC fl11_199 ob11 rfl dX11_wrong_2 ?_
  refine r_if_ge hC 15 dX11_wrong_5 (by decide) (fun h1 => ?_) (fun h1 => ?_)
  · have hO := hO.1 h1
    refine r_aload_n hC 0 dX11_wrong_15 rfl rfl ?_
    refine r_getI hC fl11_199 ob11 rfl dX11_wrong_16 ?_
    refine r_putI hC fl11_199 ob11 rfl rfl rfl dX11_wrong_19 ?_
    refine r_nmM (fun μ2 hμ2 => ?_)
    have hO := hO μ2 hμ2
    refine r_iconst hC 0 dX11_wrong_22 (by decide) ?_
    exact r_iret hC rfl dX11_wrong_23 hO
  · have hO := hO.2 h1
    refine r_aload_n hC 0 dX11_wrong_8 rfl rfl ?_
    refine r_getI hC fl11_190 ob11 rfl dX11_wrong_9 ?_
    refine r_goto hC 19 dX11_wrong_12 (by decide) ?_
    refine r_putI hC fl11_199 ob11 rfl rfl rfl dX11_wrong_19 ?_
    refine r_nmM (fun μ3 hμ3 => ?_)
    have hO := hO μ3 hμ3
    refine r_iconst hC 0 dX11_wrong_22 (by decide) ?_
    exact r_iret hC rfl dX11_wrong_23 hO
set_option maxHeartbeats 4000000 in
set_option maxRecDepth 100000 in
theorem T11_takes {l : Launch} {G : mw_G} {p1 : Int32} {μ : mw_M} {QT : mw_M → Prop} {QF : mw_M → Prop}  (hO : P11_takes p1 μ QT QF) : mw_Mi l G kdM yX11_takes cX11_takes 2 (some .boolean) 1 20 [.ref (mw_a G 0), .int p1] μ (mw_bq QT QF) := by
  refine mw_enter [(0, .ref (mw_a G 0)), (1, .int p1)] RX11 (by decide) rfl (Nat.le_of_ble_eq_true rfl) rfl ?_
  intro p e s m args below meth c hC
  unfold P11_takes at hO
  refine r_aload_n hC 0 dX11_takes_0 rfl rfl ?_
  refine r_getI hC fl11_199 ob11 rfl dX11_takes_1 ?_
  refine r_if_ge hC 15 dX11_takes_4 (by decide) (fun h1 => ?_) (fun h1 => ?_)
  · have hO := hO.1 h1
    refine r_iconst hC 0 dX11_takes_15 (by decide) ?_
    exact r_zret hC rfl (by decide) dX11_takes_16 (Or.inr ⟨rfl, hO⟩)
  · have hO := hO.2 h1
    refine r_aload_n hC 0 dX11_takes_7 rfl rfl ?_
    refine r_callVi hC [] (T11_byteAt  hO) yv11_byteAt ml11_202 ob11 rfl ⟨Nat.le_of_ble_eq_true rfl, Nat.le_of_ble_eq_true rfl⟩ rfl rfl (Nat.le_of_ble_eq_true rfl) dX11_takes_8 (fun r2 μ3 hO => ?_)
    obtain ⟨hO, hm⟩ := hO
    refine r_memEq hm ?_
    refine r_iload_n hC 1 dX11_takes_11 rfl rfl ?_
    refine r_icmp_eq hC 17 dX11_takes_12 (by decide) (fun h4 => ?_) (fun h4 => ?_)
    · have hO := hO.1 h4
      refine r_aload_n hC 0 dX11_takes_17 rfl rfl ?_
      refine r_dup hC dX11_takes_18 rfl ?_
      refine r_getI hC fl11_190 ob11 rfl dX11_takes_19 ?_
      refine r_iconst hC 1 dX11_takes_22 (by decide) ?_
      refine r_iadd hC dX11_takes_23 ?_
      refine r_putI hC fl11_190 ob11 rfl rfl rfl dX11_takes_24 ?_
      refine r_nmM (fun μ5 hμ5 => ?_)
      have hO := hO μ5 hμ5
      refine r_iconst hC 1 dX11_takes_27 (by decide) ?_
      exact r_zret hC rfl (by decide) dX11_takes_28 (Or.inl ⟨rfl, hO⟩)
    · have hO := hO.2 h4
      refine r_iconst hC 0 dX11_takes_15 (by decide) ?_
      exact r_zret hC rfl (by decide) dX11_takes_16 (Or.inr ⟨rfl, hO⟩)
