set_option maxHeartbeats 4000000 in
set_option maxRecDepth 100000 in
theorem T6_loadOn {l : Launch} {G : mw_G} {p1 : Int32} {μ : mw_M} {Q : Int32 → Prop}  (hO : P6_loadOn p1 μ Q) : mw_Mi l G kdX yX6_loadOn cX6_loadOn 2 (some .int) 1 20 [.ref (mw_a G 65), .int p1] μ (mw_pq μ Q) := by
  refine mw_enter [(0, .ref (mw_a G 65)), (1, .int p1)] RX6 (by decide) rfl (Nat.le_of_ble_eq_true rfl) rfl ?_
  intro p e s m args below meth c hC
  unfold P6_loadOn at hO
  refine r_iload_n hC 1 dX6_loadOn_0 rfl rfl ?_
  refine r_callSi hC [.int p1] (T6_isShelf  hO) yv6_isShelf ml6_29 ⟨Nat.le_of_ble_eq_true rfl, Nat.le_of_ble_eq_true rfl⟩ rfl rfl (Nat.le_of_ble_eq_true rfl) dX6_loadOn_1 (fun r1 μ2 hO => ?_)
  rcases hO with ⟨hr, hO⟩ | ⟨hr, hO⟩
  · refine r_topEq hr ?_
    obtain ⟨hO, hm⟩ := hO
    refine r_memEq hm ?_
    refine r_if_eq hC 26 dX6_loadOn_4 (by decide) (fun h => absurd h (by decide)) (fun _ => ?_)
    refine r_aload_n hC 0 dX6_loadOn_7 rfl rfl ?_
    refine r_getR hC 66 fl6_11 ob6 rfl dX6_loadOn_8 ?_
    refine r_iload_n hC 1 dX6_loadOn_11 rfl rfl ?_
    obtain ⟨g3, hO⟩ := hO
    refine r_iald hC sh6_0 g3 p1.toNatClampNeg rfl dX6_loadOn_12 ?_
    refine r_iconst hC 1 dX6_loadOn_13 (by decide) ?_
    refine r_icmp_ne hC 26 dX6_loadOn_14 (by decide) (fun h4 => ?_) (fun h4 => ?_)
    · have hO := hO.2 h4
      refine r_iconst hC (-1) dX6_loadOn_26 (by decide) ?_
      exact r_iret hC rfl dX6_loadOn_27 ⟨hO, rfl⟩
    · have hO := hO.1 h4
      refine r_aload_n hC 0 dX6_loadOn_17 rfl rfl ?_
      refine r_getR hC 67 fl6_15 ob6 rfl dX6_loadOn_18 ?_
      refine r_iload_n hC 1 dX6_loadOn_21 rfl rfl ?_
      obtain ⟨g5, hO⟩ := hO
      refine r_iald hC sh6_1 g5 p1.toNatClampNeg rfl dX6_loadOn_22 ?_
      refine r_goto hC 27 dX6_loadOn_23 (by decide) ?_
      exact r_iret hC rfl dX6_loadOn_27 ⟨hO, rfl⟩
  · refine r_topEq hr ?_
    obtain ⟨hO, hm⟩ := hO
    refine r_memEq hm ?_
    refine r_if_eq hC 26 dX6_loadOn_4 (by decide) (fun _ => ?_) (fun h => absurd (by decide) h)
    refine r_iconst hC (-1) dX6_loadOn_26 (by decide) ?_
    exact r_iret hC rfl dX6_loadOn_27 ⟨hO, rfl⟩
set_option maxHeartbeats 4000000 in
set_option maxRecDepth 100000 in
theorem T6_hold {l : Launch} {G : mw_G} {p1 : Int32} {p2 : Int32} {μ : mw_M} {Q : mw_M → Prop}  (hO : P6_hold p1 p2 μ Q) : mw_Mv l G kdX yX6_hold cX6_hold 3 none 1 20 [.ref (mw_a G 65), .int p1, .int p2] μ (Q) := by
  refine mw_enter [(0, .ref (mw_a G 65)), (1, .int p1), (2, .int p2)] RX6 (by decide) rfl (Nat.le_of_ble_eq_true rfl) rfl ?_
  intro p e s m args below meth c hC
  unfold P6_hold at hO
  refine r_iload_n hC 1 dX6_hold_0 rfl rfl ?_
  refine r_callSi hC [.int p1] (T6_isShelf  hO) yv6_isShelf ml6_29 ⟨Nat.le_of_ble_eq_true rfl, Nat.le_of_ble_eq_true rfl⟩ rfl rfl (Nat.le_of_ble_eq_true rfl) dX6_hold_1 (fun r1 μ2 hO => ?_)
  rcases hO with ⟨hr, hO⟩ | ⟨hr, hO⟩
  · refine r_topEq hr ?_
    obtain ⟨hO, hm⟩ := hO
    refine r_memEq hm ?_
    refine r_if_ne hC 8 dX6_hold_4 (by decide) (fun _ => ?_) (fun h => absurd h (by decide))
    refine r_aload_n hC 0 dX6_hold_8 rfl rfl ?_
    refine r_getR hC 66 fl6_11 ob6 rfl dX6_hold_9 ?_
    refine r_iload_n hC 1 dX6_hold_12 rfl rfl ?_
    refine r_iload_n hC 2 dX6_hold_13 rfl rfl ?_
    refine r_if_ge hC 21 dX6_hold_14 (by decide) (fun h3 => ?_) (fun h3 => ?_)
    · have hO := hO.1 h3
      refine r_iconst hC 1 dX6_hold_21 (by decide) ?_
      obtain ⟨g4, hO⟩ := hO
      refine r_iast hC sh6_0 g4 p1.toNatClampNeg rfl dX6_hold_22 ?_
      refine r_nmM (fun μ5 hμ5 => ?_)
      have hO := hO μ5 hμ5
      refine r_aload_n hC 0 dX6_hold_23 rfl rfl ?_
      refine r_getR hC 67 fl6_15 ob6 rfl dX6_hold_24 ?_
      refine r_iload_n hC 1 dX6_hold_27 rfl rfl ?_
      refine r_iload_n hC 2 dX6_hold_28 rfl rfl ?_
      obtain ⟨g6, hO⟩ := hO
      refine r_iast hC sh6_1 g6 p1.toNatClampNeg rfl dX6_hold_29 ?_
      refine r_nmM (fun μ7 hμ7 => ?_)
      have hO := hO μ7 hμ7
      exact r_vret hC rfl dX6_hold_30 hO
    · have hO := hO.2 h3
      refine r_iconst hC 0 dX6_hold_17 (by decide) ?_
      refine r_goto hC 22 dX6_hold_18 (by decide) ?_
      obtain ⟨g8, hO⟩ := hO
      refine r_iast hC sh6_0 g8 p1.toNatClampNeg rfl dX6_hold_22 ?_
      refine r_nmM (fun μ9 hμ9 => ?_)
      have hO := hO μ9 hμ9
      refine r_aload_n hC 0 dX6_hold_23 rfl rfl ?_
      refine r_getR hC 67 fl6_15 ob6 rfl dX6_hold_24 ?_
      refine r_iload_n hC 1 dX6_hold_27 rfl rfl ?_
      refine r_iload_n hC 2 dX6_hold_28 rfl rfl ?_
      obtain ⟨g10, hO⟩ := hO
      refine r_iast hC sh6_1 g10 p1.toNatClampNeg rfl dX6_hold_29 ?_
      refine r_nmM (fun μ11 hμ11 => ?_)
      have hO := hO μ11 hμ11
      exact r_vret hC rfl dX6_hold_30 hO
  · refine r_topEq hr ?_
    obtain ⟨hO, hm⟩ := hO
    refine r_memEq hm ?_
    refine r_if_ne hC 8 dX6_hold_4 (by decide) (fun h => absurd (by decide) h) (fun _ => ?_)
    exact r_vret hC rfl dX6_hold_7 hO
set_option maxHeartbeats 4000000 in
set_option maxRecDepth 100000 in
theorem T6_holdRow {l : Launch} {G : mw_G} {p1 : Int32} {p2 : Int32} {p3 : Int32} {μ : mw_M} {Q : mw_M → Prop}  (hO : P6_holdRow p1 p2 p3 μ Q) : mw_Mv l G kdX yX6_holdRow cX6_holdRow 5 none 1 20 [.ref (mw_a G 65), .int p1, .int p2, .int p3] μ (Q) := by
  refine mw_enter [(0, .ref (mw_a G 65)), (1, .int p1), (2, .int p2), (3, .int p3)] RX6 (by decide) rfl (Nat.le_of_ble_eq_true rfl) rfl ?_
  intro p e s m args below meth c hC
  unfold P6_holdRow at hO
  refine r_iload_n hC 1 dX6_holdRow_0 rfl rfl ?_
  refine r_callSi hC [.int p1] (T6_isShelf  hO) yv6_isShelf ml6_29 ⟨Nat.le_of_ble_eq_true rfl, Nat.le_of_ble_eq_true rfl⟩ rfl rfl (Nat.le_of_ble_eq_true rfl) dX6_holdRow_1 (fun r1 μ2 hO => ?_)
  rcases hO with ⟨hr, hO⟩ | ⟨hr, hO⟩
  · refine r_topEq hr ?_
    obtain ⟨hO, hm⟩ := hO
    refine r_memEq hm ?_
    refine r_if_ne hC 8 dX6_holdRow_4 (by decide) (fun _ => ?_) (fun h => absurd h (by decide))
    refine r_aload_n hC 0 dX6_holdRow_8 rfl rfl ?_
    refine r_getR hC 66 fl6_11 ob6 rfl dX6_holdRow_9 ?_
    refine r_iload_n hC 1 dX6_holdRow_12 rfl rfl ?_
    refine r_iconst hC 2 dX6_holdRow_13 (by decide) ?_
    obtain ⟨g3, hO⟩ := hO
    refine r_iast hC sh6_0 g3 p1.toNatClampNeg rfl dX6_holdRow_14 ?_
    refine r_nmM (fun μ4 hμ4 => ?_)
    have hO := hO μ4 hμ4
    refine r_aload_n hC 0 dX6_holdRow_15 rfl rfl ?_
    refine r_getR hC 68 fl6_18 ob6 rfl dX6_holdRow_16 ?_
    refine r_iload_n hC 1 dX6_holdRow_19 rfl rfl ?_
    refine r_iload_n hC 2 dX6_holdRow_20 rfl rfl ?_
    obtain ⟨g5, hO⟩ := hO
    refine r_iast hC sh6_2 g5 p1.toNatClampNeg rfl dX6_holdRow_21 ?_
    refine r_nmM (fun μ6 hμ6 => ?_)
    have hO := hO μ6 hμ6
    refine r_aload_n hC 0 dX6_holdRow_22 rfl rfl ?_
    refine r_getR hC 69 fl6_21 ob6 rfl dX6_holdRow_23 ?_
    refine r_iload_n hC 1 dX6_holdRow_26 rfl rfl ?_
    refine r_iload_n hC 3 dX6_holdRow_27 rfl rfl ?_
    obtain ⟨g7, hO⟩ := hO
    refine r_iast hC sh6_3 g7 p1.toNatClampNeg rfl dX6_holdRow_28 ?_
    refine r_nmM (fun μ8 hμ8 => ?_)
    have hO := hO μ8 hμ8
    refine r_iconst hC 0 dX6_holdRow_29 (by decide) ?_
    refine r_istore hC [(4, .int 0), (0, .ref (mw_a G 65)), (1, .int p1), (2, .int p2), (3, .int p3)] dX6_holdRow_30 (by decide) rfl ?_
    have hLn11 : ∀   (n11 : Nat) (v9 : Int32) (μ10 : mw_M), L6_holdRow_32 p1 p2 p3 Q n11 v9 μ10 → mw_W p l e (mw_rm 1 20) s m args below meth c G kdX 5 (MQ below (va_Qv (Q) (mw_B G kdX) (mw_A G kdX)) args s 0 0 (mw_A G kdX)) 32 [(4, .int v9), (0, .ref (mw_a G 65)), (1, .int p1), (2, .int p2), (3, .int p3)] [] μ10 := by
      intro   n11
      induction n11 with
      | zero => intro v9 μ10 hO; exact False.elim hO
      | succ n11 ihn11 =>
        intro v9 μ10 hO
        refine r_iload hC 0 dX6_holdRow_32 rfl ?_
        refine r_bipush hC 60 dX6_holdRow_34 (by decide) ?_
        refine r_icmp_ge hC 55 dX6_holdRow_36 (by decide) (fun h12 => ?_) (fun h12 => ?_)
        · have hO := hO.1 h12
          exact r_vret hC rfl dX6_holdRow_55 hO
        · have hO := hO.2 h12
          refine r_aload_n hC 1 dX6_holdRow_39 rfl rfl ?_
          refine r_getR hC 70 fl6_26 ob6 rfl dX6_holdRow_40 ?_
          refine r_iload_n hC 2 dX6_holdRow_43 rfl rfl ?_
          obtain ⟨g13, hO⟩ := hO
          refine r_aald hC sh6_4 (by decide) g13 p1.toNatClampNeg rfl (71 + p1.toNatClampNeg) (by simp only [Nat.one_mul]) dX6_holdRow_44 ?_
          refine r_iload hC 0 dX6_holdRow_45 rfl ?_
          refine r_lconst hC 0 dX6_holdRow_47 (by decide) ?_
          obtain ⟨g14, hO⟩ := hO
          refine r_last hC (el6_4 (vp_lt g13)) g14 v9.toNatClampNeg rfl dX6_holdRow_48 ?_
          refine r_nmM (fun μ15 hμ15 => ?_)
          have hO := hO μ15 hμ15
          obtain ⟨x16, hx16⟩ : ∃ y : Int32, y = v9 + 1 := ⟨_, rfl⟩
          have hO := hO x16 hx16
          refine r_iinc hC x16 0 [(4, .int x16), (0, .ref (mw_a G 65)), (1, .int p1), (2, .int p2), (3, .int p3)] dX6_holdRow_49 rfl (by rw [hx16]; rfl) (by decide) rfl ?_
          refine r_goto hC 32 dX6_holdRow_52 (by decide) ?_
          refine r_lv hC [(4, .int x16), (0, .ref (mw_a G 65)), (1, .int p1), (2, .int p2), (3, .int p3)] [0, 1, 2, 3, 4] rfl ?_
          exact ihn11 x16 μ15 hO
    obtain ⟨n11, hO⟩ := hO
    refine hLn11   n11 _ _ hO
  · refine r_topEq hr ?_
    obtain ⟨hO, hm⟩ := hO
    refine r_memEq hm ?_
    refine r_if_ne hC 8 dX6_holdRow_4 (by decide) (fun h => absurd (by decide) h) (fun _ => ?_)
    exact r_vret hC rfl dX6_holdRow_7 hO
set_option maxHeartbeats 4000000 in
set_option maxRecDepth 100000 in
theorem T6_hasPlaces {l : Launch} {G : mw_G} {p1 : Int32} {p2 : Int64} {p3 : Int32} {μ : mw_M} {QT : Prop} {QF : Prop}  (hO : P6_hasPlaces p1 p2 p3 μ QT QF) : mw_Mi l G kdX yX6_hasPlaces cX6_hasPlaces 5 (some .boolean) 2 41 [.ref (mw_a G 65), .int p1, .long p2, .int p3] μ (mw_bq (mw_pv μ QT) (mw_pv μ QF)) := by
  refine mw_enter [(0, .ref (mw_a G 65)), (1, .int p1), (2, .long p2), (4, .int p3)] RX6 (by decide) rfl (Nat.le_of_ble_eq_true rfl) rfl ?_
  intro p e s m args below meth c hC
  unfold P6_hasPlaces at hO
  refine r_aload_n hC 0 dX6_hasPlaces_0 rfl rfl ?_
  refine r_iload_n hC 1 dX6_hasPlaces_1 rfl rfl ?_
  refine r_callVi hC [.int p1] (T6_holdsRow  hO) yv6_holdsRow ml6_33 ob6 rfl ⟨Nat.le_of_ble_eq_true rfl, Nat.le_of_ble_eq_true rfl⟩ rfl rfl (Nat.le_of_ble_eq_true rfl) dX6_hasPlaces_2 (fun r1 μ2 hO => ?_)
  rcases hO with ⟨hr, hO⟩ | ⟨hr, hO⟩
  · refine r_topEq hr ?_
    obtain ⟨hO, hm⟩ := hO
    refine r_memEq hm ?_
    refine r_if_eq hC 39 dX6_hasPlaces_5 (by decide) (fun h => absurd h (by decide)) (fun _ => ?_)
    refine r_lload_n hC 2 dX6_hasPlaces_8 rfl rfl ?_
    refine r_lconst hC 0 dX6_hasPlaces_9 (by decide) ?_
    refine r_lcmp hC dX6_hasPlaces_10 ?_
    refine r_if_lt hC 39 dX6_hasPlaces_11 (by decide) (fun h3 => ?_) (fun h3 => ?_)
    · have hO := hO.1 h3
      refine r_iconst hC 0 dX6_hasPlaces_39 (by decide) ?_
      exact r_zret hC rfl (by decide) dX6_hasPlaces_40 (Or.inr ⟨rfl, hO, rfl⟩)
    · have hO := hO.2 h3
      refine r_iload hC 3 dX6_hasPlaces_14 rfl ?_
      refine r_if_lt hC 39 dX6_hasPlaces_16 (by decide) (fun h4 => ?_) (fun h4 => ?_)
      · have hO := hO.1 h4
        refine r_iconst hC 0 dX6_hasPlaces_39 (by decide) ?_
        exact r_zret hC rfl (by decide) dX6_hasPlaces_40 (Or.inr ⟨rfl, hO, rfl⟩)
      · have hO := hO.2 h4
        refine r_lload_n hC 2 dX6_hasPlaces_19 rfl rfl ?_
        refine r_iload hC 3 dX6_hasPlaces_20 rfl ?_
        refine r_i2l hC dX6_hasPlaces_22 ?_
        refine r_ladd hC dX6_hasPlaces_23 ?_
        refine r_aload_n hC 0 dX6_hasPlaces_24 rfl rfl ?_
        refine r_getR hC 69 fl6_21 ob6 rfl dX6_hasPlaces_25 ?_
        refine r_iload_n hC 1 dX6_hasPlaces_28 rfl rfl ?_
        obtain ⟨g5, hO⟩ := hO
        refine r_iald hC sh6_3 g5 p1.toNatClampNeg rfl dX6_hasPlaces_29 ?_
        refine r_i2l hC dX6_hasPlaces_30 ?_
        refine r_lcmp hC dX6_hasPlaces_31 ?_
        refine r_if_gt hC 39 dX6_hasPlaces_32 (by decide) (fun h6 => ?_) (fun h6 => ?_)
        · have hO := hO.1 h6
          refine r_iconst hC 0 dX6_hasPlaces_39 (by decide) ?_
          exact r_zret hC rfl (by decide) dX6_hasPlaces_40 (Or.inr ⟨rfl, hO, rfl⟩)
        · have hO := hO.2 h6
          refine r_iconst hC 1 dX6_hasPlaces_35 (by decide) ?_
          refine r_goto hC 40 dX6_hasPlaces_36 (by decide) ?_
          exact r_zret hC rfl (by decide) dX6_hasPlaces_40 (Or.inl ⟨rfl, hO, rfl⟩)
  · refine r_topEq hr ?_
    obtain ⟨hO, hm⟩ := hO
    refine r_memEq hm ?_
    refine r_if_eq hC 39 dX6_hasPlaces_5 (by decide) (fun _ => ?_) (fun h => absurd (by decide) h)
    refine r_iconst hC 0 dX6_hasPlaces_39 (by decide) ?_
    exact r_zret hC rfl (by decide) dX6_hasPlaces_40 (Or.inr ⟨rfl, hO, rfl⟩)
set_option maxHeartbeats 4000000 in
set_option maxRecDepth 100000 in
theorem T6_valueAt {l : Launch} {G : mw_G} {p1 : Int32} {p2 : Int32} {μ : mw_M} {Q : Int64 → Prop}  (hO : P6_valueAt p1 p2 μ Q) : mw_Ml l G kdX yX6_valueAt cX6_valueAt 3 (some .long) 3 65 [.ref (mw_a G 65), .int p1, .int p2] μ (mw_pq μ Q) := by
  refine mw_enter [(0, .ref (mw_a G 65)), (1, .int p1), (2, .int p2)] RX6 (by decide) rfl (Nat.le_of_ble_eq_true rfl) rfl ?_
  intro p e s m args below meth c hC
  unfold P6_valueAt at hO
  refine r_aload_n hC 0 dX6_valueAt_0 rfl rfl ?_
  refine r_iload_n hC 1 dX6_valueAt_1 rfl rfl ?_
  refine r_iload_n hC 2 dX6_valueAt_2 rfl rfl ?_
  refine r_i2l hC dX6_valueAt_3 ?_
  refine r_iconst hC 1 dX6_valueAt_4 (by decide) ?_
  refine r_callVi hC [.int p1, .long (Int32.toInt64 p2), .int 1] (T6_hasPlaces  hO) yv6_hasPlaces ml6_36 ob6 rfl ⟨Nat.le_of_ble_eq_true rfl, Nat.le_of_ble_eq_true rfl⟩ rfl rfl (Nat.le_of_ble_eq_true rfl) dX6_valueAt_5 (fun r1 μ2 hO => ?_)
  rcases hO with ⟨hr, hO⟩ | ⟨hr, hO⟩
  · refine r_topEq hr ?_
    obtain ⟨hO, hm⟩ := hO
    refine r_memEq hm ?_
    refine r_if_eq hC 28 dX6_valueAt_8 (by decide) (fun h => absurd h (by decide)) (fun _ => ?_)
    refine r_iload_n hC 2 dX6_valueAt_11 rfl rfl ?_
    refine r_bipush hC 60 dX6_valueAt_12 (by decide) ?_
    refine r_icmp_ge hC 28 dX6_valueAt_14 (by decide) (fun h3 => ?_) (fun h3 => ?_)
    · have hO := hO.1 h3
      refine r_ldc2 hC kc6_42 dX6_valueAt_28 ?_
      exact r_lret hC rfl dX6_valueAt_31 ⟨hO, rfl⟩
    · have hO := hO.2 h3
      refine r_aload_n hC 0 dX6_valueAt_17 rfl rfl ?_
      refine r_getR hC 70 fl6_26 ob6 rfl dX6_valueAt_18 ?_
      refine r_iload_n hC 1 dX6_valueAt_21 rfl rfl ?_
      obtain ⟨g4, hO⟩ := hO
      refine r_aald hC sh6_4 (by decide) g4 p1.toNatClampNeg rfl (71 + p1.toNatClampNeg) (by simp only [Nat.one_mul]) dX6_valueAt_22 ?_
      refine r_iload_n hC 2 dX6_valueAt_23 rfl rfl ?_
      obtain ⟨g5, hO⟩ := hO
      refine r_lald hC (el6_4 (vp_lt g4)) g5 p2.toNatClampNeg rfl dX6_valueAt_24 ?_
      refine r_goto hC 31 dX6_valueAt_25 (by decide) ?_
      exact r_lret hC rfl dX6_valueAt_31 ⟨hO, rfl⟩
  · refine r_topEq hr ?_
    obtain ⟨hO, hm⟩ := hO
    refine r_memEq hm ?_
    refine r_if_eq hC 28 dX6_valueAt_8 (by decide) (fun _ => ?_) (fun h => absurd (by decide) h)
    refine r_ldc2 hC kc6_42 dX6_valueAt_28 ?_
    exact r_lret hC rfl dX6_valueAt_31 ⟨hO, rfl⟩
set_option maxHeartbeats 4000000 in
set_option maxRecDepth 100000 in
theorem T6_lowestBits {l : Launch} {G : mw_G} {p1 : Int32} {p2 : Int64} {μ : mw_M} {Q : Int64 → Prop}  (hO : P6_lowestBits p1 p2 Q) : mw_Ml l G kdX yX6_lowestBits cX6_lowestBits 3 (some .long) 0 0 [.int p1, .long p2] μ (mw_pq μ Q) := by
  refine mw_enter [(0, .int p1), (1, .long p2)] RX6 (by decide) rfl (Nat.le_of_ble_eq_true rfl) rfl ?_
  intro p e s m args below meth c hC
  unfold P6_lowestBits at hO
  refine r_iload_n hC 0 dX6_lowestBits_0 rfl rfl ?_
  by_cases h1 : p1 = 0
  · have hO := hO.1 h1
    refine r_tin hC 36 dX6_lowestBits_1 (by rw [h1]; decide) (by rw [h1]; decide) (by rw [h1] <;> rfl) (by decide) ?_
    refine r_lload_n hC 1 dX6_lowestBits_36 rfl rfl ?_
    refine r_l2i hC dX6_lowestBits_37 ?_
    refine r_i2b hC dX6_lowestBits_38 ?_
    refine r_i2l hC dX6_lowestBits_39 ?_
    exact r_lret hC rfl dX6_lowestBits_40 ⟨hO, rfl⟩
  by_cases h2 : p1 = 1
  · have hO := hO.2.1 h2
    refine r_tin hC 41 dX6_lowestBits_1 (by rw [h2]; decide) (by rw [h2]; decide) (by rw [h2] <;> rfl) (by decide) ?_
    refine r_lload_n hC 1 dX6_lowestBits_41 rfl rfl ?_
    refine r_l2i hC dX6_lowestBits_42 ?_
    refine r_i2s hC dX6_lowestBits_43 ?_
    refine r_i2l hC dX6_lowestBits_44 ?_
    exact r_lret hC rfl dX6_lowestBits_45 ⟨hO, rfl⟩
  by_cases h3 : p1 = 2
  · have hO := hO.2.2.1 h3
    refine r_tin hC 46 dX6_lowestBits_1 (by rw [h3]; decide) (by rw [h3]; decide) (by rw [h3] <;> rfl) (by decide) ?_
    refine r_lload_n hC 1 dX6_lowestBits_46 rfl rfl ?_
    refine r_l2i hC dX6_lowestBits_47 ?_
    refine r_i2l hC dX6_lowestBits_48 ?_
    exact r_lret hC rfl dX6_lowestBits_49 ⟨hO, rfl⟩
  by_cases h4 : p1 = 4
  · have hO := hO.2.2.2.1 h4
    refine r_tin hC 50 dX6_lowestBits_1 (by rw [h4]; decide) (by rw [h4]; decide) (by rw [h4] <;> rfl) (by decide) ?_
    refine r_lload_n hC 1 dX6_lowestBits_50 rfl rfl ?_
    refine r_lconst hC 0 dX6_lowestBits_51 (by decide) ?_
    refine r_lcmp hC dX6_lowestBits_52 ?_
    refine r_if_eq hC 60 dX6_lowestBits_53 (by decide) (fun h5 => ?_) (fun h5 => ?_)
    · have hO := hO.1 h5
      refine r_lconst hC 0 dX6_lowestBits_60 (by decide) ?_
      exact r_lret hC rfl dX6_lowestBits_61 ⟨hO, rfl⟩
    · have hO := hO.2 h5
      refine r_lconst hC 1 dX6_lowestBits_56 (by decide) ?_
      refine r_goto hC 61 dX6_lowestBits_57 (by decide) ?_
      exact r_lret hC rfl dX6_lowestBits_61 ⟨hO, rfl⟩
  have hO := hO.2.2.2.2 h1 h2 h3 h4
  refine r_tdef hC 62 dX6_lowestBits_1 (by decide) rfl (fun k hk => match k, hk with | 0, _ => Or.inr (mw_ne h1 rfl) | 1, _ => Or.inr (mw_ne h2 rfl) | 2, _ => Or.inr (mw_ne h3 rfl) | 3, _ => Or.inl rfl | 4, _ => Or.inr (mw_ne h4 rfl) | k + 5, h => absurd h (by show ¬ k + 5 < 5; omega)) ?_
  refine r_lload_n hC 1 dX6_lowestBits_62 rfl rfl ?_
  exact r_lret hC rfl dX6_lowestBits_63 ⟨hO, rfl⟩
set_option maxHeartbeats 4000000 in
set_option maxRecDepth 100000 in
theorem T6_change {l : Launch} {G : mw_G} {p1 : Int32} {p2 : Int32} {p3 : Int64} {μ : mw_M} {Q : mw_M → Prop}  (hO : P6_change p1 p2 p3 μ Q) : mw_Mv l G kdX yX6_change cX6_change 5 none 3 65 [.ref (mw_a G 65), .int p1, .int p2, .long p3] μ (Q) := by
  refine mw_enter [(0, .ref (mw_a G 65)), (1, .int p1), (2, .int p2), (3, .long p3)] RX6 (by decide) rfl (Nat.le_of_ble_eq_true rfl) rfl ?_
  intro p e s m args below meth c hC
  unfold P6_change at hO
  refine r_aload_n hC 0 dX6_change_0 rfl rfl ?_
  refine r_iload_n hC 1 dX6_change_1 rfl rfl ?_
  refine r_iload_n hC 2 dX6_change_2 rfl rfl ?_
  refine r_i2l hC dX6_change_3 ?_
  refine r_iconst hC 1 dX6_change_4 (by decide) ?_
  refine r_callVi hC [.int p1, .long (Int32.toInt64 p2), .int 1] (T6_hasPlaces  hO) yv6_hasPlaces ml6_36 ob6 rfl ⟨Nat.le_of_ble_eq_true rfl, Nat.le_of_ble_eq_true rfl⟩ rfl rfl (Nat.le_of_ble_eq_true rfl) dX6_change_5 (fun r1 μ2 hO => ?_)
  rcases hO with ⟨hr, hO⟩ | ⟨hr, hO⟩
  · refine r_topEq hr ?_
    obtain ⟨hO, hm⟩ := hO
    refine r_memEq hm ?_
    refine r_if_eq hC 35 dX6_change_8 (by decide) (fun h => absurd h (by decide)) (fun _ => ?_)
    refine r_iload_n hC 2 dX6_change_11 rfl rfl ?_
    refine r_bipush hC 60 dX6_change_12 (by decide) ?_
    refine r_icmp_ge hC 35 dX6_change_14 (by decide) (fun h3 => ?_) (fun h3 => ?_)
    · have hO := hO.1 h3
      exact r_vret hC rfl dX6_change_35 hO
    · have hO := hO.2 h3
      refine r_aload_n hC 0 dX6_change_17 rfl rfl ?_
      refine r_getR hC 70 fl6_26 ob6 rfl dX6_change_18 ?_
      refine r_iload_n hC 1 dX6_change_21 rfl rfl ?_
      obtain ⟨g4, hO⟩ := hO
      refine r_aald hC sh6_4 (by decide) g4 p1.toNatClampNeg rfl (71 + p1.toNatClampNeg) (by simp only [Nat.one_mul]) dX6_change_22 ?_
      refine r_iload_n hC 2 dX6_change_23 rfl rfl ?_
      refine r_aload_n hC 0 dX6_change_24 rfl rfl ?_
      refine r_getR hC 68 fl6_18 ob6 rfl dX6_change_25 ?_
      refine r_iload_n hC 1 dX6_change_28 rfl rfl ?_
      obtain ⟨g5, hO⟩ := hO
      refine r_iald hC sh6_2 g5 p1.toNatClampNeg rfl dX6_change_29 ?_
      refine r_lload_n hC 3 dX6_change_30 rfl rfl ?_
      refine r_callSl hC [.int (μ.1 68 p1.toNatClampNeg), .long p3] (T6_lowestBits  hO) yv6_lowestBits ml6_44 ⟨Nat.le_of_ble_eq_true rfl, Nat.le_of_ble_eq_true rfl⟩ rfl rfl (Nat.le_of_ble_eq_true rfl) dX6_change_31 (fun r6 μ7 hO => ?_)
      obtain ⟨hO, hm⟩ := hO
      refine r_memEq hm ?_
      obtain ⟨g8, hO⟩ := hO
      refine r_last hC (el6_4 (vp_lt g4)) g8 p2.toNatClampNeg rfl dX6_change_34 ?_
      refine r_nmM (fun μ9 hμ9 => ?_)
      have hO := hO μ9 hμ9
      exact r_vret hC rfl dX6_change_35 hO
  · refine r_topEq hr ?_
    obtain ⟨hO, hm⟩ := hO
    refine r_memEq hm ?_
    refine r_if_eq hC 35 dX6_change_8 (by decide) (fun _ => ?_) (fun h => absurd (by decide) h)
    exact r_vret hC rfl dX6_change_35 hO
set_option maxHeartbeats 4000000 in
set_option maxRecDepth 100000 in
theorem T6_copy {l : Launch} {G : mw_G} {p1 : Int32} {p2 : Int32} {p3 : Int32} {p4 : Int32} {p5 : Int32} {μ : mw_M} {Q : mw_M → Prop}  (hO : P6_copy p1 p2 p3 p4 p5 μ Q) : mw_Mv l G kdX yX6_copy cX6_copy 6 none 3 80 [.ref (mw_a G 65), .int p1, .int p2, .int p3, .int p4, .int p5] μ (Q) := by
  refine mw_enter [(0, .ref (mw_a G 65)), (1, .int p1), (2, .int p2), (3, .int p3), (4, .int p4), (5, .int p5)] RX6 (by decide) rfl (Nat.le_of_ble_eq_true rfl) rfl ?_
  intro p e s m args below meth c hC
  unfold P6_copy at hO
  refine r_aload_n hC 0 dX6_copy_0 rfl rfl ?_
  refine r_iload_n hC 1 dX6_copy_1 rfl rfl ?_
  refine r_iload_n hC 2 dX6_copy_2 rfl rfl ?_
  refine r_i2l hC dX6_copy_3 ?_
  refine r_iload hC 5 dX6_copy_4 rfl ?_
  refine r_callVi hC [.int p1, .long (Int32.toInt64 p2), .int p5] (T6_hasPlaces  hO) yv6_hasPlaces ml6_36 ob6 rfl ⟨Nat.le_of_ble_eq_true rfl, Nat.le_of_ble_eq_true rfl⟩ rfl rfl (Nat.le_of_ble_eq_true rfl) dX6_copy_6 (fun r1 μ2 hO => ?_)
  rcases hO with ⟨hr, hO⟩ | ⟨hr, hO⟩
  · refine r_topEq hr ?_
    obtain ⟨hO, hm⟩ := hO
    refine r_memEq hm ?_
    refine r_if_eq hC 45 dX6_copy_9 (by decide) (fun h => absurd h (by decide)) (fun _ => ?_)
    refine r_aload_n hC 0 dX6_copy_12 rfl rfl ?_
    refine r_iload_n hC 3 dX6_copy_13 rfl rfl ?_
    refine r_iload hC 4 dX6_copy_14 rfl ?_
    refine r_i2l hC dX6_copy_16 ?_
    refine r_iload hC 5 dX6_copy_17 rfl ?_
    refine r_callVi hC [.int p3, .long (Int32.toInt64 p4), .int p5] (T6_hasPlaces  hO) yv6_hasPlaces ml6_36 ob6 rfl ⟨Nat.le_of_ble_eq_true rfl, Nat.le_of_ble_eq_true rfl⟩ rfl rfl (Nat.le_of_ble_eq_true rfl) dX6_copy_19 (fun r3 μ4 hO => ?_)
    rcases hO with ⟨hr, hO⟩ | ⟨hr, hO⟩
    · refine r_topEq hr ?_
      obtain ⟨hO, hm⟩ := hO
      refine r_memEq hm ?_
      refine r_if_eq hC 45 dX6_copy_22 (by decide) (fun h => absurd h (by decide)) (fun _ => ?_)
      refine r_aload_n hC 0 dX6_copy_25 rfl rfl ?_
      refine r_getR hC 70 fl6_26 ob6 rfl dX6_copy_26 ?_
      refine r_iload_n hC 1 dX6_copy_29 rfl rfl ?_
      obtain ⟨g5, hO⟩ := hO
      refine r_aald hC sh6_4 (by decide) g5 p1.toNatClampNeg rfl (71 + p1.toNatClampNeg) (by simp only [Nat.one_mul]) dX6_copy_30 ?_
      refine r_iload_n hC 2 dX6_copy_31 rfl rfl ?_
      refine r_aload_n hC 0 dX6_copy_32 rfl rfl ?_
      refine r_getR hC 70 fl6_26 ob6 rfl dX6_copy_33 ?_
      refine r_iload_n hC 3 dX6_copy_36 rfl rfl ?_
      obtain ⟨g6, hO⟩ := hO
      refine r_aald hC sh6_4 (by decide) g6 p3.toNatClampNeg rfl (71 + p3.toNatClampNeg) (by simp only [Nat.one_mul]) dX6_copy_37 ?_
      refine r_iload hC 4 dX6_copy_38 rfl ?_
      refine r_iload hC 5 dX6_copy_40 rfl ?_
      obtain ⟨g7, hO⟩ := hO
      refine r_copyL hC cp6_48 (el6_4 (vp_lt g5)) (el6_4 (vp_lt g6)) g7.1 g7.2.1 g7.2.2.1 g7.2.2.2.1 g7.2.2.2.2 (Nat.le_of_ble_eq_true rfl) (Nat.le_of_ble_eq_true rfl) dX6_copy_42 ?_
      refine r_nmM (fun μ8 hμ8 => ?_)
      have hO := hO μ8 hμ8
      exact r_vret hC rfl dX6_copy_45 hO
    · refine r_topEq hr ?_
      obtain ⟨hO, hm⟩ := hO
      refine r_memEq hm ?_
      refine r_if_eq hC 45 dX6_copy_22 (by decide) (fun _ => ?_) (fun h => absurd (by decide) h)
      exact r_vret hC rfl dX6_copy_45 hO
  · refine r_topEq hr ?_
    obtain ⟨hO, hm⟩ := hO
    refine r_memEq hm ?_
    refine r_if_eq hC 45 dX6_copy_9 (by decide) (fun _ => ?_) (fun h => absurd (by decide) h)
    exact r_vret hC rfl dX6_copy_45 hO
set_option maxHeartbeats 4000000 in
set_option maxRecDepth 100000 in
theorem T7_hasRoomFor {l : Launch} {G : mw_G} {p1 : Int32} {μ : mw_M} {QT : Prop} {QF : Prop}  (hO : P7_hasRoomFor p1 μ QT QF) : mw_Mi l G kdX yX7_hasRoomFor cX7_hasRoomFor 2 (some .boolean) 0 0 [.ref (mw_a G 16), .int p1] μ (mw_bq (mw_pv μ QT) (mw_pv μ QF)) := by
  refine mw_enter [(0, .ref (mw_a G 16)), (1, .int p1)] RX7 (by decide) rfl (Nat.le_of_ble_eq_true rfl) rfl ?_
  intro p e s m args below meth c hC
  unfold P7_hasRoomFor at hO
  refine r_aload_n hC 0 dX7_hasRoomFor_0 rfl rfl ?_
  refine r_getI hC fl7_13 ob7 rfl dX7_hasRoomFor_1 ?_
  refine r_iload_n hC 1 dX7_hasRoomFor_4 rfl rfl ?_
  refine r_iadd hC dX7_hasRoomFor_5 ?_
  refine r_bipush hC 120 dX7_hasRoomFor_6 (by decide) ?_
  refine r_icmp_gt hC 15 dX7_hasRoomFor_8 (by decide) (fun h1 => ?_) (fun h1 => ?_)
  · have hO := hO.1 h1
    refine r_iconst hC 0 dX7_hasRoomFor_15 (by decide) ?_
    exact r_zret hC rfl (by decide) dX7_hasRoomFor_16 (Or.inr ⟨rfl, hO, rfl⟩)
  · have hO := hO.2 h1
    refine r_iconst hC 1 dX7_hasRoomFor_11 (by decide) ?_
    refine r_goto hC 16 dX7_hasRoomFor_12 (by decide) ?_
    exact r_zret hC rfl (by decide) dX7_hasRoomFor_16 (Or.inl ⟨rfl, hO, rfl⟩)
set_option maxHeartbeats 4000000 in
set_option maxRecDepth 100000 in
theorem T7_take {l : Launch} {G : mw_G} {p1 : Int32} {p2 : Int32} {μ : mw_M} {Q : Int32 → mw_M → Prop}  (hO : P7_take p1 p2 μ Q) : mw_Mi l G kdX yX7_take cX7_take 4 (some .int) 0 0 [.ref (mw_a G 16), .int p1, .int p2] μ (Q) := by
  refine mw_enter [(0, .ref (mw_a G 16)), (1, .int p1), (2, .int p2)] RX7 (by decide) rfl (Nat.le_of_ble_eq_true rfl) rfl ?_
  intro p e s m args below meth c hC
  unfold P7_take at hO
  refine r_iconst hC 0 dX7_take_0 (by decide) ?_
  refine r_istore_n hC [(3, .int 0), (0, .ref (mw_a G 16)), (1, .int p1), (2, .int p2)] dX7_take_1 rfl (by decide) rfl ?_
  have hLn3 : ∀   (n3 : Nat) (v1 : Int32) (μ2 : mw_M), L7_take_2 p1 p2 Q n3 v1 μ2 → mw_W p l e (mw_rm 0 0) s m args below meth c G kdX 4 (MQ below (va_Qi (Q) (mw_B G kdX) (mw_A G kdX)) args s 0 0 (mw_A G kdX)) 2 [(3, .int v1), (0, .ref (mw_a G 16)), (1, .int p1), (2, .int p2)] [] μ2 := by
    intro   n3
    induction n3 with
    | zero => intro v1 μ2 hO; exact False.elim hO
    | succ n3 ihn3 =>
      intro v1 μ2 hO
      refine r_iload_n hC 0 dX7_take_2 rfl rfl ?_
      refine r_iload_n hC 2 dX7_take_3 rfl rfl ?_
      refine r_icmp_ge hC 51 dX7_take_4 (by decide) (fun h4 => ?_) (fun h4 => ?_)
      · have hO := hO.1 h4
        refine r_aload_n hC 1 dX7_take_51 rfl rfl ?_
        refine r_getI hC fl7_13 ob7 rfl dX7_take_52 ?_
        exact r_iret hC rfl dX7_take_55 hO
      · have hO := hO.2 h4
        refine r_aload_n hC 1 dX7_take_7 rfl rfl ?_
        refine r_getI hC fl7_13 ob7 rfl dX7_take_8 ?_
        refine r_bipush hC 120 dX7_take_11 (by decide) ?_
        refine r_icmp_ge hC 51 dX7_take_13 (by decide) (fun h5 => ?_) (fun h5 => ?_)
        · have hO := hO.1 h5
          refine r_aload_n hC 1 dX7_take_51 rfl rfl ?_
          refine r_getI hC fl7_13 ob7 rfl dX7_take_52 ?_
          exact r_iret hC rfl dX7_take_55 hO
        · have hO := hO.2 h5
          refine r_aload_n hC 1 dX7_take_16 rfl rfl ?_
          refine r_getR hC 17 fl7_9 ob7 rfl dX7_take_17 ?_
          refine r_aload_n hC 1 dX7_take_20 rfl rfl ?_
          refine r_getI hC fl7_13 ob7 rfl dX7_take_21 ?_
          refine r_iload_n hC 3 dX7_take_24 rfl rfl ?_
          refine r_bipush hC 8 dX7_take_25 (by decide) ?_
          refine r_iload_n hC 0 dX7_take_27 rfl rfl ?_
          refine r_imul hC dX7_take_28 ?_
          refine r_iushr hC dX7_take_29 ?_
          refine r_sipush hC 255 dX7_take_30 (by decide) ?_
          refine r_iand hC dX7_take_33 ?_
          obtain ⟨g6, hO⟩ := hO
          refine r_iast hC sh7_0 g6 ((μ2.1 16 1).toNatClampNeg) rfl dX7_take_34 ?_
          refine r_nmM (fun μ7 hμ7 => ?_)
          have hO := hO μ7 hμ7
          refine r_aload_n hC 1 dX7_take_35 rfl rfl ?_
          refine r_dup hC dX7_take_36 rfl ?_
          refine r_getI hC fl7_13 ob7 rfl dX7_take_37 ?_
          refine r_iconst hC 1 dX7_take_40 (by decide) ?_
          refine r_iadd hC dX7_take_41 ?_
          refine r_putI hC fl7_13 ob7 rfl rfl rfl dX7_take_42 ?_
          refine r_nmM (fun μ8 hμ8 => ?_)
          have hO := hO μ8 hμ8
          obtain ⟨x9, hx9⟩ : ∃ y : Int32, y = v1 + 1 := ⟨_, rfl⟩
          have hO := hO x9 hx9
          refine r_iinc hC x9 0 [(3, .int x9), (0, .ref (mw_a G 16)), (1, .int p1), (2, .int p2)] dX7_take_45 rfl (by rw [hx9]; rfl) (by decide) rfl ?_
          refine r_goto hC 2 dX7_take_48 (by decide) ?_
          refine r_lv hC [(3, .int x9), (0, .ref (mw_a G 16)), (1, .int p1), (2, .int p2)] [0, 1, 2, 3] rfl ?_
          exact ihn3 x9 μ8 hO
  obtain ⟨n3, hO⟩ := hO
  refine hLn3   n3 _ _ hO
set_option maxHeartbeats 4000000 in
set_option maxRecDepth 100000 in
theorem T8_paceToFear {l : Launch} {G : mw_G}  {μ : mw_M} {Q : Int32 → Prop}  (hO : P8_paceToFear μ Q) : mw_Mi l G kdX yX8_paceToFear cX8_paceToFear 4 (some .int) 3 89 [.ref (mw_a G 44)] μ (mw_pq μ Q) := by
  refine mw_enter [(0, .ref (mw_a G 44))] RX8 (by decide) rfl (Nat.le_of_ble_eq_true rfl) rfl ?_
  intro p e s m args below meth c hC
  unfold P8_paceToFear at hO
  refine r_aload_n hC 0 dX8_paceToFear_0 rfl rfl ?_
  refine r_getR hC 1 fl8_9 ob8 rfl dX8_paceToFear_1 ?_
  refine r_callVi hC [] (T2_lopsided sh8_0 hO) yv2_lopsided ml8_38 sh8_0 rfl ⟨Nat.le_of_ble_eq_true rfl, Nat.le_of_ble_eq_true rfl⟩ rfl rfl (Nat.le_of_ble_eq_true rfl) dX8_paceToFear_4 (fun r1 μ2 hO => ?_)
  obtain ⟨hO, hm⟩ := hO
  refine r_memEq hm ?_
  refine r_istore_n hC [(1, .int r1), (0, .ref (mw_a G 44))] dX8_paceToFear_7 rfl (by decide) rfl ?_
  refine r_bipush hC 10 dX8_paceToFear_8 (by decide) ?_
  refine r_istore_n hC [(2, .int 10), (1, .int r1), (0, .ref (mw_a G 44))] dX8_paceToFear_10 rfl (by decide) rfl ?_
  refine r_bipush hC 20 dX8_paceToFear_11 (by decide) ?_
  refine r_istore_n hC [(3, .int 20), (2, .int 10), (1, .int r1), (0, .ref (mw_a G 44))] dX8_paceToFear_13 rfl (by decide) rfl ?_
  have hLn5 : ∀   (n5 : Nat) (v3 : Int32) (v4 : Int32), L8_paceToFear_14 r1 μ Q n5 v3 v4 → mw_W p l e (mw_rm 3 89) s m args below meth c G kdX 4 (MQ below (va_Qi (mw_pq μ Q) (mw_B G kdX) (mw_A G kdX)) args s 0 0 (mw_A G kdX)) 14 [(3, .int v3), (2, .int v4), (1, .int r1), (0, .ref (mw_a G 44))] [] μ := by
    intro   n5
    induction n5 with
    | zero => intro v3 v4 hO; exact False.elim hO
    | succ n5 ihn5 =>
      intro v3 v4 hO
      refine r_iload_n hC 0 dX8_paceToFear_14 rfl rfl ?_
      refine r_sipush hC 1200 dX8_paceToFear_15 (by decide) ?_
      refine r_icmp_gt hC 50 dX8_paceToFear_18 (by decide) (fun h6 => ?_) (fun h6 => ?_)
      · have hO := hO.1 h6
        refine r_iload_n hC 1 dX8_paceToFear_50 rfl rfl ?_
        exact r_iret hC rfl dX8_paceToFear_51 ⟨hO, rfl⟩
      · have hO := hO.2 h6
        refine r_aload_n hC 3 dX8_paceToFear_21 rfl rfl ?_
        refine r_getR hC 11 fl8_15 ob8 rfl dX8_paceToFear_22 ?_
        refine r_iload_n hC 2 dX8_paceToFear_25 rfl rfl ?_
        refine r_iload_n hC 0 dX8_paceToFear_26 rfl rfl ?_
        refine r_callVi hC [.int r1, .int v3] (T5_shakeOf  hO) yv5_shakeOf ml8_44 sh8_1 rfl ⟨Nat.le_of_ble_eq_true rfl, Nat.le_of_ble_eq_true rfl⟩ rfl rfl (Nat.le_of_ble_eq_true rfl) dX8_paceToFear_27 (fun r7 μ8 hO => ?_)
        obtain ⟨hO, hm⟩ := hO
        refine r_memEq hm ?_
        refine r_aload_n hC 3 dX8_paceToFear_30 rfl rfl ?_
        refine r_getR hC 11 fl8_15 ob8 rfl dX8_paceToFear_31 ?_
        refine r_iload_n hC 2 dX8_paceToFear_34 rfl rfl ?_
        refine r_iload_n hC 1 dX8_paceToFear_35 rfl rfl ?_
        refine r_callVi hC [.int r1, .int v4] (T5_shakeOf  hO) yv5_shakeOf ml8_44 sh8_1 rfl ⟨Nat.le_of_ble_eq_true rfl, Nat.le_of_ble_eq_true rfl⟩ rfl rfl (Nat.le_of_ble_eq_true rfl) dX8_paceToFear_36 (fun r9 μ10 hO => ?_)
        obtain ⟨hO, hm⟩ := hO
        refine r_memEq hm ?_
        refine r_icmp_le hC 44 dX8_paceToFear_39 (by decide) (fun h11 => ?_) (fun h11 => ?_)
        · have hO := hO.1 h11
          obtain ⟨x12, hx12⟩ : ∃ y : Int32, y = v3 + 10 := ⟨_, rfl⟩
          have hO := hO x12 hx12
          refine r_iinc hC x12 0 [(3, .int x12), (2, .int v4), (1, .int r1), (0, .ref (mw_a G 44))] dX8_paceToFear_44 rfl (by rw [hx12]; rfl) (by decide) rfl ?_
          refine r_goto hC 14 dX8_paceToFear_47 (by decide) ?_
          refine r_lv hC [(3, .int x12), (2, .int v4), (1, .int r1), (0, .ref (mw_a G 44))] [0, 1, 2, 3] rfl ?_
          exact ihn5 x12 v4 hO
        · have hO := hO.2 h11
          refine r_iload_n hC 0 dX8_paceToFear_42 rfl rfl ?_
          refine r_istore_n hC [(2, .int v3), (3, .int v3), (1, .int r1), (0, .ref (mw_a G 44))] dX8_paceToFear_43 rfl (by decide) rfl ?_
          obtain ⟨x13, hx13⟩ : ∃ y : Int32, y = v3 + 10 := ⟨_, rfl⟩
          have hO := hO x13 hx13
          refine r_iinc hC x13 1 [(3, .int x13), (2, .int v3), (1, .int r1), (0, .ref (mw_a G 44))] dX8_paceToFear_44 rfl (by rw [hx13]; rfl) (by decide) rfl ?_
          refine r_goto hC 14 dX8_paceToFear_47 (by decide) ?_
          refine r_lv hC [(3, .int x13), (2, .int v3), (1, .int r1), (0, .ref (mw_a G 44))] [0, 1, 2, 3] rfl ?_
          exact ihn5 x13 v3 hO
  obtain ⟨n5, hO⟩ := hO
  refine hLn5   n5 _ _ hO
set_option maxHeartbeats 4000000 in
set_option maxRecDepth 100000 in
theorem T8_bestCounter {l : Launch} {G : mw_G} {p1 : Int32} {μ : mw_M} {Q : Int32 → mw_M → Prop}  (hO : P8_bestCounter p1 μ Q) : mw_Mi l G kdX yX8_bestCounter cX8_bestCounter 9 (some .int) 2 63 [.ref (mw_a G 44), .int p1] μ (Q) := by
  refine mw_enter [(0, .ref (mw_a G 44)), (1, .int p1)] RX8 (by decide) rfl (Nat.le_of_ble_eq_true rfl) rfl ?_
  intro p e s m args below meth c hC
  unfold P8_bestCounter at hO
  refine r_aload_n hC 0 dX8_bestCounter_0 rfl rfl ?_
  refine r_getR hC 45 fl8_26 ob8 rfl dX8_bestCounter_1 ?_
  refine r_aload_n hC 0 dX8_bestCounter_4 rfl rfl ?_
  refine r_getR hC 1 fl8_9 ob8 rfl dX8_bestCounter_5 ?_
  refine r_callVv hC [.ref (mw_a G 1)] (T2_lieAs sh8_3 sh8_0 hO) yv2_lieAs ml8_48 sh8_3 rfl ⟨Nat.le_of_ble_eq_true rfl, Nat.le_of_ble_eq_true rfl⟩ rfl rfl (Nat.le_of_ble_eq_true rfl) dX8_bestCounter_8 (fun μ1 hO => ?_)
  refine r_aload_n hC 0 dX8_bestCounter_11 rfl rfl ?_
  refine r_getR hC 45 fl8_26 ob8 rfl dX8_bestCounter_12 ?_
  refine r_iconst hC 0 dX8_bestCounter_15 (by decide) ?_
  refine r_iconst hC 4 dX8_bestCounter_16 (by decide) ?_
  refine r_iconst hC 0 dX8_bestCounter_17 (by decide) ?_
  refine r_callVv hC [.int 0, .int 4, .int 0] (T2_tell sh8_3 hO) yv2_tell ml8_52 sh8_3 rfl ⟨Nat.le_of_ble_eq_true rfl, Nat.le_of_ble_eq_true rfl⟩ rfl rfl (Nat.le_of_ble_eq_true rfl) dX8_bestCounter_18 (fun μ2 hO => ?_)
  refine r_aload_n hC 0 dX8_bestCounter_21 rfl rfl ?_
  refine r_getR hC 45 fl8_26 ob8 rfl dX8_bestCounter_22 ?_
  refine r_callVi hC [] (T2_across sh8_3 hO) yv2_across ml8_56 sh8_3 rfl ⟨Nat.le_of_ble_eq_true rfl, Nat.le_of_ble_eq_true rfl⟩ rfl rfl (Nat.le_of_ble_eq_true rfl) dX8_bestCounter_25 (fun r3 μ4 hO => ?_)
  obtain ⟨hO, hm⟩ := hO
  refine r_memEq hm ?_
  refine r_istore_n hC [(2, .int r3), (0, .ref (mw_a G 44)), (1, .int p1)] dX8_bestCounter_28 rfl (by decide) rfl ?_
  refine r_aload_n hC 1 dX8_bestCounter_29 rfl rfl ?_
  refine r_getR hC 45 fl8_26 ob8 rfl dX8_bestCounter_30 ?_
  refine r_callVi hC [] (T2_along sh8_3 hO) yv2_along ml8_59 sh8_3 rfl ⟨Nat.le_of_ble_eq_true rfl, Nat.le_of_ble_eq_true rfl⟩ rfl rfl (Nat.le_of_ble_eq_true rfl) dX8_bestCounter_33 (fun r5 μ6 hO => ?_)
  obtain ⟨hO, hm⟩ := hO
  refine r_memEq hm ?_
  refine r_istore_n hC [(3, .int r5), (2, .int r3), (0, .ref (mw_a G 44)), (1, .int p1)] dX8_bestCounter_36 rfl (by decide) rfl ?_
  refine r_iload_n hC 1 dX8_bestCounter_37 rfl rfl ?_
  refine r_iload_n hC 0 dX8_bestCounter_38 rfl rfl ?_
  refine r_callSi hC [.int r3, .int r5] (T2_lopsidedBy  hO) yv2_lopsidedBy ml8_62 ⟨Nat.le_of_ble_eq_true rfl, Nat.le_of_ble_eq_true rfl⟩ rfl rfl (Nat.le_of_ble_eq_true rfl) dX8_bestCounter_39 (fun r7 μ8 hO => ?_)
  obtain ⟨hO, hm⟩ := hO
  refine r_memEq hm ?_
  refine r_istore hC [(4, .int r7), (3, .int r5), (2, .int r3), (0, .ref (mw_a G 44)), (1, .int p1)] dX8_bestCounter_42 (by decide) rfl ?_
  refine r_iconst hC 0 dX8_bestCounter_44 (by decide) ?_
  refine r_istore hC [(5, .int 0), (4, .int r7), (3, .int r5), (2, .int r3), (0, .ref (mw_a G 44)), (1, .int p1)] dX8_bestCounter_45 (by decide) rfl ?_
  refine r_iconst hC 1 dX8_bestCounter_47 (by decide) ?_
  refine r_istore hC [(6, .int 1), (5, .int 0), (4, .int r7), (3, .int r5), (2, .int r3), (0, .ref (mw_a G 44)), (1, .int p1)] dX8_bestCounter_48 (by decide) rfl ?_
  have hLn12 : ∀  (K1 : Int32 → Int32 → Int32 → Prop) (hK1 : ∀ (v9 : Int32) (v10 : Int32) (v11 : Int32), K1 v9 v10 v11 → mw_W p l e (mw_rm 2 63) s m args below meth c G kdX 9 (MQ below (va_Qi (Q) (mw_B G kdX) (mw_A G kdX)) args s 0 0 (mw_A G kdX)) 131 [(6, .int v9), (5, .int v10), (4, .int v11), (3, .int r5), (2, .int r3), (0, .ref (mw_a G 44)), (1, .int p1)] [] μ2) (n12 : Nat) (v9 : Int32) (v10 : Int32) (v11 : Int32), L8_bestCounter_50 r5 r3 p1 μ2 Q K1 n12 v9 v10 v11 → mw_W p l e (mw_rm 2 63) s m args below meth c G kdX 9 (MQ below (va_Qi (Q) (mw_B G kdX) (mw_A G kdX)) args s 0 0 (mw_A G kdX)) 50 [(6, .int v9), (5, .int v10), (4, .int v11), (3, .int r5), (2, .int r3), (0, .ref (mw_a G 44)), (1, .int p1)] [] μ2 := by
    intro  K1 hK1 n12
    induction n12 with
    | zero => intro v9 v10 v11 hO; exact False.elim hO
    | succ n12 ihn12 =>
      intro v9 v10 v11 hO
      refine r_iload hC 0 dX8_bestCounter_50 rfl ?_
      refine r_bipush hC 99 dX8_bestCounter_52 (by decide) ?_
      refine r_icmp_gt hC 131 dX8_bestCounter_54 (by decide) (fun h13 => ?_) (fun h13 => ?_)
      · have hO := hO.1 h13
        refine r_lv hC [(6, .int v9), (5, .int v10), (4, .int v11), (3, .int r5), (2, .int r3), (0, .ref (mw_a G 44)), (1, .int p1)] [0, 1, 2, 3, 4, 5, 6] rfl ?_
        exact hK1 v9 v10 v11 hO
      · have hO := hO.2 h13
        refine r_iconst hC 0 dX8_bestCounter_57 (by decide) ?_
        refine r_istore hC [(7, .int 0), (6, .int v9), (5, .int v10), (4, .int v11), (3, .int r5), (2, .int r3), (0, .ref (mw_a G 44)), (1, .int p1)] dX8_bestCounter_58 (by decide) rfl ?_
        have hLn17 : ∀  (K1 : Int32 → Int32 → Int32 → Prop) (hK1 : ∀ (v14 : Int32) (v15 : Int32) (v16 : Int32), K1 v14 v15 v16 → mw_W p l e (mw_rm 2 63) s m args below meth c G kdX 9 (MQ below (va_Qi (Q) (mw_B G kdX) (mw_A G kdX)) args s 0 0 (mw_A G kdX)) 125 [(7, .int v14), (6, .int v9), (5, .int v15), (4, .int v16), (3, .int r5), (2, .int r3), (0, .ref (mw_a G 44)), (1, .int p1)] [] μ2) (n17 : Nat) (v14 : Int32) (v15 : Int32) (v16 : Int32), L8_bestCounter_60 v9 r5 r3 p1 μ2 Q K1 n17 v14 v15 v16 → mw_W p l e (mw_rm 2 63) s m args below meth c G kdX 9 (MQ below (va_Qi (Q) (mw_B G kdX) (mw_A G kdX)) args s 0 0 (mw_A G kdX)) 60 [(7, .int v14), (6, .int v9), (5, .int v15), (4, .int v16), (3, .int r5), (2, .int r3), (0, .ref (mw_a G 44)), (1, .int p1)] [] μ2 := by
          intro  K1 hK1 n17
          induction n17 with
          | zero => intro v14 v15 v16 hO; exact False.elim hO
          | succ n17 ihn17 =>
            intro v14 v15 v16 hO
            refine r_iload hC 0 dX8_bestCounter_60 rfl ?_
            refine r_bipush hC 12 dX8_bestCounter_62 (by decide) ?_
            refine r_icmp_ge hC 125 dX8_bestCounter_64 (by decide) (fun h18 => ?_) (fun h18 => ?_)
            · have hO := hO.1 h18
              refine r_lv hC [(7, .int v14), (6, .int v9), (5, .int v15), (4, .int v16), (3, .int r5), (2, .int r3), (0, .ref (mw_a G 44)), (1, .int p1)] [0, 1, 2, 3, 4, 5, 6, 7] rfl ?_
              exact hK1 v14 v15 v16 hO
            · have hO := hO.2 h18
              refine r_iload_n hC 5 dX8_bestCounter_67 rfl rfl ?_
              refine r_iload hC 1 dX8_bestCounter_68 rfl ?_
              refine r_iload hC 0 dX8_bestCounter_70 rfl ?_
              refine r_callSi hC [.int v14] (T2_cosine  hO) yv2_cosine ml8_65 ⟨Nat.le_of_ble_eq_true rfl, Nat.le_of_ble_eq_true rfl⟩ rfl rfl (Nat.le_of_ble_eq_true rfl) dX8_bestCounter_72 (fun r19 μ20 hO => ?_)
              obtain ⟨hO, hm⟩ := hO
              refine r_memEq hm ?_
              refine r_imul hC dX8_bestCounter_75 ?_
              refine r_bipush hC 10 dX8_bestCounter_76 (by decide) ?_
              refine r_idiv hC dX8_bestCounter_78 (by decide) ?_
              refine r_iadd hC dX8_bestCounter_79 ?_
              refine r_iload_n hC 4 dX8_bestCounter_80 rfl rfl ?_
              refine r_iload hC 1 dX8_bestCounter_81 rfl ?_
              refine r_iload hC 0 dX8_bestCounter_83 rfl ?_
              refine r_callSi hC [.int v14] (T2_sine  hO) yv2_sine ml8_69 ⟨Nat.le_of_ble_eq_true rfl, Nat.le_of_ble_eq_true rfl⟩ rfl rfl (Nat.le_of_ble_eq_true rfl) dX8_bestCounter_85 (fun r21 μ22 hO => ?_)
              obtain ⟨hO, hm⟩ := hO
              refine r_memEq hm ?_
              refine r_imul hC dX8_bestCounter_88 ?_
              refine r_bipush hC 10 dX8_bestCounter_89 (by decide) ?_
              refine r_idiv hC dX8_bestCounter_91 (by decide) ?_
              refine r_iadd hC dX8_bestCounter_92 ?_
              refine r_callSi hC [.int (r3 + ((v9 * r19) / 10)), .int (r5 + ((v9 * r21) / 10))] (T2_lopsidedBy  hO) yv2_lopsidedBy ml8_62 ⟨Nat.le_of_ble_eq_true rfl, Nat.le_of_ble_eq_true rfl⟩ rfl rfl (Nat.le_of_ble_eq_true rfl) dX8_bestCounter_93 (fun r23 μ24 hO => ?_)
              obtain ⟨hO, hm⟩ := hO
              refine r_memEq hm ?_
              refine r_istore hC [(8, .int r23), (7, .int v14), (6, .int v9), (5, .int v15), (4, .int v16), (3, .int r5), (2, .int r3), (0, .ref (mw_a G 44)), (1, .int p1)] dX8_bestCounter_96 (by decide) rfl ?_
              refine r_iload hC 0 dX8_bestCounter_98 rfl ?_
              refine r_iload hC 4 dX8_bestCounter_100 rfl ?_
              refine r_icmp_ge hC 119 dX8_bestCounter_102 (by decide) (fun h25 => ?_) (fun h25 => ?_)
              · have hO := hO.1 h25
                obtain ⟨x26, hx26⟩ : ∃ y : Int32, y = v14 + 1 := ⟨_, rfl⟩
                have hO := hO x26 hx26
                refine r_iinc hC x26 1 [(7, .int x26), (8, .int r23), (6, .int v9), (5, .int v15), (4, .int v16), (3, .int r5), (2, .int r3), (0, .ref (mw_a G 44)), (1, .int p1)] dX8_bestCounter_119 rfl (by rw [hx26]; rfl) (by decide) rfl ?_
                refine r_goto hC 60 dX8_bestCounter_122 (by decide) ?_
                refine r_lv hC [(7, .int x26), (6, .int v9), (5, .int v15), (4, .int v16), (3, .int r5), (2, .int r3), (0, .ref (mw_a G 44)), (1, .int p1)] [0, 2, 3, 4, 5, 6, 7, 8] rfl ?_
                exact ihn17 x26 v15 v16 hO
              · have hO := hO.2 h25
                refine r_iload hC 0 dX8_bestCounter_105 rfl ?_
                refine r_istore hC [(4, .int r23), (8, .int r23), (7, .int v14), (6, .int v9), (5, .int v15), (3, .int r5), (2, .int r3), (0, .ref (mw_a G 44)), (1, .int p1)] dX8_bestCounter_107 (by decide) rfl ?_
                refine r_bipush hC 100 dX8_bestCounter_109 (by decide) ?_
                refine r_iload hC 3 dX8_bestCounter_111 rfl ?_
                refine r_imul hC dX8_bestCounter_113 ?_
                refine r_iload hC 2 dX8_bestCounter_114 rfl ?_
                refine r_iadd hC dX8_bestCounter_116 ?_
                refine r_nmI (fun x27 hx27 => ?_)
                have hO := hO x27 hx27
                refine r_istore hC [(5, .int x27), (4, .int r23), (8, .int r23), (7, .int v14), (6, .int v9), (3, .int r5), (2, .int r3), (0, .ref (mw_a G 44)), (1, .int p1)] dX8_bestCounter_117 (by decide) rfl ?_
                obtain ⟨x28, hx28⟩ : ∃ y : Int32, y = v14 + 1 := ⟨_, rfl⟩
                have hO := hO x28 hx28
                refine r_iinc hC x28 3 [(7, .int x28), (5, .int x27), (4, .int r23), (8, .int r23), (6, .int v9), (3, .int r5), (2, .int r3), (0, .ref (mw_a G 44)), (1, .int p1)] dX8_bestCounter_119 rfl (by rw [hx28]; rfl) (by decide) rfl ?_
                refine r_goto hC 60 dX8_bestCounter_122 (by decide) ?_
                refine r_lv hC [(7, .int x28), (6, .int v9), (5, .int x27), (4, .int r23), (3, .int r5), (2, .int r3), (0, .ref (mw_a G 44)), (1, .int p1)] [0, 4, 1, 2, 5, 6, 7, 8] rfl ?_
                exact ihn17 x28 x27 r23 hO
        obtain ⟨n17, hO⟩ := hO
        refine hLn17  _ (fun v14 v15 v16 hO => ?_) n17 _ _ _ hO
        obtain ⟨x29, hx29⟩ : ∃ y : Int32, y = v9 + 1 := ⟨_, rfl⟩
        have hO := hO x29 hx29
        refine r_iinc hC x29 1 [(6, .int x29), (7, .int v14), (5, .int v15), (4, .int v16), (3, .int r5), (2, .int r3), (0, .ref (mw_a G 44)), (1, .int p1)] dX8_bestCounter_125 rfl (by rw [hx29]; rfl) (by decide) rfl ?_
        refine r_goto hC 50 dX8_bestCounter_128 (by decide) ?_
        refine r_lv hC [(6, .int x29), (5, .int v15), (4, .int v16), (3, .int r5), (2, .int r3), (0, .ref (mw_a G 44)), (1, .int p1)] [0, 2, 3, 4, 5, 6, 7] rfl ?_
        exact ihn12 x29 v15 v16 hO
  obtain ⟨n12, hO⟩ := hO
  refine hLn12  _ (fun v9 v10 v11 hO => ?_) n12 _ _ _ hO
  refine r_iload_n hC 6 dX8_bestCounter_131 rfl rfl ?_
  refine r_if_ne hC 140 dX8_bestCounter_132 (by decide) (fun h30 => ?_) (fun h30 => ?_)
  · have hO := hO.2 h30
    refine r_iload hC 2 dX8_bestCounter_140 rfl ?_
    exact r_iret hC rfl dX8_bestCounter_142 hO
  · have hO := hO.1 h30
    refine r_iload hC 1 dX8_bestCounter_135 rfl ?_
    refine r_goto hC 142 dX8_bestCounter_137 (by decide) ?_
    exact r_iret hC rfl dX8_bestCounter_142 hO
set_option maxHeartbeats 4000000 in
set_option maxRecDepth 100000 in
theorem T8_meanOf {l : Launch} {G : mw_G} {p1 : Int32} {p2 : Int32} {μ : mw_M} {Q : Int32 → Prop}  (hO : P8_meanOf p1 p2 Q) : mw_Mi l G kdX yX8_meanOf cX8_meanOf 2 (some .int) 0 0 [.int p1, .int p2] μ (mw_pq μ Q) := by
  refine mw_enter [(0, .int p1), (1, .int p2)] RX8 (by decide) rfl (Nat.le_of_ble_eq_true rfl) rfl ?_
  intro p e s m args below meth c hC
  unfold P8_meanOf at hO
  refine r_iload_n hC 1 dX8_meanOf_0 rfl rfl ?_
  refine r_iconst hC 1 dX8_meanOf_1 (by decide) ?_
  refine r_icmp_ge hC 9 dX8_meanOf_2 (by decide) (fun h1 => ?_) (fun h1 => ?_)
  · have hO := hO.1 h1
    refine r_iload_n hC 0 dX8_meanOf_9 rfl rfl ?_
    refine r_iload_n hC 1 dX8_meanOf_10 rfl rfl ?_
    obtain ⟨g2, hO⟩ := hO
    refine r_idiv hC dX8_meanOf_11 g2 ?_
    exact r_iret hC rfl dX8_meanOf_12 ⟨hO, rfl⟩
  · have hO := hO.2 h1
    refine r_iconst hC 0 dX8_meanOf_5 (by decide) ?_
    refine r_goto hC 12 dX8_meanOf_6 (by decide) ?_
    exact r_iret hC rfl dX8_meanOf_12 ⟨hO, rfl⟩
set_option maxHeartbeats 4000000 in
set_option maxRecDepth 100000 in
theorem T8_spreadBest {l : Launch} {G : mw_G} {p1 : Int32} {p2 : Int32} {p3 : Int32} {μ : mw_M} {Q : Int32 → mw_M → Prop}  (hO : P8_spreadBest p1 p2 p3 μ Q) : mw_Mi l G kdX yX8_spreadBest cX8_spreadBest 10 (some .int) 3 83 [.ref (mw_a G 44), .int p1, .int p2, .int p3] μ (Q) := by
  refine mw_enter [(0, .ref (mw_a G 44)), (1, .int p1), (2, .int p2), (3, .int p3)] RX8 (by decide) rfl (Nat.le_of_ble_eq_true rfl) rfl ?_
  intro p e s m args below meth c hC
  unfold P8_spreadBest at hO
  refine r_aload_n hC 0 dX8_spreadBest_0 rfl rfl ?_
  refine r_getR hC 45 fl8_26 ob8 rfl dX8_spreadBest_1 ?_
  refine r_aload_n hC 0 dX8_spreadBest_4 rfl rfl ?_
  refine r_getR hC 1 fl8_9 ob8 rfl dX8_spreadBest_5 ?_
  refine r_callVv hC [.ref (mw_a G 1)] (T2_lieAs sh8_3 sh8_0 hO) yv2_lieAs ml8_48 sh8_3 rfl ⟨Nat.le_of_ble_eq_true rfl, Nat.le_of_ble_eq_true rfl⟩ rfl rfl (Nat.le_of_ble_eq_true rfl) dX8_spreadBest_8 (fun μ1 hO => ?_)
  refine r_iload_n hC 2 dX8_spreadBest_11 rfl rfl ?_
  refine r_istore hC [(4, .int p2), (0, .ref (mw_a G 44)), (1, .int p1), (2, .int p2), (3, .int p3)] dX8_spreadBest_12 (by decide) rfl ?_
  refine r_iconst hC 0 dX8_spreadBest_14 (by decide) ?_
  refine r_istore hC [(5, .int 0), (4, .int p2), (0, .ref (mw_a G 44)), (1, .int p1), (2, .int p2), (3, .int p3)] dX8_spreadBest_15 (by decide) rfl ?_
  refine r_iconst hC 0 dX8_spreadBest_17 (by decide) ?_
  refine r_istore hC [(6, .int 0), (5, .int 0), (4, .int p2), (0, .ref (mw_a G 44)), (1, .int p1), (2, .int p2), (3, .int p3)] dX8_spreadBest_18 (by decide) rfl ?_
  refine r_iconst hC 0 dX8_spreadBest_20 (by decide) ?_
  refine r_istore hC [(7, .int 0), (6, .int 0), (5, .int 0), (4, .int p2), (0, .ref (mw_a G 44)), (1, .int p1), (2, .int p2), (3, .int p3)] dX8_spreadBest_21 (by decide) rfl ?_
  refine r_iconst hC 0 dX8_spreadBest_23 (by decide) ?_
  refine r_istore hC [(8, .int 0), (7, .int 0), (6, .int 0), (5, .int 0), (4, .int p2), (0, .ref (mw_a G 44)), (1, .int p1), (2, .int p2), (3, .int p3)] dX8_spreadBest_24 (by decide) rfl ?_
  have hLn8 : ∀  (K1 : Int32 → Int32 → Int32 → Int32 → Int32 → mw_M → Prop) (hK1 : ∀ (v2 : Int32) (v3 : Int32) (v4 : Int32) (v5 : Int32) (v6 : Int32) (μ7 : mw_M), K1 v2 v3 v4 v5 v6 μ7 → mw_W p l e (mw_rm 3 83) s m args below meth c G kdX 10 (MQ below (va_Qi (Q) (mw_B G kdX) (mw_A G kdX)) args s 0 0 (mw_A G kdX)) 85 [(8, .int v2), (7, .int v3), (6, .int v4), (5, .int v5), (4, .int v6), (0, .ref (mw_a G 44)), (1, .int p1), (2, .int p2), (3, .int p3)] [] μ7) (n8 : Nat) (v2 : Int32) (v3 : Int32) (v4 : Int32) (v5 : Int32) (v6 : Int32) (μ7 : mw_M), L8_spreadBest_26 p1 p2 p3 Q K1 n8 v2 v3 v4 v5 v6 μ7 → mw_W p l e (mw_rm 3 83) s m args below meth c G kdX 10 (MQ below (va_Qi (Q) (mw_B G kdX) (mw_A G kdX)) args s 0 0 (mw_A G kdX)) 26 [(8, .int v2), (7, .int v3), (6, .int v4), (5, .int v5), (4, .int v6), (0, .ref (mw_a G 44)), (1, .int p1), (2, .int p2), (3, .int p3)] [] μ7 := by
    intro  K1 hK1 n8
    induction n8 with
    | zero => intro v2 v3 v4 v5 v6 μ7 hO; exact False.elim hO
    | succ n8 ihn8 =>
      intro v2 v3 v4 v5 v6 μ7 hO
      refine r_iload hC 0 dX8_spreadBest_26 rfl ?_
      refine r_iload_n hC 6 dX8_spreadBest_28 rfl rfl ?_
      refine r_icmp_ge hC 85 dX8_spreadBest_29 (by decide) (fun h9 => ?_) (fun h9 => ?_)
      · have hO := hO.1 h9
        refine r_lv hC [(8, .int v2), (7, .int v3), (6, .int v4), (5, .int v5), (4, .int v6), (0, .ref (mw_a G 44)), (1, .int p1), (2, .int p2), (3, .int p3)] [0, 1, 2, 3, 4, 5, 6, 7, 8] rfl ?_
        exact hK1 v2 v3 v4 v5 v6 μ7 hO
      · have hO := hO.2 h9
        refine r_aload_n hC 5 dX8_spreadBest_32 rfl rfl ?_
        refine r_getR hC 45 fl8_26 ob8 rfl dX8_spreadBest_33 ?_
        refine r_iload hC 4 dX8_spreadBest_36 rfl ?_
        refine r_callVi hC [.int v6] (T2_tumble sh8_3 hO) yv2_tumble ml8_72 sh8_3 rfl ⟨Nat.le_of_ble_eq_true rfl, Nat.le_of_ble_eq_true rfl⟩ rfl rfl (Nat.le_of_ble_eq_true rfl) dX8_spreadBest_38 (fun r10 μ11 hO => ?_)
        refine r_istore hC [(4, .int r10), (8, .int v2), (7, .int v3), (6, .int v4), (5, .int v5), (0, .ref (mw_a G 44)), (1, .int p1), (2, .int p2), (3, .int p3)] dX8_spreadBest_41 (by decide) rfl ?_
        refine r_aload_n hC 5 dX8_spreadBest_43 rfl rfl ?_
        refine r_getR hC 45 fl8_26 ob8 rfl dX8_spreadBest_44 ?_
        refine r_callVi hC [] (T2_lopsided sh8_3 hO) yv2_lopsided ml8_38 sh8_3 rfl ⟨Nat.le_of_ble_eq_true rfl, Nat.le_of_ble_eq_true rfl⟩ rfl rfl (Nat.le_of_ble_eq_true rfl) dX8_spreadBest_47 (fun r12 μ13 hO => ?_)
        obtain ⟨hO, hm⟩ := hO
        refine r_memEq hm ?_
        refine r_istore hC [(9, .int r12), (4, .int r10), (8, .int v2), (7, .int v3), (6, .int v4), (5, .int v5), (0, .ref (mw_a G 44)), (1, .int p1), (2, .int p2), (3, .int p3)] dX8_spreadBest_50 (by decide) rfl ?_
        refine r_iload hC 3 dX8_spreadBest_52 rfl ?_
        refine r_iload hC 0 dX8_spreadBest_54 rfl ?_
        refine r_iadd hC dX8_spreadBest_56 ?_
        refine r_nmI (fun x14 hx14 => ?_)
        have hO := hO x14 hx14
        refine r_istore hC [(7, .int x14), (9, .int r12), (4, .int r10), (8, .int v2), (6, .int v4), (5, .int v5), (0, .ref (mw_a G 44)), (1, .int p1), (2, .int p2), (3, .int p3)] dX8_spreadBest_57 (by decide) rfl ?_
        refine r_iload hC 3 dX8_spreadBest_59 rfl ?_
        refine r_if_eq hC 71 dX8_spreadBest_61 (by decide) (fun h15 => ?_) (fun h15 => ?_)
        · have hO := hO.1 h15
          refine r_iload hC 3 dX8_spreadBest_71 rfl ?_
          refine r_istore hC [(5, .int v2), (7, .int x14), (9, .int r12), (4, .int r10), (8, .int v2), (6, .int v4), (0, .ref (mw_a G 44)), (1, .int p1), (2, .int p2), (3, .int p3)] dX8_spreadBest_73 (by decide) rfl ?_
          refine r_iload hC 2 dX8_spreadBest_75 rfl ?_
          refine r_istore hC [(6, .int r12), (5, .int v2), (7, .int x14), (9, .int r12), (4, .int r10), (8, .int v2), (0, .ref (mw_a G 44)), (1, .int p1), (2, .int p2), (3, .int p3)] dX8_spreadBest_77 (by decide) rfl ?_
          obtain ⟨x16, hx16⟩ : ∃ y : Int32, y = v2 + 1 := ⟨_, rfl⟩
          have hO := hO x16 hx16
          refine r_iinc hC x16 5 [(8, .int x16), (6, .int r12), (5, .int v2), (7, .int x14), (9, .int r12), (4, .int r10), (0, .ref (mw_a G 44)), (1, .int p1), (2, .int p2), (3, .int p3)] dX8_spreadBest_79 rfl (by rw [hx16]; rfl) (by decide) rfl ?_
          refine r_goto hC 26 dX8_spreadBest_82 (by decide) ?_
          refine r_lv hC [(8, .int x16), (7, .int x14), (6, .int r12), (5, .int v2), (4, .int r10), (0, .ref (mw_a G 44)), (1, .int p1), (2, .int p2), (3, .int p3)] [0, 3, 1, 2, 5, 6, 7, 8, 9] rfl ?_
          exact ihn8 x16 x14 r12 v2 r10 μ11 hO
        · have hO := hO.2 h15
          refine r_iload hC 1 dX8_spreadBest_64 rfl ?_
          refine r_iload hC 4 dX8_spreadBest_66 rfl ?_
          refine r_icmp_ge hC 79 dX8_spreadBest_68 (by decide) (fun h17 => ?_) (fun h17 => ?_)
          · have hO := hO.1 h17
            obtain ⟨x18, hx18⟩ : ∃ y : Int32, y = v2 + 1 := ⟨_, rfl⟩
            have hO := hO x18 hx18
            refine r_iinc hC x18 3 [(8, .int x18), (7, .int x14), (9, .int r12), (4, .int r10), (6, .int v4), (5, .int v5), (0, .ref (mw_a G 44)), (1, .int p1), (2, .int p2), (3, .int p3)] dX8_spreadBest_79 rfl (by rw [hx18]; rfl) (by decide) rfl ?_
            refine r_goto hC 26 dX8_spreadBest_82 (by decide) ?_
            refine r_lv hC [(8, .int x18), (7, .int x14), (6, .int v4), (5, .int v5), (4, .int r10), (0, .ref (mw_a G 44)), (1, .int p1), (2, .int p2), (3, .int p3)] [0, 1, 4, 5, 3, 6, 7, 8, 9] rfl ?_
            exact ihn8 x18 x14 v4 v5 r10 μ11 hO
          · have hO := hO.2 h17
            refine r_iload hC 3 dX8_spreadBest_71 rfl ?_
            refine r_istore hC [(5, .int v2), (7, .int x14), (9, .int r12), (4, .int r10), (8, .int v2), (6, .int v4), (0, .ref (mw_a G 44)), (1, .int p1), (2, .int p2), (3, .int p3)] dX8_spreadBest_73 (by decide) rfl ?_
            refine r_iload hC 2 dX8_spreadBest_75 rfl ?_
            refine r_istore hC [(6, .int r12), (5, .int v2), (7, .int x14), (9, .int r12), (4, .int r10), (8, .int v2), (0, .ref (mw_a G 44)), (1, .int p1), (2, .int p2), (3, .int p3)] dX8_spreadBest_77 (by decide) rfl ?_
            obtain ⟨x19, hx19⟩ : ∃ y : Int32, y = v2 + 1 := ⟨_, rfl⟩
            have hO := hO x19 hx19
            refine r_iinc hC x19 5 [(8, .int x19), (6, .int r12), (5, .int v2), (7, .int x14), (9, .int r12), (4, .int r10), (0, .ref (mw_a G 44)), (1, .int p1), (2, .int p2), (3, .int p3)] dX8_spreadBest_79 rfl (by rw [hx19]; rfl) (by decide) rfl ?_
            refine r_goto hC 26 dX8_spreadBest_82 (by decide) ?_
            refine r_lv hC [(8, .int x19), (7, .int x14), (6, .int r12), (5, .int v2), (4, .int r10), (0, .ref (mw_a G 44)), (1, .int p1), (2, .int p2), (3, .int p3)] [0, 3, 1, 2, 5, 6, 7, 8, 9] rfl ?_
            exact ihn8 x19 x14 r12 v2 r10 μ11 hO
  obtain ⟨n8, hO⟩ := hO
  refine hLn8  _ (fun v2 v3 v4 v5 v6 μ7 hO => ?_) n8 _ _ _ _ _ _ hO
  refine r_iload_n hC 8 dX8_spreadBest_85 rfl rfl ?_
  refine r_if_ne hC 92 dX8_spreadBest_86 (by decide) (fun h20 => ?_) (fun h20 => ?_)
  · have hO := hO.2 h20
    refine r_iload_n hC 8 dX8_spreadBest_92 rfl rfl ?_
    refine r_iconst hC 1 dX8_spreadBest_93 (by decide) ?_
    refine r_icmp_ne hC 102 dX8_spreadBest_94 (by decide) (fun h21 => ?_) (fun h21 => ?_)
    · have hO := hO.2 h21
      refine r_iload hC 1 dX8_spreadBest_102 rfl ?_
      refine r_iload_n hC 6 dX8_spreadBest_104 rfl rfl ?_
      refine r_callSi hC [.int v3, .int p1] (T8_meanOf  hO) yv8_meanOf ml8_75 ⟨Nat.le_of_ble_eq_true rfl, Nat.le_of_ble_eq_true rfl⟩ rfl rfl (Nat.le_of_ble_eq_true rfl) dX8_spreadBest_105 (fun r22 μ23 hO => ?_)
      obtain ⟨hO, hm⟩ := hO
      refine r_memEq hm ?_
      exact r_iret hC rfl dX8_spreadBest_108 hO
    · have hO := hO.1 h21
      refine r_iload hC 2 dX8_spreadBest_97 rfl ?_
      refine r_goto hC 108 dX8_spreadBest_99 (by decide) ?_
      exact r_iret hC rfl dX8_spreadBest_108 hO
  · have hO := hO.1 h20
    refine r_iload hC 3 dX8_spreadBest_89 rfl ?_
    exact r_iret hC rfl dX8_spreadBest_91 hO
set_option maxHeartbeats 4000000 in
set_option maxRecDepth 100000 in
theorem T9_begin {l : Launch} {G : mw_G} {b : Nat} {d1 : Nat} {p2 : Int32} {μ : mw_M} {Q : mw_M → Prop} (hb : kdX[b]? = some (.inl (9, dsX9 b))) (hd1 : kdX[d1]? = some (.inl (2, dsX2 d1))) (hO : P9_begin b d1 p2 μ Q) : mw_Mv l G kdX yX9_begin cX9_begin 3 none 3 83 [.ref (mw_a G b), .ref (mw_a G d1), .int p2] μ (Q) := by
  refine mw_enter [(0, .ref (mw_a G b)), (1, .ref (mw_a G d1)), (2, .int p2)] RX9 (by decide) rfl (Nat.le_of_ble_eq_true rfl) rfl ?_
  intro p e s m args below meth c hC
  unfold P9_begin at hO
  refine r_aload_n hC 0 dX9_begin_0 rfl rfl ?_
  refine r_getR hC (b + 1) fl9_22 hb rfl dX9_begin_1 ?_
  refine r_aload_n hC 1 dX9_begin_4 rfl rfl ?_
  refine r_callVv hC [.ref (mw_a G d1)] (T2_lieAs (sh9_2 hb) hd1 hO) yv2_lieAs ml9_94 (sh9_2 hb) rfl ⟨Nat.le_of_ble_eq_true rfl, Nat.le_of_ble_eq_true rfl⟩ rfl rfl (Nat.le_of_ble_eq_true rfl) dX9_begin_5 (fun μ1 hO => ?_)
  refine r_aload_n hC 0 dX9_begin_8 rfl rfl ?_
  refine r_aload_n hC 0 dX9_begin_9 rfl rfl ?_
  refine r_getR hC (b + 1) fl9_22 hb rfl dX9_begin_10 ?_
  refine r_callVi hC [] (T2_lopsided (sh9_2 hb) hO) yv2_lopsided ml9_73 (sh9_2 hb) rfl ⟨Nat.le_of_ble_eq_true rfl, Nat.le_of_ble_eq_true rfl⟩ rfl rfl (Nat.le_of_ble_eq_true rfl) dX9_begin_13 (fun r2 μ3 hO => ?_)
  obtain ⟨hO, hm⟩ := hO
  refine r_memEq hm ?_
  refine r_putI hC fl9_35 hb rfl rfl rfl dX9_begin_16 ?_
  refine r_nmM (fun μ4 hμ4 => ?_)
  have hO := hO μ4 hμ4
  refine r_aload_n hC 0 dX9_begin_19 rfl rfl ?_
  refine r_iload_n hC 2 dX9_begin_20 rfl rfl ?_
  refine r_putI hC fl9_39 hb rfl rfl rfl dX9_begin_21 ?_
  refine r_nmM (fun μ5 hμ5 => ?_)
  have hO := hO μ5 hμ5
  refine r_aload_n hC 0 dX9_begin_24 rfl rfl ?_
  refine r_iconst hC 0 dX9_begin_25 (by decide) ?_
  refine r_putI hC fl9_98 hb rfl rfl rfl dX9_begin_26 ?_
  refine r_nmM (fun μ6 hμ6 => ?_)
  have hO := hO μ6 hμ6
  refine r_aload_n hC 0 dX9_begin_29 rfl rfl ?_
  refine r_iconst hC 0 dX9_begin_30 (by decide) ?_
  refine r_putI hC fl9_101 hb rfl rfl rfl dX9_begin_31 ?_
  refine r_nmM (fun μ7 hμ7 => ?_)
  have hO := hO μ7 hμ7
  refine r_aload_n hC 0 dX9_begin_34 rfl rfl ?_
  refine r_iconst hC 0 dX9_begin_35 (by decide) ?_
  refine r_putI hC fl9_46 hb rfl rfl rfl dX9_begin_36 ?_
  refine r_nmM (fun μ8 hμ8 => ?_)
  have hO := hO μ8 hμ8
  refine r_aload_n hC 0 dX9_begin_39 rfl rfl ?_
  refine r_iconst hC 0 dX9_begin_40 (by decide) ?_
  refine r_putI hC fl9_52 hb rfl rfl rfl dX9_begin_41 ?_
  refine r_nmM (fun μ9 hμ9 => ?_)
  have hO := hO μ9 hμ9
  refine r_aload_n hC 0 dX9_begin_44 rfl rfl ?_
  refine r_iconst hC 0 dX9_begin_45 (by decide) ?_
  refine r_putI hC fl9_55 hb rfl rfl rfl dX9_begin_46 ?_
  refine r_nmM (fun μ10 hμ10 => ?_)
  have hO := hO μ10 hμ10
  refine r_aload_n hC 0 dX9_begin_49 rfl rfl ?_
  refine r_iconst hC 0 dX9_begin_50 (by decide) ?_
  refine r_putI hC fl9_104 hb rfl rfl rfl dX9_begin_51 ?_
  refine r_nmM (fun μ11 hμ11 => ?_)
  have hO := hO μ11 hμ11
  refine r_aload_n hC 0 dX9_begin_54 rfl rfl ?_
  refine r_iconst hC 0 dX9_begin_55 (by decide) ?_
  refine r_putI hC fl9_107 hb rfl rfl rfl dX9_begin_56 ?_
  refine r_nmM (fun μ12 hμ12 => ?_)
  have hO := hO μ12 hμ12
  refine r_aload_n hC 0 dX9_begin_59 rfl rfl ?_
  refine r_iconst hC 0 dX9_begin_60 (by decide) ?_
  refine r_putI hC fl9_110 hb rfl rfl rfl dX9_begin_61 ?_
  refine r_nmM (fun μ13 hμ13 => ?_)
  have hO := hO μ13 hμ13
  refine r_aload_n hC 0 dX9_begin_64 rfl rfl ?_
  refine r_iconst hC 0 dX9_begin_65 (by decide) ?_
  refine r_putI hC fl9_84 hb rfl rfl rfl dX9_begin_66 ?_
  refine r_nmM (fun μ14 hμ14 => ?_)
  have hO := hO μ14 hμ14
  refine r_aload_n hC 0 dX9_begin_69 rfl rfl ?_
  refine r_bipush hC (-2) dX9_begin_70 (by decide) ?_
  refine r_putI hC fl9_81 hb rfl rfl rfl dX9_begin_72 ?_
  refine r_nmM (fun μ15 hμ15 => ?_)
  have hO := hO μ15 hμ15
  exact r_vret hC rfl dX9_begin_75 hO
set_option maxHeartbeats 4000000 in
set_option maxRecDepth 100000 in
theorem T9_seenAt {l : Launch} {G : mw_G} {b : Nat} {p1 : Int32} {μ : mw_M} {Q : Int32 → Prop} (hb : kdX[b]? = some (.inl (9, dsX9 b))) (hO : P9_seenAt b p1 μ Q) : mw_Mi l G kdX yX9_seenAt cX9_seenAt 5 (some .int) 0 0 [.ref (mw_a G b), .int p1] μ (mw_pq μ Q) := by
  refine mw_enter [(0, .ref (mw_a G b)), (1, .int p1)] RX9 (by decide) rfl (Nat.le_of_ble_eq_true rfl) rfl ?_
  intro p e s m args below meth c hC
  unfold P9_seenAt at hO
  refine r_iload_n hC 1 dX9_seenAt_0 rfl rfl ?_
  refine r_iconst hC 1 dX9_seenAt_1 (by decide) ?_
  refine r_isub hC dX9_seenAt_2 ?_
  refine r_aload_n hC 0 dX9_seenAt_3 rfl rfl ?_
  refine r_getR hC 11 fl9_9 hb rfl dX9_seenAt_4 ?_
  refine r_getN (j := 2) (C := RX5) (T := TX5) (N := 9) (host := "MachineWalks") hC hC.2.1.2.2.2.1 rfl inX5 (by decide) rfl (sh9_0 hb) rfl dX9_seenAt_7 ?_
  refine r_isub hC dX9_seenAt_10 ?_
  refine r_nmI (fun x1 hx1 => ?_)
  have hO := hO x1 hx1
  refine r_istore_n hC [(2, .int x1), (0, .ref (mw_a G b)), (1, .int p1)] dX9_seenAt_11 rfl (by decide) rfl ?_
  refine r_iload_n hC 0 dX9_seenAt_12 rfl rfl ?_
  refine r_if_lt hC 34 dX9_seenAt_13 (by decide) (fun h2 => ?_) (fun h2 => ?_)
  · have hO := hO.1 h2
    refine r_aload_n hC 1 dX9_seenAt_34 rfl rfl ?_
    refine r_getI hC fl9_35 hb rfl dX9_seenAt_35 ?_
    refine r_nmI (fun x3 hx3 => ?_)
    have hO := hO x3 hx3
    refine r_istore_n hC [(3, .int x3), (2, .int x1), (0, .ref (mw_a G b)), (1, .int p1)] dX9_seenAt_38 rfl (by decide) rfl ?_
    refine r_aload_n hC 2 dX9_seenAt_39 rfl rfl ?_
    refine r_getR hC 11 fl9_9 hb rfl dX9_seenAt_40 ?_
    refine r_getN (j := 3) (C := RX5) (T := TX5) (N := 9) (host := "MachineWalks") hC hC.2.1.2.2.2.2.1 rfl inX5 (by decide) rfl (sh9_0 hb) rfl dX9_seenAt_43 ?_
    refine r_nmI (fun x4 hx4 => ?_)
    have hO := hO x4 hx4
    refine r_istore hC [(4, .int x4), (3, .int x3), (2, .int x1), (0, .ref (mw_a G b)), (1, .int p1)] dX9_seenAt_46 (by decide) rfl ?_
    refine r_iload_n hC 1 dX9_seenAt_48 rfl rfl ?_
    refine r_aload_n hC 3 dX9_seenAt_49 rfl rfl ?_
    refine r_getI hC fl9_39 hb rfl dX9_seenAt_50 ?_
    refine r_bipush hC 8 dX9_seenAt_53 (by decide) ?_
    refine r_iushr hC dX9_seenAt_55 ?_
    refine r_iconst hC 2 dX9_seenAt_56 (by decide) ?_
    refine r_iload hC 0 dX9_seenAt_57 rfl ?_
    refine r_imul hC dX9_seenAt_59 ?_
    refine r_iconst hC 1 dX9_seenAt_60 (by decide) ?_
    refine r_iadd hC dX9_seenAt_61 ?_
    obtain ⟨g5, hO⟩ := hO
    refine r_irem hC dX9_seenAt_62 g5 ?_
    refine r_iadd hC dX9_seenAt_63 ?_
    refine r_iload hC 0 dX9_seenAt_64 rfl ?_
    refine r_isub hC dX9_seenAt_66 ?_
    exact r_iret hC rfl dX9_seenAt_67 ⟨hO, rfl⟩
  · have hO := hO.2 h2
    refine r_iload_n hC 0 dX9_seenAt_16 rfl rfl ?_
    refine r_sipush hC 200 dX9_seenAt_17 (by decide) ?_
    refine r_icmp_ge hC 34 dX9_seenAt_20 (by decide) (fun h6 => ?_) (fun h6 => ?_)
    · have hO := hO.1 h6
      refine r_aload_n hC 1 dX9_seenAt_34 rfl rfl ?_
      refine r_getI hC fl9_35 hb rfl dX9_seenAt_35 ?_
      refine r_nmI (fun x7 hx7 => ?_)
      have hO := hO x7 hx7
      refine r_istore_n hC [(3, .int x7), (2, .int x1), (0, .ref (mw_a G b)), (1, .int p1)] dX9_seenAt_38 rfl (by decide) rfl ?_
      refine r_aload_n hC 2 dX9_seenAt_39 rfl rfl ?_
      refine r_getR hC 11 fl9_9 hb rfl dX9_seenAt_40 ?_
      refine r_getN (j := 3) (C := RX5) (T := TX5) (N := 9) (host := "MachineWalks") hC hC.2.1.2.2.2.2.1 rfl inX5 (by decide) rfl (sh9_0 hb) rfl dX9_seenAt_43 ?_
      refine r_nmI (fun x8 hx8 => ?_)
      have hO := hO x8 hx8
      refine r_istore hC [(4, .int x8), (3, .int x7), (2, .int x1), (0, .ref (mw_a G b)), (1, .int p1)] dX9_seenAt_46 (by decide) rfl ?_
      refine r_iload_n hC 1 dX9_seenAt_48 rfl rfl ?_
      refine r_aload_n hC 3 dX9_seenAt_49 rfl rfl ?_
      refine r_getI hC fl9_39 hb rfl dX9_seenAt_50 ?_
      refine r_bipush hC 8 dX9_seenAt_53 (by decide) ?_
      refine r_iushr hC dX9_seenAt_55 ?_
      refine r_iconst hC 2 dX9_seenAt_56 (by decide) ?_
      refine r_iload hC 0 dX9_seenAt_57 rfl ?_
      refine r_imul hC dX9_seenAt_59 ?_
      refine r_iconst hC 1 dX9_seenAt_60 (by decide) ?_
      refine r_iadd hC dX9_seenAt_61 ?_
      obtain ⟨g9, hO⟩ := hO
      refine r_irem hC dX9_seenAt_62 g9 ?_
      refine r_iadd hC dX9_seenAt_63 ?_
      refine r_iload hC 0 dX9_seenAt_64 rfl ?_
      refine r_isub hC dX9_seenAt_66 ?_
      exact r_iret hC rfl dX9_seenAt_67 ⟨hO, rfl⟩
    · have hO := hO.2 h6
      refine r_aload_n hC 1 dX9_seenAt_23 rfl rfl ?_
      refine r_getR hC (b + 6) fl9_28 hb rfl dX9_seenAt_24 ?_
      refine r_iconst hC 1 dX9_seenAt_27 (by decide) ?_
      refine r_aald hC (sh9_3 hb) (by decide) (vpc (by decide) : vp_in 1 5) 1 (by decide) ((b + 7) + 1) rfl dX9_seenAt_28 ?_
      refine r_iload_n hC 0 dX9_seenAt_29 rfl rfl ?_
      obtain ⟨g10, hO⟩ := hO
      refine r_iald hC (el9_3 hb (j := 1) (by decide)) g10 x1.toNatClampNeg rfl dX9_seenAt_30 ?_
      refine r_goto hC 38 dX9_seenAt_31 (by decide) ?_
      refine r_nmI (fun x11 hx11 => ?_)
      have hO := hO x11 hx11
      refine r_istore_n hC [(3, .int x11), (2, .int x1), (0, .ref (mw_a G b)), (1, .int p1)] dX9_seenAt_38 rfl (by decide) rfl ?_
      refine r_aload_n hC 2 dX9_seenAt_39 rfl rfl ?_
      refine r_getR hC 11 fl9_9 hb rfl dX9_seenAt_40 ?_
      refine r_getN (j := 3) (C := RX5) (T := TX5) (N := 9) (host := "MachineWalks") hC hC.2.1.2.2.2.2.1 rfl inX5 (by decide) rfl (sh9_0 hb) rfl dX9_seenAt_43 ?_
      refine r_nmI (fun x12 hx12 => ?_)
      have hO := hO x12 hx12
      refine r_istore hC [(4, .int x12), (3, .int x11), (2, .int x1), (0, .ref (mw_a G b)), (1, .int p1)] dX9_seenAt_46 (by decide) rfl ?_
      refine r_iload_n hC 1 dX9_seenAt_48 rfl rfl ?_
      refine r_aload_n hC 3 dX9_seenAt_49 rfl rfl ?_
      refine r_getI hC fl9_39 hb rfl dX9_seenAt_50 ?_
      refine r_bipush hC 8 dX9_seenAt_53 (by decide) ?_
      refine r_iushr hC dX9_seenAt_55 ?_
      refine r_iconst hC 2 dX9_seenAt_56 (by decide) ?_
      refine r_iload hC 0 dX9_seenAt_57 rfl ?_
      refine r_imul hC dX9_seenAt_59 ?_
      refine r_iconst hC 1 dX9_seenAt_60 (by decide) ?_
      refine r_iadd hC dX9_seenAt_61 ?_
      obtain ⟨g13, hO⟩ := hO
      refine r_irem hC dX9_seenAt_62 g13 ?_
      refine r_iadd hC dX9_seenAt_63 ?_
      refine r_iload hC 0 dX9_seenAt_64 rfl ?_
      refine r_isub hC dX9_seenAt_66 ?_
      exact r_iret hC rfl dX9_seenAt_67 ⟨hO, rfl⟩
set_option maxHeartbeats 4000000 in
set_option maxRecDepth 100000 in
theorem T9_within {l : Launch} {G : mw_G} {p1 : Int32} {μ : mw_M} {Q : Int32 → Prop}  (hO : P9_within p1 Q) : mw_Mi l G kdX yX9_within cX9_within 1 (some .int) 1 40 [.int p1] μ (mw_pq μ Q) := by
  refine mw_enter [(0, .int p1)] RX9 (by decide) rfl (Nat.le_of_ble_eq_true rfl) rfl ?_
  intro p e s m args below meth c hC
  unfold P9_within at hO
  refine r_sipush hC (-9999) dX9_within_0 (by decide) ?_
  refine r_sipush hC 9999 dX9_within_3 (by decide) ?_
  refine r_iload_n hC 0 dX9_within_6 rfl rfl ?_
  refine r_min hC mm9_152 (Nat.le_of_ble_eq_true rfl) (Nat.le_of_ble_eq_true rfl) dX9_within_7 ?_
  refine r_max hC mm9_147 (Nat.le_of_ble_eq_true rfl) (Nat.le_of_ble_eq_true rfl) dX9_within_10 ?_
  exact r_iret hC rfl dX9_within_13 ⟨hO, rfl⟩
set_option maxHeartbeats 4000000 in
set_option maxRecDepth 100000 in
theorem T9_walked {l : Launch} {G : mw_G} {b : Nat} {μ : mw_M} {Q : Int32 → Prop} (hb : kdX[b]? = some (.inl (9, dsX9 b))) (hO : P9_walked b μ Q) : mw_Mi l G kdX yX9_walked cX9_walked 1 (some .int) 1 40 [.ref (mw_a G b)] μ (mw_pq μ Q) := by
  refine mw_enter [(0, .ref (mw_a G b))] RX9 (by decide) rfl (Nat.le_of_ble_eq_true rfl) rfl ?_
  intro p e s m args below meth c hC
  unfold P9_walked at hO
  refine r_aload_n hC 0 dX9_walked_0 rfl rfl ?_
  refine r_getI hC fl9_98 hb rfl dX9_walked_1 ?_
  refine r_abs hC mm9_159 (Nat.le_of_ble_eq_true rfl) (Nat.le_of_ble_eq_true rfl) dX9_walked_4 ?_
  refine r_aload_n hC 0 dX9_walked_7 rfl rfl ?_
  refine r_getI hC fl9_101 hb rfl dX9_walked_8 ?_
  refine r_abs hC mm9_159 (Nat.le_of_ble_eq_true rfl) (Nat.le_of_ble_eq_true rfl) dX9_walked_11 ?_
  refine r_iadd hC dX9_walked_14 ?_
  exact r_iret hC rfl dX9_walked_15 ⟨hO, rfl⟩
