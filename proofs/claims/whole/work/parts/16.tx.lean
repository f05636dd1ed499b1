set_option maxHeartbeats 4000000 in
set_option maxRecDepth 100000 in
theorem T8_ticksTillDry {l : Launch} {G : mw_G} {p1 : Int32} {p2 : Int32} {μ : mw_M} {Q : Int32 → mw_M → Prop}  (hO : P8_ticksTillDry p1 p2 μ Q) : mw_Mi l G kdX yX8_ticksTillDry cX8_ticksTillDry 4 (some .int) 4 97 [.ref (mw_a G 44), .int p1, .int p2] μ (Q) := by
  refine mw_enter [(0, .ref (mw_a G 44)), (1, .int p1), (2, .int p2)] RX8 (by decide) rfl (Nat.le_of_ble_eq_true rfl) rfl ?_
  intro p e s m args below meth c hC
  unfold P8_ticksTillDry at hO
  refine r_aload_n hC 0 dX8_ticksTillDry_0 rfl rfl ?_
  refine r_getR hC 45 fl8_26 ob8 rfl dX8_ticksTillDry_1 ?_
  refine r_aload_n hC 0 dX8_ticksTillDry_4 rfl rfl ?_
  refine r_getR hC 1 fl8_9 ob8 rfl dX8_ticksTillDry_5 ?_
  refine r_callVv hC [.ref (mw_a G 1)] (T2_lieAs sh8_3 sh8_0 hO) yv2_lieAs ml8_48 sh8_3 rfl ⟨Nat.le_of_ble_eq_true rfl, Nat.le_of_ble_eq_true rfl⟩ rfl rfl (Nat.le_of_ble_eq_true rfl) dX8_ticksTillDry_8 (fun μ1 hO => ?_)
  refine r_iconst hC 0 dX8_ticksTillDry_11 (by decide) ?_
  refine r_istore_n hC [(3, .int 0), (0, .ref (mw_a G 44)), (1, .int p1), (2, .int p2)] dX8_ticksTillDry_12 rfl (by decide) rfl ?_
  have hLn4 : ∀   (n4 : Nat) (v2 : Int32) (μ3 : mw_M), L8_ticksTillDry_13 p1 p2 Q n4 v2 μ3 → mw_W p l e (mw_rm 4 97) s m args below meth c G kdX 4 (MQ below (va_Qi (Q) (mw_B G kdX) (mw_A G kdX)) args s 0 0 (mw_A G kdX)) 13 [(3, .int v2), (0, .ref (mw_a G 44)), (1, .int p1), (2, .int p2)] [] μ3 := by
    intro   n4
    induction n4 with
    | zero => intro v2 μ3 hO; exact False.elim hO
    | succ n4 ihn4 =>
      intro v2 μ3 hO
      refine r_iload_n hC 0 dX8_ticksTillDry_13 rfl rfl ?_
      refine r_sipush hC 200 dX8_ticksTillDry_14 (by decide) ?_
      refine r_icmp_gt hC 61 dX8_ticksTillDry_17 (by decide) (fun h5 => ?_) (fun h5 => ?_)
      · have hO := hO.1 h5
        refine r_bipush hC (-2) dX8_ticksTillDry_61 (by decide) ?_
        exact r_iret hC rfl dX8_ticksTillDry_63 hO
      · have hO := hO.2 h5
        refine r_aload_n hC 1 dX8_ticksTillDry_20 rfl rfl ?_
        refine r_getR hC 45 fl8_26 ob8 rfl dX8_ticksTillDry_21 ?_
        refine r_callVi hC [] (T2_wetOfAll sh8_3 hO) yv2_wetOfAll ml8_126 sh8_3 rfl ⟨Nat.le_of_ble_eq_true rfl, Nat.le_of_ble_eq_true rfl⟩ rfl rfl (Nat.le_of_ble_eq_true rfl) dX8_ticksTillDry_24 (fun r6 μ7 hO => ?_)
        obtain ⟨hO, hm⟩ := hO
        refine r_memEq hm ?_
        refine r_iload_n hC 3 dX8_ticksTillDry_27 rfl rfl ?_
        refine r_icmp_gt hC 33 dX8_ticksTillDry_28 (by decide) (fun h8 => ?_) (fun h8 => ?_)
        · have hO := hO.1 h8
          refine r_aload_n hC 1 dX8_ticksTillDry_33 rfl rfl ?_
          refine r_getR hC 15 fl8_19 ob8 rfl dX8_ticksTillDry_34 ?_
          refine r_aload_n hC 1 dX8_ticksTillDry_37 rfl rfl ?_
          refine r_getR hC 45 fl8_26 ob8 rfl dX8_ticksTillDry_38 ?_
          refine r_aload_n hC 1 dX8_ticksTillDry_41 rfl rfl ?_
          refine r_getR hC 45 fl8_26 ob8 rfl dX8_ticksTillDry_42 ?_
          refine r_callVi hC [] (T2_lopsided sh8_3 hO) yv2_lopsided ml8_38 sh8_3 rfl ⟨Nat.le_of_ble_eq_true rfl, Nat.le_of_ble_eq_true rfl⟩ rfl rfl (Nat.le_of_ble_eq_true rfl) dX8_ticksTillDry_45 (fun r9 μ10 hO => ?_)
          obtain ⟨hO, hm⟩ := hO
          refine r_memEq hm ?_
          refine r_iload_n hC 2 dX8_ticksTillDry_48 rfl rfl ?_
          refine r_iload_n hC 0 dX8_ticksTillDry_49 rfl rfl ?_
          refine r_iload_n hC 0 dX8_ticksTillDry_50 rfl rfl ?_
          refine r_iconst hC 0 dX8_ticksTillDry_51 (by decide) ?_
          refine r_callVv hC [.ref (mw_a G 45), .int r9, .int p1, .int v2, .int v2, .int 0] (T4_drain sh8_3 hO) yv4_drain ml8_129 sh8_2 rfl ⟨Nat.le_of_ble_eq_true rfl, Nat.le_of_ble_eq_true rfl⟩ rfl rfl (Nat.le_of_ble_eq_true rfl) dX8_ticksTillDry_52 (fun μ11 hO => ?_)
          obtain ⟨x12, hx12⟩ : ∃ y : Int32, y = v2 + 1 := ⟨_, rfl⟩
          have hO := hO x12 hx12
          refine r_iinc hC x12 0 [(3, .int x12), (0, .ref (mw_a G 44)), (1, .int p1), (2, .int p2)] dX8_ticksTillDry_55 rfl (by rw [hx12]; rfl) (by decide) rfl ?_
          refine r_goto hC 13 dX8_ticksTillDry_58 (by decide) ?_
          refine r_lv hC [(3, .int x12), (0, .ref (mw_a G 44)), (1, .int p1), (2, .int p2)] [0, 1, 2, 3] rfl ?_
          exact ihn4 x12 μ11 hO
        · have hO := hO.2 h8
          refine r_iload_n hC 0 dX8_ticksTillDry_31 rfl rfl ?_
          exact r_iret hC rfl dX8_ticksTillDry_32 hO
  obtain ⟨n4, hO⟩ := hO
  refine hLn4   n4 _ _ hO
set_option maxHeartbeats 4000000 in
set_option maxRecDepth 100000 in
theorem T9_keptOf {l : Launch} {G : mw_G} {b : Nat} {p1 : Int32} {p2 : Int32} {μ : mw_M} {Q : Int32 → Prop} (hb : kdX[b]? = some (.inl (9, dsX9 b))) (hO : P9_keptOf b p1 p2 μ Q) : mw_Mi l G kdX yX9_keptOf cX9_keptOf 3 (some .int) 0 0 [.ref (mw_a G b), .int p1, .int p2] μ (mw_pq μ Q) := by
  refine mw_enter [(0, .ref (mw_a G b)), (1, .int p1), (2, .int p2)] RX9 (by decide) rfl (Nat.le_of_ble_eq_true rfl) rfl ?_
  intro p e s m args below meth c hC
  unfold P9_keptOf at hO
  refine r_iload_n hC 1 dX9_keptOf_0 rfl rfl ?_
  refine r_if_lt hC 32 dX9_keptOf_1 (by decide) (fun h1 => ?_) (fun h1 => ?_)
  · have hO := hO.1 h1
    refine r_ldc hC kc9_155 dX9_keptOf_32 ?_
    exact r_iret hC rfl dX9_keptOf_34 ⟨hO, rfl⟩
  · have hO := hO.2 h1
    refine r_iload_n hC 1 dX9_keptOf_4 rfl rfl ?_
    refine r_aload_n hC 0 dX9_keptOf_5 rfl rfl ?_
    refine r_getI hC fl9_110 hb rfl dX9_keptOf_6 ?_
    refine r_icmp_ge hC 32 dX9_keptOf_9 (by decide) (fun h2 => ?_) (fun h2 => ?_)
    · have hO := hO.1 h2
      refine r_ldc hC kc9_155 dX9_keptOf_32 ?_
      exact r_iret hC rfl dX9_keptOf_34 ⟨hO, rfl⟩
    · have hO := hO.2 h2
      refine r_iload_n hC 2 dX9_keptOf_12 rfl rfl ?_
      refine r_if_lt hC 32 dX9_keptOf_13 (by decide) (fun h3 => ?_) (fun h3 => ?_)
      · have hO := hO.1 h3
        refine r_ldc hC kc9_155 dX9_keptOf_32 ?_
        exact r_iret hC rfl dX9_keptOf_34 ⟨hO, rfl⟩
      · have hO := hO.2 h3
        refine r_iload_n hC 2 dX9_keptOf_16 rfl rfl ?_
        refine r_iconst hC 5 dX9_keptOf_17 (by decide) ?_
        refine r_icmp_ge hC 32 dX9_keptOf_18 (by decide) (fun h4 => ?_) (fun h4 => ?_)
        · have hO := hO.1 h4
          refine r_ldc hC kc9_155 dX9_keptOf_32 ?_
          exact r_iret hC rfl dX9_keptOf_34 ⟨hO, rfl⟩
        · have hO := hO.2 h4
          refine r_aload_n hC 0 dX9_keptOf_21 rfl rfl ?_
          refine r_getR hC (b + 6) fl9_28 hb rfl dX9_keptOf_22 ?_
          refine r_iload_n hC 2 dX9_keptOf_25 rfl rfl ?_
          obtain ⟨g5, hO⟩ := hO
          refine r_aald hC (sh9_3 hb) (by decide) g5 p2.toNatClampNeg rfl ((b + 7) + p2.toNatClampNeg) (by simp only [Nat.one_mul]) dX9_keptOf_26 ?_
          refine r_iload_n hC 1 dX9_keptOf_27 rfl rfl ?_
          obtain ⟨g6, hO⟩ := hO
          refine r_iald hC (el9_3 hb (vp_lt g5)) g6 p1.toNatClampNeg rfl dX9_keptOf_28 ?_
          refine r_goto hC 34 dX9_keptOf_29 (by decide) ?_
          exact r_iret hC rfl dX9_keptOf_34 ⟨hO, rfl⟩
set_option maxHeartbeats 4000000 in
set_option maxRecDepth 100000 in
theorem T9_counted {l : Launch} {G : mw_G} {b : Nat} {p1 : Int32} {μ : mw_M} {Q : Int32 → Prop} (hb : kdX[b]? = some (.inl (9, dsX9 b))) (hO : P9_counted b p1 μ Q) : mw_Mi l G kdX yX9_counted cX9_counted 2 (some .int) 0 0 [.ref (mw_a G b), .int p1] μ (mw_pq μ Q) := by
  refine mw_enter [(0, .ref (mw_a G b)), (1, .int p1)] RX9 (by decide) rfl (Nat.le_of_ble_eq_true rfl) rfl ?_
  intro p e s m args below meth c hC
  unfold P9_counted at hO
  refine r_iload_n hC 1 dX9_counted_0 rfl rfl ?_
  by_cases h1 : p1 = 0
  · have hO := hO.1 h1
    refine r_tin hC 32 dX9_counted_1 (by rw [h1]; decide) (by rw [h1]; decide) (by rw [h1] <;> rfl) (by decide) ?_
    refine r_aload_n hC 0 dX9_counted_32 rfl rfl ?_
    refine r_getI hC fl9_110 hb rfl dX9_counted_33 ?_
    exact r_iret hC rfl dX9_counted_36 ⟨hO, rfl⟩
  by_cases h2 : p1 = 1
  · have hO := hO.2.1 h2
    refine r_tin hC 37 dX9_counted_1 (by rw [h2]; decide) (by rw [h2]; decide) (by rw [h2] <;> rfl) (by decide) ?_
    refine r_aload_n hC 0 dX9_counted_37 rfl rfl ?_
    refine r_getI hC fl9_104 hb rfl dX9_counted_38 ?_
    exact r_iret hC rfl dX9_counted_41 ⟨hO, rfl⟩
  by_cases h3 : p1 = 2
  · have hO := hO.2.2.1 h3
    refine r_tin hC 42 dX9_counted_1 (by rw [h3]; decide) (by rw [h3]; decide) (by rw [h3] <;> rfl) (by decide) ?_
    refine r_aload_n hC 0 dX9_counted_42 rfl rfl ?_
    refine r_getI hC fl9_107 hb rfl dX9_counted_43 ?_
    exact r_iret hC rfl dX9_counted_46 ⟨hO, rfl⟩
  by_cases h4 : p1 = 3
  · have hO := hO.2.2.2.1 h4
    refine r_tin hC 47 dX9_counted_1 (by rw [h4]; decide) (by rw [h4]; decide) (by rw [h4] <;> rfl) (by decide) ?_
    refine r_aload_n hC 0 dX9_counted_47 rfl rfl ?_
    refine r_getI hC fl9_55 hb rfl dX9_counted_48 ?_
    exact r_iret hC rfl dX9_counted_51 ⟨hO, rfl⟩
  have hO := hO.2.2.2.2 h1 h2 h3 h4
  refine r_tdef hC 52 dX9_counted_1 (by decide) rfl (fun k hk => match k, hk with | 0, _ => Or.inr (mw_ne h1 rfl) | 1, _ => Or.inr (mw_ne h2 rfl) | 2, _ => Or.inr (mw_ne h3 rfl) | 3, _ => Or.inr (mw_ne h4 rfl) | k + 4, h => absurd h (by show ¬ k + 4 < 4; omega)) ?_
  refine r_ldc hC kc9_155 dX9_counted_52 ?_
  exact r_iret hC rfl dX9_counted_54 ⟨hO, rfl⟩
set_option maxHeartbeats 4000000 in
set_option maxRecDepth 100000 in
theorem T10_lump {l : Launch} {G : mw_G} {p1 : Int32} {p2 : Int32} {μ : mw_M} {Q : Int32 → mw_M → Prop}  (hO : P10_lump p1 p2 μ Q) : mw_Mi l G kdX yX10_lump cX10_lump 3 (some .int) 2 44 [.ref (mw_a G 0), .int p1, .int p2] μ (Q) := by
  refine mw_enter [(0, .ref (mw_a G 0)), (1, .int p1), (2, .int p2)] RX10 (by decide) rfl (Nat.le_of_ble_eq_true rfl) rfl ?_
  intro p e s m args below meth c hC
  unfold P10_lump at hO
  refine r_iload_n hC 1 dX10_lump_0 rfl rfl ?_
  refine r_if_lt hC 30 dX10_lump_1 (by decide) (fun h1 => ?_) (fun h1 => ?_)
  · have hO := hO.1 h1
    refine r_iconst hC (-1) dX10_lump_30 (by decide) ?_
    exact r_iret hC rfl dX10_lump_31 hO
  · have hO := hO.2 h1
    refine r_iload_n hC 2 dX10_lump_4 rfl rfl ?_
    refine r_if_lt hC 30 dX10_lump_5 (by decide) (fun h2 => ?_) (fun h2 => ?_)
    · have hO := hO.1 h2
      refine r_iconst hC (-1) dX10_lump_30 (by decide) ?_
      exact r_iret hC rfl dX10_lump_31 hO
    · have hO := hO.2 h2
      refine r_iload_n hC 1 dX10_lump_8 rfl rfl ?_
      refine r_bipush hC 100 dX10_lump_9 (by decide) ?_
      refine r_idiv hC dX10_lump_11 (by decide) ?_
      refine r_iload_n hC 1 dX10_lump_12 rfl rfl ?_
      refine r_bipush hC 100 dX10_lump_13 (by decide) ?_
      refine r_irem hC dX10_lump_15 (by decide) ?_
      refine r_iload_n hC 2 dX10_lump_16 rfl rfl ?_
      refine r_bipush hC 10 dX10_lump_17 (by decide) ?_
      refine r_idiv hC dX10_lump_19 (by decide) ?_
      refine r_iload_n hC 2 dX10_lump_20 rfl rfl ?_
      refine r_bipush hC 10 dX10_lump_21 (by decide) ?_
      refine r_irem hC dX10_lump_23 (by decide) ?_
      refine r_callSi hC [.int (p1 / 100), .int (mw_rem p1 100), .int (p2 / 10), .int (mw_rem p2 10)] (T2_isLump  hO) yv2_isLump ml10_71 ⟨Nat.le_of_ble_eq_true rfl, Nat.le_of_ble_eq_true rfl⟩ rfl rfl (Nat.le_of_ble_eq_true rfl) dX10_lump_24 (fun r3 μ4 hO => ?_)
      rcases hO with ⟨hr, hO⟩ | ⟨hr, hO⟩
      · refine r_topEq hr ?_
        obtain ⟨hO, hm⟩ := hO
        refine r_memEq hm ?_
        refine r_if_ne hC 32 dX10_lump_27 (by decide) (fun _ => ?_) (fun h => absurd h (by decide))
        refine r_aload_n hC 0 dX10_lump_32 rfl rfl ?_
        refine r_getR hC 1 fl10_10 ob10 rfl dX10_lump_33 ?_
        refine r_callVi hC [] (T2_isFull sh10_0 hO) yv2_isFull ml10_75 sh10_0 rfl ⟨Nat.le_of_ble_eq_true rfl, Nat.le_of_ble_eq_true rfl⟩ rfl rfl (Nat.le_of_ble_eq_true rfl) dX10_lump_36 (fun r5 μ6 hO => ?_)
        rcases hO with ⟨hr, hO⟩ | ⟨hr, hO⟩
        · refine r_topEq hr ?_
          obtain ⟨hO, hm⟩ := hO
          refine r_memEq hm ?_
          refine r_if_eq hC 45 dX10_lump_39 (by decide) (fun h => absurd h (by decide)) (fun _ => ?_)
          refine r_bipush hC (-3) dX10_lump_42 (by decide) ?_
          exact r_iret hC rfl dX10_lump_44 hO
        · refine r_topEq hr ?_
          obtain ⟨hO, hm⟩ := hO
          refine r_memEq hm ?_
          refine r_if_eq hC 45 dX10_lump_39 (by decide) (fun _ => ?_) (fun h => absurd (by decide) h)
          refine r_aload_n hC 0 dX10_lump_45 rfl rfl ?_
          refine r_getR hC 1 fl10_10 ob10 rfl dX10_lump_46 ?_
          refine r_iload_n hC 1 dX10_lump_49 rfl rfl ?_
          refine r_bipush hC 100 dX10_lump_50 (by decide) ?_
          refine r_idiv hC dX10_lump_52 (by decide) ?_
          refine r_iload_n hC 1 dX10_lump_53 rfl rfl ?_
          refine r_bipush hC 100 dX10_lump_54 (by decide) ?_
          refine r_irem hC dX10_lump_56 (by decide) ?_
          refine r_iload_n hC 2 dX10_lump_57 rfl rfl ?_
          refine r_bipush hC 10 dX10_lump_58 (by decide) ?_
          refine r_idiv hC dX10_lump_60 (by decide) ?_
          refine r_iload_n hC 2 dX10_lump_61 rfl rfl ?_
          refine r_bipush hC 10 dX10_lump_62 (by decide) ?_
          refine r_irem hC dX10_lump_64 (by decide) ?_
          refine r_callVi hC [.int (p1 / 100), .int (mw_rem p1 100), .int (p2 / 10), .int (mw_rem p2 10)] (T2_join sh10_0 hO) yv2_join ml10_79 sh10_0 rfl ⟨Nat.le_of_ble_eq_true rfl, Nat.le_of_ble_eq_true rfl⟩ rfl rfl (Nat.le_of_ble_eq_true rfl) dX10_lump_65 (fun r7 μ8 hO => ?_)
          exact r_iret hC rfl dX10_lump_68 hO
      · refine r_topEq hr ?_
        obtain ⟨hO, hm⟩ := hO
        refine r_memEq hm ?_
        refine r_if_ne hC 32 dX10_lump_27 (by decide) (fun h => absurd (by decide) h) (fun _ => ?_)
        refine r_iconst hC (-1) dX10_lump_30 (by decide) ?_
        exact r_iret hC rfl dX10_lump_31 hO
set_option maxHeartbeats 4000000 in
set_option maxRecDepth 100000 in
theorem T10_lumpCameFromRow {l : Launch} {G : mw_G} {p1 : Int32} {p2 : Int64} {μ : mw_M} {QT : mw_M → Prop} {QF : mw_M → Prop}  (hO : P10_lumpCameFromRow p1 p2 μ QT QF) : mw_Mi l G kdX yX10_lumpCameFromRow cX10_lumpCameFromRow 9 (some .boolean) 4 87 [.ref (mw_a G 0), .int p1, .long p2] μ (mw_bq QT QF) := by
  refine mw_enter [(0, .ref (mw_a G 0)), (1, .int p1), (2, .long p2)] RX10 (by decide) rfl (Nat.le_of_ble_eq_true rfl) rfl ?_
  intro p e s m args below meth c hC
  unfold P10_lumpCameFromRow at hO
  refine r_aload_n hC 0 dX10_lumpCameFromRow_0 rfl rfl ?_
  refine r_getR hC 1 fl10_10 ob10 rfl dX10_lumpCameFromRow_1 ?_
  refine r_callVi hC [] (T2_isFull sh10_0 hO) yv2_isFull ml10_75 sh10_0 rfl ⟨Nat.le_of_ble_eq_true rfl, Nat.le_of_ble_eq_true rfl⟩ rfl rfl (Nat.le_of_ble_eq_true rfl) dX10_lumpCameFromRow_4 (fun r1 μ2 hO => ?_)
  rcases hO with ⟨hr, hO⟩ | ⟨hr, hO⟩
  · refine r_topEq hr ?_
    obtain ⟨hO, hm⟩ := hO
    refine r_memEq hm ?_
    refine r_if_ne hC 23 dX10_lumpCameFromRow_7 (by decide) (fun _ => ?_) (fun h => absurd h (by decide))
    refine r_iconst hC 0 dX10_lumpCameFromRow_23 (by decide) ?_
    exact r_zret hC rfl (by decide) dX10_lumpCameFromRow_24 (Or.inr ⟨rfl, hO⟩)
  · refine r_topEq hr ?_
    obtain ⟨hO, hm⟩ := hO
    refine r_memEq hm ?_
    refine r_if_ne hC 23 dX10_lumpCameFromRow_7 (by decide) (fun h => absurd (by decide) h) (fun _ => ?_)
    refine r_aload_n hC 0 dX10_lumpCameFromRow_10 rfl rfl ?_
    refine r_getR hC 65 fl10_67 ob10 rfl dX10_lumpCameFromRow_11 ?_
    refine r_iload_n hC 1 dX10_lumpCameFromRow_14 rfl rfl ?_
    refine r_lload_n hC 2 dX10_lumpCameFromRow_15 rfl rfl ?_
    refine r_iconst hC 4 dX10_lumpCameFromRow_16 (by decide) ?_
    refine r_callVi hC [.int p1, .long p2, .int 4] (T6_hasPlaces  hO) yv6_hasPlaces ml10_100 sh10_7 rfl ⟨Nat.le_of_ble_eq_true rfl, Nat.le_of_ble_eq_true rfl⟩ rfl rfl (Nat.le_of_ble_eq_true rfl) dX10_lumpCameFromRow_17 (fun r3 μ4 hO => ?_)
    rcases hO with ⟨hr, hO⟩ | ⟨hr, hO⟩
    · refine r_topEq hr ?_
      obtain ⟨hO, hm⟩ := hO
      refine r_memEq hm ?_
      refine r_if_ne hC 25 dX10_lumpCameFromRow_20 (by decide) (fun _ => ?_) (fun h => absurd h (by decide))
      refine r_lload_n hC 2 dX10_lumpCameFromRow_25 rfl rfl ?_
      refine r_l2i hC dX10_lumpCameFromRow_26 ?_
      refine r_nmI (fun x5 hx5 => ?_)
      have hO := hO x5 hx5
      refine r_istore hC [(4, .int x5), (0, .ref (mw_a G 0)), (1, .int p1), (2, .long p2)] dX10_lumpCameFromRow_27 (by decide) rfl ?_
      refine r_aload_n hC 1 dX10_lumpCameFromRow_29 rfl rfl ?_
      refine r_getR hC 65 fl10_67 ob10 rfl dX10_lumpCameFromRow_30 ?_
      refine r_iload_n hC 2 dX10_lumpCameFromRow_33 rfl rfl ?_
      refine r_iload hC 0 dX10_lumpCameFromRow_34 rfl ?_
      refine r_callVl hC [.int p1, .int x5] (T6_valueAt  hO) yv6_valueAt ml10_104 sh10_7 rfl ⟨Nat.le_of_ble_eq_true rfl, Nat.le_of_ble_eq_true rfl⟩ rfl rfl (Nat.le_of_ble_eq_true rfl) dX10_lumpCameFromRow_36 (fun r6 μ7 hO => ?_)
      obtain ⟨hO, hm⟩ := hO
      refine r_memEq hm ?_
      refine r_l2i hC dX10_lumpCameFromRow_39 ?_
      refine r_nmI (fun x8 hx8 => ?_)
      have hO := hO x8 hx8
      refine r_istore hC [(5, .int x8), (4, .int x5), (0, .ref (mw_a G 0)), (1, .int p1), (2, .long p2)] dX10_lumpCameFromRow_40 (by decide) rfl ?_
      refine r_aload_n hC 2 dX10_lumpCameFromRow_42 rfl rfl ?_
      refine r_getR hC 65 fl10_67 ob10 rfl dX10_lumpCameFromRow_43 ?_
      refine r_iload_n hC 3 dX10_lumpCameFromRow_46 rfl rfl ?_
      refine r_iload hC 1 dX10_lumpCameFromRow_47 rfl ?_
      refine r_iconst hC 1 dX10_lumpCameFromRow_49 (by decide) ?_
      refine r_iadd hC dX10_lumpCameFromRow_50 ?_
      refine r_callVl hC [.int p1, .int (x5 + 1)] (T6_valueAt  hO) yv6_valueAt ml10_104 sh10_7 rfl ⟨Nat.le_of_ble_eq_true rfl, Nat.le_of_ble_eq_true rfl⟩ rfl rfl (Nat.le_of_ble_eq_true rfl) dX10_lumpCameFromRow_51 (fun r9 μ10 hO => ?_)
      obtain ⟨hO, hm⟩ := hO
      refine r_memEq hm ?_
      refine r_l2i hC dX10_lumpCameFromRow_54 ?_
      refine r_nmI (fun x11 hx11 => ?_)
      have hO := hO x11 hx11
      refine r_istore hC [(6, .int x11), (5, .int x8), (4, .int x5), (0, .ref (mw_a G 0)), (1, .int p1), (2, .long p2)] dX10_lumpCameFromRow_55 (by decide) rfl ?_
      refine r_aload_n hC 3 dX10_lumpCameFromRow_57 rfl rfl ?_
      refine r_getR hC 65 fl10_67 ob10 rfl dX10_lumpCameFromRow_58 ?_
      refine r_iload_n hC 4 dX10_lumpCameFromRow_61 rfl rfl ?_
      refine r_iload hC 2 dX10_lumpCameFromRow_62 rfl ?_
      refine r_iconst hC 2 dX10_lumpCameFromRow_64 (by decide) ?_
      refine r_iadd hC dX10_lumpCameFromRow_65 ?_
      refine r_callVl hC [.int p1, .int (x5 + 2)] (T6_valueAt  hO) yv6_valueAt ml10_104 sh10_7 rfl ⟨Nat.le_of_ble_eq_true rfl, Nat.le_of_ble_eq_true rfl⟩ rfl rfl (Nat.le_of_ble_eq_true rfl) dX10_lumpCameFromRow_66 (fun r12 μ13 hO => ?_)
      obtain ⟨hO, hm⟩ := hO
      refine r_memEq hm ?_
      refine r_l2i hC dX10_lumpCameFromRow_69 ?_
      refine r_nmI (fun x14 hx14 => ?_)
      have hO := hO x14 hx14
      refine r_istore hC [(7, .int x14), (6, .int x11), (5, .int x8), (4, .int x5), (0, .ref (mw_a G 0)), (1, .int p1), (2, .long p2)] dX10_lumpCameFromRow_70 (by decide) rfl ?_
      refine r_aload_n hC 4 dX10_lumpCameFromRow_72 rfl rfl ?_
      refine r_getR hC 65 fl10_67 ob10 rfl dX10_lumpCameFromRow_73 ?_
      refine r_iload_n hC 5 dX10_lumpCameFromRow_76 rfl rfl ?_
      refine r_iload hC 3 dX10_lumpCameFromRow_77 rfl ?_
      refine r_iconst hC 3 dX10_lumpCameFromRow_79 (by decide) ?_
      refine r_iadd hC dX10_lumpCameFromRow_80 ?_
      refine r_callVl hC [.int p1, .int (x5 + 3)] (T6_valueAt  hO) yv6_valueAt ml10_104 sh10_7 rfl ⟨Nat.le_of_ble_eq_true rfl, Nat.le_of_ble_eq_true rfl⟩ rfl rfl (Nat.le_of_ble_eq_true rfl) dX10_lumpCameFromRow_81 (fun r15 μ16 hO => ?_)
      obtain ⟨hO, hm⟩ := hO
      refine r_memEq hm ?_
      refine r_l2i hC dX10_lumpCameFromRow_84 ?_
      refine r_nmI (fun x17 hx17 => ?_)
      have hO := hO x17 hx17
      refine r_istore hC [(8, .int x17), (7, .int x14), (6, .int x11), (5, .int x8), (4, .int x5), (0, .ref (mw_a G 0)), (1, .int p1), (2, .long p2)] dX10_lumpCameFromRow_85 (by decide) rfl ?_
      refine r_iload hC 3 dX10_lumpCameFromRow_87 rfl ?_
      refine r_iload hC 2 dX10_lumpCameFromRow_89 rfl ?_
      refine r_iload hC 1 dX10_lumpCameFromRow_91 rfl ?_
      refine r_iload hC 0 dX10_lumpCameFromRow_93 rfl ?_
      refine r_callSi hC [.int x8, .int x11, .int x14, .int x17] (T2_isLump  hO) yv2_isLump ml10_71 ⟨Nat.le_of_ble_eq_true rfl, Nat.le_of_ble_eq_true rfl⟩ rfl rfl (Nat.le_of_ble_eq_true rfl) dX10_lumpCameFromRow_95 (fun r18 μ19 hO => ?_)
      rcases hO with ⟨hr, hO⟩ | ⟨hr, hO⟩
      · refine r_topEq hr ?_
        obtain ⟨hO, hm⟩ := hO
        refine r_memEq hm ?_
        refine r_if_ne hC 103 dX10_lumpCameFromRow_98 (by decide) (fun _ => ?_) (fun h => absurd h (by decide))
        refine r_aload_n hC 5 dX10_lumpCameFromRow_103 rfl rfl ?_
        refine r_getR hC 1 fl10_10 ob10 rfl dX10_lumpCameFromRow_104 ?_
        refine r_iload hC 3 dX10_lumpCameFromRow_107 rfl ?_
        refine r_iload hC 2 dX10_lumpCameFromRow_109 rfl ?_
        refine r_iload hC 1 dX10_lumpCameFromRow_111 rfl ?_
        refine r_iload hC 0 dX10_lumpCameFromRow_113 rfl ?_
        refine r_callVi hC [.int x8, .int x11, .int x14, .int x17] (T2_join sh10_0 hO) yv2_join ml10_79 sh10_0 rfl ⟨Nat.le_of_ble_eq_true rfl, Nat.le_of_ble_eq_true rfl⟩ rfl rfl (Nat.le_of_ble_eq_true rfl) dX10_lumpCameFromRow_115 (fun r20 μ21 hO => ?_)
        refine r_pop hC dX10_lumpCameFromRow_118 rfl ?_
        refine r_iconst hC 1 dX10_lumpCameFromRow_119 (by decide) ?_
        exact r_zret hC rfl (by decide) dX10_lumpCameFromRow_120 (Or.inl ⟨rfl, hO⟩)
      · refine r_topEq hr ?_
        obtain ⟨hO, hm⟩ := hO
        refine r_memEq hm ?_
        refine r_if_ne hC 103 dX10_lumpCameFromRow_98 (by decide) (fun h => absurd (by decide) h) (fun _ => ?_)
        refine r_iconst hC 0 dX10_lumpCameFromRow_101 (by decide) ?_
        exact r_zret hC rfl (by decide) dX10_lumpCameFromRow_102 (Or.inr ⟨rfl, hO⟩)
    · refine r_topEq hr ?_
      obtain ⟨hO, hm⟩ := hO
      refine r_memEq hm ?_
      refine r_if_ne hC 25 dX10_lumpCameFromRow_20 (by decide) (fun h => absurd (by decide) h) (fun _ => ?_)
      refine r_iconst hC 0 dX10_lumpCameFromRow_23 (by decide) ?_
      exact r_zret hC rfl (by decide) dX10_lumpCameFromRow_24 (Or.inr ⟨rfl, hO⟩)
set_option maxHeartbeats 4000000 in
set_option maxRecDepth 100000 in
theorem T10_lumps {l : Launch} {G : mw_G} {p1 : Int32} {p2 : Int32} {p3 : Int32} {μ : mw_M} {Q : Int32 → mw_M → Prop}  (hO : P10_lumps p1 p2 p3 μ Q) : mw_Mi l G kdX yX10_lumps cX10_lumps 5 (some .int) 5 115 [.ref (mw_a G 0), .int p1, .int p2, .int p3] μ (Q) := by
  refine mw_enter [(0, .ref (mw_a G 0)), (1, .int p1), (2, .int p2), (3, .int p3)] RX10 (by decide) rfl (Nat.le_of_ble_eq_true rfl) rfl ?_
  intro p e s m args below meth c hC
  unfold P10_lumps at hO
  refine r_iload_n hC 1 dX10_lumps_0 rfl rfl ?_
  refine r_callSi hC [.int p1] (T6_isShelf  hO) yv6_isShelf ml10_83 ⟨Nat.le_of_ble_eq_true rfl, Nat.le_of_ble_eq_true rfl⟩ rfl rfl (Nat.le_of_ble_eq_true rfl) dX10_lumps_1 (fun r1 μ2 hO => ?_)
  rcases hO with ⟨hr, hO⟩ | ⟨hr, hO⟩
  · refine r_topEq hr ?_
    obtain ⟨hO, hm⟩ := hO
    refine r_memEq hm ?_
    refine r_if_eq hC 18 dX10_lumps_4 (by decide) (fun h => absurd h (by decide)) (fun _ => ?_)
    refine r_iload_n hC 3 dX10_lumps_7 rfl rfl ?_
    refine r_iconst hC 1 dX10_lumps_8 (by decide) ?_
    refine r_icmp_lt hC 18 dX10_lumps_9 (by decide) (fun h3 => ?_) (fun h3 => ?_)
    · have hO := hO.1 h3
      refine r_iconst hC (-1) dX10_lumps_18 (by decide) ?_
      exact r_iret hC rfl dX10_lumps_19 hO
    · have hO := hO.2 h3
      refine r_iload_n hC 3 dX10_lumps_12 rfl rfl ?_
      refine r_bipush hC 12 dX10_lumps_13 (by decide) ?_
      refine r_icmp_le hC 20 dX10_lumps_15 (by decide) (fun h4 => ?_) (fun h4 => ?_)
      · have hO := hO.1 h4
        refine r_aload_n hC 0 dX10_lumps_20 rfl rfl ?_
        refine r_getR hC 65 fl10_67 ob10 rfl dX10_lumps_21 ?_
        refine r_iload_n hC 1 dX10_lumps_24 rfl rfl ?_
        refine r_callVi hC [.int p1] (T6_isEmpty  hO) yv6_isEmpty ml10_87 sh10_7 rfl ⟨Nat.le_of_ble_eq_true rfl, Nat.le_of_ble_eq_true rfl⟩ rfl rfl (Nat.le_of_ble_eq_true rfl) dX10_lumps_25 (fun r5 μ6 hO => ?_)
        rcases hO with ⟨hr, hO⟩ | ⟨hr, hO⟩
        · refine r_topEq hr ?_
          obtain ⟨hO, hm⟩ := hO
          refine r_memEq hm ?_
          refine r_if_eq hC 33 dX10_lumps_28 (by decide) (fun h => absurd h (by decide)) (fun _ => ?_)
          refine r_iconst hC 0 dX10_lumps_31 (by decide) ?_
          exact r_iret hC rfl dX10_lumps_32 hO
        · refine r_topEq hr ?_
          obtain ⟨hO, hm⟩ := hO
          refine r_memEq hm ?_
          refine r_if_eq hC 33 dX10_lumps_28 (by decide) (fun _ => ?_) (fun h => absurd (by decide) h)
          refine r_aload_n hC 0 dX10_lumps_33 rfl rfl ?_
          refine r_getR hC 65 fl10_67 ob10 rfl dX10_lumps_34 ?_
          refine r_iload_n hC 1 dX10_lumps_37 rfl rfl ?_
          refine r_iconst hC 0 dX10_lumps_38 (by decide) ?_
          refine r_callVi hC [.int p1, .int 0] (T6_holdsRowOf  hO) yv6_holdsRowOf ml10_90 sh10_7 rfl ⟨Nat.le_of_ble_eq_true rfl, Nat.le_of_ble_eq_true rfl⟩ rfl rfl (Nat.le_of_ble_eq_true rfl) dX10_lumps_39 (fun r7 μ8 hO => ?_)
          rcases hO with ⟨hr, hO⟩ | ⟨hr, hO⟩
          · refine r_topEq hr ?_
            obtain ⟨hO, hm⟩ := hO
            refine r_memEq hm ?_
            refine r_if_ne hC 48 dX10_lumps_42 (by decide) (fun _ => ?_) (fun h => absurd h (by decide))
            refine r_iconst hC 0 dX10_lumps_48 (by decide) ?_
            refine r_istore hC [(4, .int 0), (0, .ref (mw_a G 0)), (1, .int p1), (2, .int p2), (3, .int p3)] dX10_lumps_49 (by decide) rfl ?_
            have hLn11 : ∀   (n11 : Nat) (v9 : Int32) (μ10 : mw_M), L10_lumps_51 p1 p2 p3 Q n11 v9 μ10 → mw_W p l e (mw_rm 5 115) s m args below meth c G kdX 5 (MQ below (va_Qi (Q) (mw_B G kdX) (mw_A G kdX)) args s 0 0 (mw_A G kdX)) 51 [(4, .int v9), (0, .ref (mw_a G 0)), (1, .int p1), (2, .int p2), (3, .int p3)] [] μ10 := by
              intro   n11
              induction n11 with
              | zero => intro v9 μ10 hO; exact False.elim hO
              | succ n11 ihn11 =>
                intro v9 μ10 hO
                refine r_iload hC 0 dX10_lumps_51 rfl ?_
                refine r_iload_n hC 4 dX10_lumps_53 rfl rfl ?_
                refine r_icmp_ge hC 81 dX10_lumps_54 (by decide) (fun h12 => ?_) (fun h12 => ?_)
                · have hO := hO.1 h12
                  refine r_iload hC 0 dX10_lumps_81 rfl ?_
                  exact r_iret hC rfl dX10_lumps_83 hO
                · have hO := hO.2 h12
                  refine r_aload_n hC 1 dX10_lumps_57 rfl rfl ?_
                  refine r_iload_n hC 2 dX10_lumps_58 rfl rfl ?_
                  refine r_iload_n hC 3 dX10_lumps_59 rfl rfl ?_
                  refine r_i2l hC dX10_lumps_60 ?_
                  refine r_ldc2 hC kc10_94 dX10_lumps_61 ?_
                  refine r_iload hC 0 dX10_lumps_64 rfl ?_
                  refine r_i2l hC dX10_lumps_66 ?_
                  refine r_lmul hC dX10_lumps_67 ?_
                  refine r_ladd hC dX10_lumps_68 ?_
                  refine r_callVi hC [.int p1, .long ((Int32.toInt64 p2) + (4 * (Int32.toInt64 v9)))] (T10_lumpCameFromRow  hO) yv10_lumpCameFromRow ml10_96 ob10 rfl ⟨Nat.le_of_ble_eq_true rfl, Nat.le_of_ble_eq_true rfl⟩ rfl rfl (Nat.le_of_ble_eq_true rfl) dX10_lumps_69 (fun r13 μ14 hO => ?_)
                  rcases hO with ⟨hr, hO⟩ | ⟨hr, hO⟩
                  · refine r_topEq hr ?_
                    refine r_if_eq hC 81 dX10_lumps_72 (by decide) (fun h => absurd h (by decide)) (fun _ => ?_)
                    obtain ⟨x15, hx15⟩ : ∃ y : Int32, y = v9 + 1 := ⟨_, rfl⟩
                    have hO := hO x15 hx15
                    refine r_iinc hC x15 0 [(4, .int x15), (0, .ref (mw_a G 0)), (1, .int p1), (2, .int p2), (3, .int p3)] dX10_lumps_75 rfl (by rw [hx15]; rfl) (by decide) rfl ?_
                    refine r_goto hC 51 dX10_lumps_78 (by decide) ?_
                    refine r_lv hC [(4, .int x15), (0, .ref (mw_a G 0)), (1, .int p1), (2, .int p2), (3, .int p3)] [0, 1, 2, 3, 4] rfl ?_
                    exact ihn11 x15 μ14 hO
                  · refine r_topEq hr ?_
                    refine r_if_eq hC 81 dX10_lumps_72 (by decide) (fun _ => ?_) (fun h => absurd (by decide) h)
                    refine r_iload hC 0 dX10_lumps_81 rfl ?_
                    exact r_iret hC rfl dX10_lumps_83 hO
            obtain ⟨n11, hO⟩ := hO
            refine hLn11   n11 _ _ hO
          · refine r_topEq hr ?_
            obtain ⟨hO, hm⟩ := hO
            refine r_memEq hm ?_
            refine r_if_ne hC 48 dX10_lumps_42 (by decide) (fun h => absurd (by decide) h) (fun _ => ?_)
            refine r_bipush hC (-12) dX10_lumps_45 (by decide) ?_
            exact r_iret hC rfl dX10_lumps_47 hO
      · have hO := hO.2 h4
        refine r_iconst hC (-1) dX10_lumps_18 (by decide) ?_
        exact r_iret hC rfl dX10_lumps_19 hO
  · refine r_topEq hr ?_
    obtain ⟨hO, hm⟩ := hO
    refine r_memEq hm ?_
    refine r_if_eq hC 18 dX10_lumps_4 (by decide) (fun _ => ?_) (fun h => absurd (by decide) h)
    refine r_iconst hC (-1) dX10_lumps_18 (by decide) ?_
    exact r_iret hC rfl dX10_lumps_19 hO
set_option maxHeartbeats 4000000 in
set_option maxRecDepth 100000 in
theorem T10_mend {l : Launch} {G : mw_G} {p1 : Int32} {p2 : Int32} {p3 : Int32} {μ : mw_M} {Q : Int32 → mw_M → Prop}  (hO : P10_mend p1 p2 p3 μ Q) : mw_Mi l G kdX yX10_mend cX10_mend 4 (some .int) 3 68 [.ref (mw_a G 0), .int p1, .int p2, .int p3] μ (Q) := by
  refine mw_enter [(0, .ref (mw_a G 0)), (1, .int p1), (2, .int p2), (3, .int p3)] RX10 (by decide) rfl (Nat.le_of_ble_eq_true rfl) rfl ?_
  intro p e s m args below meth c hC
  unfold P10_mend at hO
  refine r_aload_n hC 0 dX10_mend_0 rfl rfl ?_
  refine r_getR hC 1 fl10_10 ob10 rfl dX10_mend_1 ?_
  refine r_iload_n hC 1 dX10_mend_4 rfl rfl ?_
  refine r_callVi hC [.int p1] (T2_hasLump sh10_0 hO) yv2_hasLump ml10_108 sh10_0 rfl ⟨Nat.le_of_ble_eq_true rfl, Nat.le_of_ble_eq_true rfl⟩ rfl rfl (Nat.le_of_ble_eq_true rfl) dX10_mend_5 (fun r1 μ2 hO => ?_)
  rcases hO with ⟨hr, hO⟩ | ⟨hr, hO⟩
  · refine r_topEq hr ?_
    obtain ⟨hO, hm⟩ := hO
    refine r_memEq hm ?_
    refine r_if_eq hC 19 dX10_mend_8 (by decide) (fun h => absurd h (by decide)) (fun _ => ?_)
    refine r_iload_n hC 2 dX10_mend_11 rfl rfl ?_
    refine r_iload_n hC 3 dX10_mend_12 rfl rfl ?_
    refine r_callSi hC [.int p2, .int p3] (T2_isTold  hO) yv2_isTold ml10_111 ⟨Nat.le_of_ble_eq_true rfl, Nat.le_of_ble_eq_true rfl⟩ rfl rfl (Nat.le_of_ble_eq_true rfl) dX10_mend_13 (fun r3 μ4 hO => ?_)
    rcases hO with ⟨hr, hO⟩ | ⟨hr, hO⟩
    · refine r_topEq hr ?_
      obtain ⟨hO, hm⟩ := hO
      refine r_memEq hm ?_
      refine r_if_ne hC 21 dX10_mend_16 (by decide) (fun _ => ?_) (fun h => absurd h (by decide))
      refine r_aload_n hC 0 dX10_mend_21 rfl rfl ?_
      refine r_getR hC 6 fl10_21 ob10 rfl dX10_mend_22 ?_
      refine r_iload_n hC 1 dX10_mend_25 rfl rfl ?_
      refine r_iload_n hC 2 dX10_mend_26 rfl rfl ?_
      refine r_iload_n hC 3 dX10_mend_27 rfl rfl ?_
      refine r_callVi hC [.int p1, .int p2, .int p3] (T1_tell  hO) yv1_tell ml10_114 sh10_1 rfl ⟨Nat.le_of_ble_eq_true rfl, Nat.le_of_ble_eq_true rfl⟩ rfl rfl (Nat.le_of_ble_eq_true rfl) dX10_mend_28 (fun r5 μ6 hO => ?_)
      exact r_iret hC rfl dX10_mend_31 hO
    · refine r_topEq hr ?_
      obtain ⟨hO, hm⟩ := hO
      refine r_memEq hm ?_
      refine r_if_ne hC 21 dX10_mend_16 (by decide) (fun h => absurd (by decide) h) (fun _ => ?_)
      refine r_iconst hC (-1) dX10_mend_19 (by decide) ?_
      exact r_iret hC rfl dX10_mend_20 hO
  · refine r_topEq hr ?_
    obtain ⟨hO, hm⟩ := hO
    refine r_memEq hm ?_
    refine r_if_eq hC 19 dX10_mend_8 (by decide) (fun _ => ?_) (fun h => absurd (by decide) h)
    refine r_iconst hC (-1) dX10_mend_19 (by decide) ?_
    exact r_iret hC rfl dX10_mend_20 hO
set_option maxHeartbeats 4000000 in
set_option maxRecDepth 100000 in
theorem T10_of {l : Launch} {G : mw_G} {p1 : Int32} {p2 : Int32} {μ : mw_M} {Q : Int32 → Prop}  (hO : P10_of p1 p2 μ Q) : mw_Mi l G kdX yX10_of cX10_of 3 (some .int) 2 43 [.ref (mw_a G 0), .int p1, .int p2] μ (mw_pq μ Q) := by
  refine mw_enter [(0, .ref (mw_a G 0)), (1, .int p1), (2, .int p2)] RX10 (by decide) rfl (Nat.le_of_ble_eq_true rfl) rfl ?_
  intro p e s m args below meth c hC
  unfold P10_of at hO
  refine r_aload_n hC 0 dX10_of_0 rfl rfl ?_
  refine r_getR hC 1 fl10_10 ob10 rfl dX10_of_1 ?_
  refine r_iload_n hC 1 dX10_of_4 rfl rfl ?_
  refine r_callVi hC [.int p1] (T2_hasLump sh10_0 hO) yv2_hasLump ml10_108 sh10_0 rfl ⟨Nat.le_of_ble_eq_true rfl, Nat.le_of_ble_eq_true rfl⟩ rfl rfl (Nat.le_of_ble_eq_true rfl) dX10_of_5 (fun r1 μ2 hO => ?_)
  rcases hO with ⟨hr, hO⟩ | ⟨hr, hO⟩
  · refine r_topEq hr ?_
    obtain ⟨hO, hm⟩ := hO
    refine r_memEq hm ?_
    refine r_if_eq hC 20 dX10_of_8 (by decide) (fun h => absurd h (by decide)) (fun _ => ?_)
    refine r_iload_n hC 2 dX10_of_11 rfl rfl ?_
    refine r_if_lt hC 20 dX10_of_12 (by decide) (fun h3 => ?_) (fun h3 => ?_)
    · have hO := hO.1 h3
      refine r_iconst hC (-1) dX10_of_20 (by decide) ?_
      exact r_iret hC rfl dX10_of_21 ⟨hO, rfl⟩
    · have hO := hO.2 h3
      refine r_iload_n hC 2 dX10_of_15 rfl rfl ?_
      refine r_iconst hC 3 dX10_of_16 (by decide) ?_
      refine r_icmp_le hC 22 dX10_of_17 (by decide) (fun h4 => ?_) (fun h4 => ?_)
      · have hO := hO.1 h4
        refine r_aload_n hC 0 dX10_of_22 rfl rfl ?_
        refine r_getR hC 1 fl10_10 ob10 rfl dX10_of_23 ?_
        refine r_iload_n hC 1 dX10_of_26 rfl rfl ?_
        refine r_iload_n hC 2 dX10_of_27 rfl rfl ?_
        refine r_callVi hC [.int p1, .int p2] (T2_told sh10_0 hO) yv2_told ml10_118 sh10_0 rfl ⟨Nat.le_of_ble_eq_true rfl, Nat.le_of_ble_eq_true rfl⟩ rfl rfl (Nat.le_of_ble_eq_true rfl) dX10_of_28 (fun r5 μ6 hO => ?_)
        obtain ⟨hO, hm⟩ := hO
        refine r_memEq hm ?_
        exact r_iret hC rfl dX10_of_31 ⟨hO, rfl⟩
      · have hO := hO.2 h4
        refine r_iconst hC (-1) dX10_of_20 (by decide) ?_
        exact r_iret hC rfl dX10_of_21 ⟨hO, rfl⟩
  · refine r_topEq hr ?_
    obtain ⟨hO, hm⟩ := hO
    refine r_memEq hm ?_
    refine r_if_eq hC 20 dX10_of_8 (by decide) (fun _ => ?_) (fun h => absurd (by decide) h)
    refine r_iconst hC (-1) dX10_of_20 (by decide) ?_
    exact r_iret hC rfl dX10_of_21 ⟨hO, rfl⟩
set_option maxHeartbeats 4000000 in
set_option maxRecDepth 100000 in
theorem T10_counter {l : Launch} {G : mw_G} {p1 : Int32} {μ : mw_M} {Q : Int32 → mw_M → Prop}  (hO : P10_counter p1 μ Q) : mw_Mi l G kdX yX10_counter cX10_counter 2 (some .int) 3 68 [.ref (mw_a G 0), .int p1] μ (Q) := by
  refine mw_enter [(0, .ref (mw_a G 0)), (1, .int p1)] RX10 (by decide) rfl (Nat.le_of_ble_eq_true rfl) rfl ?_
  intro p e s m args below meth c hC
  unfold P10_counter at hO
  refine r_iload_n hC 1 dX10_counter_0 rfl rfl ?_
  refine r_callSi hC [.int p1] (T2_isCounter  hO) yv2_isCounter ml10_122 ⟨Nat.le_of_ble_eq_true rfl, Nat.le_of_ble_eq_true rfl⟩ rfl rfl (Nat.le_of_ble_eq_true rfl) dX10_counter_1 (fun r1 μ2 hO => ?_)
  rcases hO with ⟨hr, hO⟩ | ⟨hr, hO⟩
  · refine r_topEq hr ?_
    obtain ⟨hO, hm⟩ := hO
    refine r_memEq hm ?_
    refine r_if_ne hC 9 dX10_counter_4 (by decide) (fun _ => ?_) (fun h => absurd h (by decide))
    refine r_aload_n hC 0 dX10_counter_9 rfl rfl ?_
    refine r_getR hC 6 fl10_21 ob10 rfl dX10_counter_10 ?_
    refine r_iconst hC 0 dX10_counter_13 (by decide) ?_
    refine r_iconst hC 4 dX10_counter_14 (by decide) ?_
    refine r_iload_n hC 1 dX10_counter_15 rfl rfl ?_
    refine r_callVi hC [.int 0, .int 4, .int p1] (T1_tell  hO) yv1_tell ml10_114 sh10_1 rfl ⟨Nat.le_of_ble_eq_true rfl, Nat.le_of_ble_eq_true rfl⟩ rfl rfl (Nat.le_of_ble_eq_true rfl) dX10_counter_16 (fun r3 μ4 hO => ?_)
    exact r_iret hC rfl dX10_counter_19 hO
  · refine r_topEq hr ?_
    obtain ⟨hO, hm⟩ := hO
    refine r_memEq hm ?_
    refine r_if_ne hC 9 dX10_counter_4 (by decide) (fun h => absurd (by decide) h) (fun _ => ?_)
    refine r_iconst hC (-1) dX10_counter_7 (by decide) ?_
    exact r_iret hC rfl dX10_counter_8 hO
set_option maxHeartbeats 4000000 in
set_option maxRecDepth 100000 in
theorem T10_set {l : Launch} {G : mw_G} {p1 : Int32} {p2 : Int32} {μ : mw_M} {Q : Int32 → mw_M → Prop}  (hO : P10_set p1 p2 μ Q) : mw_Mi l G kdX yX10_set cX10_set 3 (some .int) 2 44 [.ref (mw_a G 0), .int p1, .int p2] μ (Q) := by
  refine mw_enter [(0, .ref (mw_a G 0)), (1, .int p1), (2, .int p2)] RX10 (by decide) rfl (Nat.le_of_ble_eq_true rfl) rfl ?_
  intro p e s m args below meth c hC
  unfold P10_set at hO
  refine r_iload_n hC 1 dX10_set_0 rfl rfl ?_
  refine r_iload_n hC 2 dX10_set_1 rfl rfl ?_
  refine r_callSi hC [.int p1, .int p2] (T5_isTold  hO) yv5_isTold ml10_125 ⟨Nat.le_of_ble_eq_true rfl, Nat.le_of_ble_eq_true rfl⟩ rfl rfl (Nat.le_of_ble_eq_true rfl) dX10_set_2 (fun r1 μ2 hO => ?_)
  rcases hO with ⟨hr, hO⟩ | ⟨hr, hO⟩
  · refine r_topEq hr ?_
    obtain ⟨hO, hm⟩ := hO
    refine r_memEq hm ?_
    refine r_if_eq hC 20 dX10_set_5 (by decide) (fun h => absurd h (by decide)) (fun _ => ?_)
    refine r_aload_n hC 0 dX10_set_8 rfl rfl ?_
    refine r_getR hC 11 fl10_28 ob10 rfl dX10_set_9 ?_
    refine r_iload_n hC 1 dX10_set_12 rfl rfl ?_
    refine r_iload_n hC 2 dX10_set_13 rfl rfl ?_
    refine r_callVi hC [.int p1, .int p2] (T5_tell  hO) yv5_tell ml10_126 sh10_2 rfl ⟨Nat.le_of_ble_eq_true rfl, Nat.le_of_ble_eq_true rfl⟩ rfl rfl (Nat.le_of_ble_eq_true rfl) dX10_set_14 (fun r3 μ4 hO => ?_)
    refine r_goto hC 21 dX10_set_17 (by decide) ?_
    exact r_iret hC rfl dX10_set_21 hO
  · refine r_topEq hr ?_
    obtain ⟨hO, hm⟩ := hO
    refine r_memEq hm ?_
    refine r_if_eq hC 20 dX10_set_5 (by decide) (fun _ => ?_) (fun h => absurd (by decide) h)
    refine r_iconst hC (-1) dX10_set_20 (by decide) ?_
    exact r_iret hC rfl dX10_set_21 hO
set_option maxHeartbeats 4000000 in
set_option maxRecDepth 100000 in
theorem T10_floor {l : Launch} {G : mw_G} {p1 : Int32} {p2 : Int32} {μ : mw_M} {Q : Int32 → mw_M → Prop}  (hO : P10_floor p1 p2 μ Q) : mw_Mi l G kdX yX10_floor cX10_floor 3 (some .int) 1 23 [.ref (mw_a G 0), .int p1, .int p2] μ (Q) := by
  refine mw_enter [(0, .ref (mw_a G 0)), (1, .int p1), (2, .int p2)] RX10 (by decide) rfl (Nat.le_of_ble_eq_true rfl) rfl ?_
  intro p e s m args below meth c hC
  unfold P10_floor at hO
  refine r_iload_n hC 2 dX10_floor_0 rfl rfl ?_
  refine r_if_lt hC 25 dX10_floor_1 (by decide) (fun h1 => ?_) (fun h1 => ?_)
  · have hO := hO.1 h1
    refine r_iconst hC (-1) dX10_floor_25 (by decide) ?_
    exact r_iret hC rfl dX10_floor_26 hO
  · have hO := hO.2 h1
    refine r_iload_n hC 1 dX10_floor_4 rfl rfl ?_
    refine r_iload_n hC 2 dX10_floor_5 rfl rfl ?_
    refine r_bipush hC 100 dX10_floor_6 (by decide) ?_
    refine r_idiv hC dX10_floor_8 (by decide) ?_
    refine r_bipush hC 9 dX10_floor_9 (by decide) ?_
    refine r_isub hC dX10_floor_11 ?_
    refine r_iload_n hC 2 dX10_floor_12 rfl rfl ?_
    refine r_bipush hC 100 dX10_floor_13 (by decide) ?_
    refine r_irem hC dX10_floor_15 (by decide) ?_
    refine r_bipush hC 9 dX10_floor_16 (by decide) ?_
    refine r_isub hC dX10_floor_18 ?_
    refine r_callSi hC [.int p1, .int ((p2 / 100) - 9), .int ((mw_rem p2 100) - 9)] (T5_isFloor  hO) yv5_isFloor ml10_128 ⟨Nat.le_of_ble_eq_true rfl, Nat.le_of_ble_eq_true rfl⟩ rfl rfl (Nat.le_of_ble_eq_true rfl) dX10_floor_19 (fun r2 μ3 hO => ?_)
    rcases hO with ⟨hr, hO⟩ | ⟨hr, hO⟩
    · refine r_topEq hr ?_
      obtain ⟨hO, hm⟩ := hO
      refine r_memEq hm ?_
      refine r_if_ne hC 27 dX10_floor_22 (by decide) (fun _ => ?_) (fun h => absurd h (by decide))
      refine r_aload_n hC 0 dX10_floor_27 rfl rfl ?_
      refine r_getR hC 11 fl10_28 ob10 rfl dX10_floor_28 ?_
      refine r_callVi hC [] (T5_floorsAreFull  hO) yv5_floorsAreFull ml10_132 sh10_2 rfl ⟨Nat.le_of_ble_eq_true rfl, Nat.le_of_ble_eq_true rfl⟩ rfl rfl (Nat.le_of_ble_eq_true rfl) dX10_floor_31 (fun r4 μ5 hO => ?_)
      rcases hO with ⟨hr, hO⟩ | ⟨hr, hO⟩
      · refine r_topEq hr ?_
        obtain ⟨hO, hm⟩ := hO
        refine r_memEq hm ?_
        refine r_if_eq hC 42 dX10_floor_34 (by decide) (fun h => absurd h (by decide)) (fun _ => ?_)
        refine r_bipush hC (-3) dX10_floor_37 (by decide) ?_
        refine r_goto hC 64 dX10_floor_39 (by decide) ?_
        exact r_iret hC rfl dX10_floor_64 hO
      · refine r_topEq hr ?_
        obtain ⟨hO, hm⟩ := hO
        refine r_memEq hm ?_
        refine r_if_eq hC 42 dX10_floor_34 (by decide) (fun _ => ?_) (fun h => absurd (by decide) h)
        refine r_aload_n hC 0 dX10_floor_42 rfl rfl ?_
        refine r_getR hC 11 fl10_28 ob10 rfl dX10_floor_43 ?_
        refine r_iload_n hC 1 dX10_floor_46 rfl rfl ?_
        refine r_iload_n hC 2 dX10_floor_47 rfl rfl ?_
        refine r_bipush hC 100 dX10_floor_48 (by decide) ?_
        refine r_idiv hC dX10_floor_50 (by decide) ?_
        refine r_bipush hC 9 dX10_floor_51 (by decide) ?_
        refine r_isub hC dX10_floor_53 ?_
        refine r_iload_n hC 2 dX10_floor_54 rfl rfl ?_
        refine r_bipush hC 100 dX10_floor_55 (by decide) ?_
        refine r_irem hC dX10_floor_57 (by decide) ?_
        refine r_bipush hC 9 dX10_floor_58 (by decide) ?_
        refine r_isub hC dX10_floor_60 ?_
        refine r_callVi hC [.int p1, .int ((p2 / 100) - 9), .int ((mw_rem p2 100) - 9)] (T5_layFloor  hO) yv5_layFloor ml10_135 sh10_2 rfl ⟨Nat.le_of_ble_eq_true rfl, Nat.le_of_ble_eq_true rfl⟩ rfl rfl (Nat.le_of_ble_eq_true rfl) dX10_floor_61 (fun r6 μ7 hO => ?_)
        exact r_iret hC rfl dX10_floor_64 hO
    · refine r_topEq hr ?_
      obtain ⟨hO, hm⟩ := hO
      refine r_memEq hm ?_
      refine r_if_ne hC 27 dX10_floor_22 (by decide) (fun h => absurd (by decide) h) (fun _ => ?_)
      refine r_iconst hC (-1) dX10_floor_25 (by decide) ?_
      exact r_iret hC rfl dX10_floor_26 hO
set_option maxHeartbeats 4000000 in
set_option maxRecDepth 100000 in
theorem T10_load {l : Launch} {G : mw_G} {p1 : Int32} {μ : mw_M} {Q : Int32 → Prop}  (hO : P10_load p1 μ Q) : mw_Mi l G kdX yX10_load cX10_load 2 (some .int) 3 83 [.ref (mw_a G 0), .int p1] μ (mw_pq μ Q) := by
  refine mw_enter [(0, .ref (mw_a G 0)), (1, .int p1)] RX10 (by decide) rfl (Nat.le_of_ble_eq_true rfl) rfl ?_
  intro p e s m args below meth c hC
  unfold P10_load at hO
  refine r_iload_n hC 1 dX10_load_0 rfl rfl ?_
  by_cases h1 : p1 = 0
  · have hO := hO.1 h1
    refine r_tin hC 36 dX10_load_1 (by rw [h1]; decide) (by rw [h1]; decide) (by rw [h1] <;> rfl) (by decide) ?_
    refine r_aload_n hC 0 dX10_load_36 rfl rfl ?_
    refine r_getR hC 1 fl10_10 ob10 rfl dX10_load_37 ?_
    refine r_callVi hC [] (T2_lopsided sh10_0 hO) yv2_lopsided ml10_138 sh10_0 rfl ⟨Nat.le_of_ble_eq_true rfl, Nat.le_of_ble_eq_true rfl⟩ rfl rfl (Nat.le_of_ble_eq_true rfl) dX10_load_40 (fun r2 μ3 hO => ?_)
    obtain ⟨hO, hm⟩ := hO
    refine r_memEq hm ?_
    exact r_iret hC rfl dX10_load_43 ⟨hO, rfl⟩
  by_cases h4 : p1 = 1
  · have hO := hO.2.1 h4
    refine r_tin hC 44 dX10_load_1 (by rw [h4]; decide) (by rw [h4]; decide) (by rw [h4] <;> rfl) (by decide) ?_
    refine r_aload_n hC 0 dX10_load_44 rfl rfl ?_
    refine r_getR hC 1 fl10_10 ob10 rfl dX10_load_45 ?_
    refine r_callVi hC [] (T2_across sh10_0 hO) yv2_across ml10_142 sh10_0 rfl ⟨Nat.le_of_ble_eq_true rfl, Nat.le_of_ble_eq_true rfl⟩ rfl rfl (Nat.le_of_ble_eq_true rfl) dX10_load_48 (fun r5 μ6 hO => ?_)
    obtain ⟨hO, hm⟩ := hO
    refine r_memEq hm ?_
    exact r_iret hC rfl dX10_load_51 ⟨hO, rfl⟩
  by_cases h7 : p1 = 2
  · have hO := hO.2.2.1 h7
    refine r_tin hC 52 dX10_load_1 (by rw [h7]; decide) (by rw [h7]; decide) (by rw [h7] <;> rfl) (by decide) ?_
    refine r_aload_n hC 0 dX10_load_52 rfl rfl ?_
    refine r_getR hC 1 fl10_10 ob10 rfl dX10_load_53 ?_
    refine r_callVi hC [] (T2_along sh10_0 hO) yv2_along ml10_145 sh10_0 rfl ⟨Nat.le_of_ble_eq_true rfl, Nat.le_of_ble_eq_true rfl⟩ rfl rfl (Nat.le_of_ble_eq_true rfl) dX10_load_56 (fun r8 μ9 hO => ?_)
    obtain ⟨hO, hm⟩ := hO
    refine r_memEq hm ?_
    exact r_iret hC rfl dX10_load_59 ⟨hO, rfl⟩
  by_cases h10 : p1 = 3
  · have hO := hO.2.2.2.1 h10
    refine r_tin hC 60 dX10_load_1 (by rw [h10]; decide) (by rw [h10]; decide) (by rw [h10] <;> rfl) (by decide) ?_
    refine r_aload_n hC 0 dX10_load_60 rfl rfl ?_
    refine r_getR hC 1 fl10_10 ob10 rfl dX10_load_61 ?_
    refine r_callVi hC [] (T2_side sh10_0 hO) yv2_side ml10_148 sh10_0 rfl ⟨Nat.le_of_ble_eq_true rfl, Nat.le_of_ble_eq_true rfl⟩ rfl rfl (Nat.le_of_ble_eq_true rfl) dX10_load_64 (fun r11 μ12 hO => ?_)
    obtain ⟨hO, hm⟩ := hO
    refine r_memEq hm ?_
    exact r_iret hC rfl dX10_load_67 ⟨hO, rfl⟩
  by_cases h13 : p1 = 4
  · have hO := hO.2.2.2.2.1 h13
    refine r_tin hC 68 dX10_load_1 (by rw [h13]; decide) (by rw [h13]; decide) (by rw [h13] <;> rfl) (by decide) ?_
    refine r_aload_n hC 0 dX10_load_68 rfl rfl ?_
    refine r_getR hC 1 fl10_10 ob10 rfl dX10_load_69 ?_
    refine r_callVi hC [] (T2_wetOfAll sh10_0 hO) yv2_wetOfAll ml10_151 sh10_0 rfl ⟨Nat.le_of_ble_eq_true rfl, Nat.le_of_ble_eq_true rfl⟩ rfl rfl (Nat.le_of_ble_eq_true rfl) dX10_load_72 (fun r14 μ15 hO => ?_)
    obtain ⟨hO, hm⟩ := hO
    refine r_memEq hm ?_
    exact r_iret hC rfl dX10_load_75 ⟨hO, rfl⟩
  have hO := hO.2.2.2.2.2 h1 h4 h7 h10 h13
  refine r_tdef hC 76 dX10_load_1 (by decide) rfl (fun k hk => match k, hk with | 0, _ => Or.inr (mw_ne h1 rfl) | 1, _ => Or.inr (mw_ne h4 rfl) | 2, _ => Or.inr (mw_ne h7 rfl) | 3, _ => Or.inr (mw_ne h10 rfl) | 4, _ => Or.inr (mw_ne h13 rfl) | k + 5, h => absurd h (by show ¬ k + 5 < 5; omega)) ?_
  refine r_ldc hC kc10_154 dX10_load_76 ?_
  exact r_iret hC rfl dX10_load_78 ⟨hO, rfl⟩
set_option maxHeartbeats 4000000 in
set_option maxRecDepth 100000 in
theorem T10_shake {l : Launch} {G : mw_G} {p1 : Int32} {μ : mw_M} {Q : Int32 → Prop}  (hO : P10_shake p1 μ Q) : mw_Mi l G kdX yX10_shake cX10_shake 2 (some .int) 3 89 [.ref (mw_a G 0), .int p1] μ (mw_pq μ Q) := by
  refine mw_enter [(0, .ref (mw_a G 0)), (1, .int p1)] RX10 (by decide) rfl (Nat.le_of_ble_eq_true rfl) rfl ?_
  intro p e s m args below meth c hC
  unfold P10_shake at hO
  refine r_iload_n hC 1 dX10_shake_0 rfl rfl ?_
  refine r_callSi hC [.int p1] (T5_isPace  hO) yv5_isPace ml10_155 ⟨Nat.le_of_ble_eq_true rfl, Nat.le_of_ble_eq_true rfl⟩ rfl rfl (Nat.le_of_ble_eq_true rfl) dX10_shake_1 (fun r1 μ2 hO => ?_)
  rcases hO with ⟨hr, hO⟩ | ⟨hr, hO⟩
  · refine r_topEq hr ?_
    obtain ⟨hO, hm⟩ := hO
    refine r_memEq hm ?_
    refine r_if_eq hC 25 dX10_shake_4 (by decide) (fun h => absurd h (by decide)) (fun _ => ?_)
    refine r_aload_n hC 0 dX10_shake_7 rfl rfl ?_
    refine r_getR hC 11 fl10_28 ob10 rfl dX10_shake_8 ?_
    refine r_aload_n hC 0 dX10_shake_11 rfl rfl ?_
    refine r_getR hC 1 fl10_10 ob10 rfl dX10_shake_12 ?_
    refine r_callVi hC [] (T2_lopsided sh10_0 hO) yv2_lopsided ml10_138 sh10_0 rfl ⟨Nat.le_of_ble_eq_true rfl, Nat.le_of_ble_eq_true rfl⟩ rfl rfl (Nat.le_of_ble_eq_true rfl) dX10_shake_15 (fun r3 μ4 hO => ?_)
    obtain ⟨hO, hm⟩ := hO
    refine r_memEq hm ?_
    refine r_iload_n hC 1 dX10_shake_18 rfl rfl ?_
    refine r_callVi hC [.int r3, .int p1] (T5_shakeOf  hO) yv5_shakeOf ml10_158 sh10_2 rfl ⟨Nat.le_of_ble_eq_true rfl, Nat.le_of_ble_eq_true rfl⟩ rfl rfl (Nat.le_of_ble_eq_true rfl) dX10_shake_19 (fun r5 μ6 hO => ?_)
    obtain ⟨hO, hm⟩ := hO
    refine r_memEq hm ?_
    refine r_goto hC 26 dX10_shake_22 (by decide) ?_
    exact r_iret hC rfl dX10_shake_26 ⟨hO, rfl⟩
  · refine r_topEq hr ?_
    obtain ⟨hO, hm⟩ := hO
    refine r_memEq hm ?_
    refine r_if_eq hC 25 dX10_shake_4 (by decide) (fun _ => ?_) (fun h => absurd (by decide) h)
    refine r_iconst hC (-1) dX10_shake_25 (by decide) ?_
    exact r_iret hC rfl dX10_shake_26 ⟨hO, rfl⟩
set_option maxHeartbeats 4000000 in
set_option maxRecDepth 100000 in
theorem T10_feed {l : Launch} {G : mw_G} {p1 : Int32} {p2 : Int32} {μ : mw_M} {Q : Int32 → mw_M → Prop}  (hO : P10_feed p1 p2 μ Q) : mw_Mi l G kdX yX10_feed cX10_feed 3 (some .int) 1 23 [.ref (mw_a G 0), .int p1, .int p2] μ (Q) := by
  refine mw_enter [(0, .ref (mw_a G 0)), (1, .int p1), (2, .int p2)] RX10 (by decide) rfl (Nat.le_of_ble_eq_true rfl) rfl ?_
  intro p e s m args below meth c hC
  unfold P10_feed at hO
  refine r_iload_n hC 1 dX10_feed_0 rfl rfl ?_
  refine r_iconst hC 1 dX10_feed_1 (by decide) ?_
  refine r_icmp_lt hC 10 dX10_feed_2 (by decide) (fun h1 => ?_) (fun h1 => ?_)
  · have hO := hO.1 h1
    refine r_iconst hC (-1) dX10_feed_10 (by decide) ?_
    exact r_iret hC rfl dX10_feed_11 hO
  · have hO := hO.2 h1
    refine r_iload_n hC 1 dX10_feed_5 rfl rfl ?_
    refine r_iconst hC 4 dX10_feed_6 (by decide) ?_
    refine r_icmp_le hC 12 dX10_feed_7 (by decide) (fun h2 => ?_) (fun h2 => ?_)
    · have hO := hO.1 h2
      refine r_aload_n hC 0 dX10_feed_12 rfl rfl ?_
      refine r_getR hC 15 fl10_35 ob10 rfl dX10_feed_13 ?_
      refine r_getR hC 16 fl10_161 sh10_3 rfl dX10_feed_16 ?_
      refine r_iload_n hC 1 dX10_feed_19 rfl rfl ?_
      refine r_callVi hC [.int p1] (T7_hasRoomFor  hO) yv7_hasRoomFor ml10_165 sh4_0 rfl ⟨Nat.le_of_ble_eq_true rfl, Nat.le_of_ble_eq_true rfl⟩ rfl rfl (Nat.le_of_ble_eq_true rfl) dX10_feed_20 (fun r3 μ4 hO => ?_)
      rcases hO with ⟨hr, hO⟩ | ⟨hr, hO⟩
      · refine r_topEq hr ?_
        obtain ⟨hO, hm⟩ := hO
        refine r_memEq hm ?_
        refine r_if_eq hC 41 dX10_feed_23 (by decide) (fun h => absurd h (by decide)) (fun _ => ?_)
        refine r_aload_n hC 0 dX10_feed_26 rfl rfl ?_
        refine r_getR hC 15 fl10_35 ob10 rfl dX10_feed_27 ?_
        refine r_getR hC 16 fl10_161 sh10_3 rfl dX10_feed_30 ?_
        refine r_iload_n hC 1 dX10_feed_33 rfl rfl ?_
        refine r_iload_n hC 2 dX10_feed_34 rfl rfl ?_
        refine r_callVi hC [.int p1, .int p2] (T7_take  hO) yv7_take ml10_170 sh4_0 rfl ⟨Nat.le_of_ble_eq_true rfl, Nat.le_of_ble_eq_true rfl⟩ rfl rfl (Nat.le_of_ble_eq_true rfl) dX10_feed_35 (fun r5 μ6 hO => ?_)
        refine r_goto hC 43 dX10_feed_38 (by decide) ?_
        exact r_iret hC rfl dX10_feed_43 hO
      · refine r_topEq hr ?_
        obtain ⟨hO, hm⟩ := hO
        refine r_memEq hm ?_
        refine r_if_eq hC 41 dX10_feed_23 (by decide) (fun _ => ?_) (fun h => absurd (by decide) h)
        refine r_bipush hC (-3) dX10_feed_41 (by decide) ?_
        exact r_iret hC rfl dX10_feed_43 hO
    · have hO := hO.2 h2
      refine r_iconst hC (-1) dX10_feed_10 (by decide) ?_
      exact r_iret hC rfl dX10_feed_11 hO
set_option maxHeartbeats 4000000 in
set_option maxRecDepth 100000 in
theorem T10_law {l : Launch} {G : mw_G}  {μ : mw_M} {Q : Int32 → mw_M → Prop}  (hO : P10_law μ Q) : mw_Mi l G kdX yX10_law cX10_law 1 (some .int) 70 1731 [.ref (mw_a G 0)] μ (Q) := by
  refine mw_enter [(0, .ref (mw_a G 0))] RX10 (by decide) rfl (Nat.le_of_ble_eq_true rfl) rfl ?_
  intro p e s m args below meth c hC
  unfold P10_law at hO
  refine r_aload_n hC 0 dX10_law_0 rfl rfl ?_
  refine r_getR hC 15 fl10_35 ob10 rfl dX10_law_1 ?_
  refine r_callVi hC [] (T4_areFull  hO) yv4_areFull ml10_173 sh10_3 rfl ⟨Nat.le_of_ble_eq_true rfl, Nat.le_of_ble_eq_true rfl⟩ rfl rfl (Nat.le_of_ble_eq_true rfl) dX10_law_4 (fun r1 μ2 hO => ?_)
  rcases hO with ⟨hr, hO⟩ | ⟨hr, hO⟩
  · refine r_topEq hr ?_
    obtain ⟨hO, hm⟩ := hO
    refine r_memEq hm ?_
    refine r_if_eq hC 15 dX10_law_7 (by decide) (fun h => absurd h (by decide)) (fun _ => ?_)
    refine r_bipush hC (-3) dX10_law_10 (by decide) ?_
    refine r_goto hC 22 dX10_law_12 (by decide) ?_
    exact r_iret hC rfl dX10_law_22 hO
  · refine r_topEq hr ?_
    obtain ⟨hO, hm⟩ := hO
    refine r_memEq hm ?_
    refine r_if_eq hC 15 dX10_law_7 (by decide) (fun _ => ?_) (fun h => absurd (by decide) h)
    refine r_aload_n hC 0 dX10_law_15 rfl rfl ?_
    refine r_getR hC 15 fl10_35 ob10 rfl dX10_law_16 ?_
    refine r_callVi hC [] (T4_makeFromTape  hO) yv4_makeFromTape ml10_176 sh10_3 rfl ⟨Nat.le_of_ble_eq_true rfl, Nat.le_of_ble_eq_true rfl⟩ rfl rfl (Nat.le_of_ble_eq_true rfl) dX10_law_19 (fun r3 μ4 hO => ?_)
    exact r_iret hC rfl dX10_law_22 hO
set_option maxHeartbeats 4000000 in
set_option maxRecDepth 100000 in
theorem T10_water {l : Launch} {G : mw_G} {p1 : Int32} {μ : mw_M} {Q : Int32 → mw_M → Prop}  (hO : P10_water p1 μ Q) : mw_Mi l G kdX yX10_water cX10_water 2 (some .int) 1 22 [.ref (mw_a G 0), .int p1] μ (Q) := by
  refine mw_enter [(0, .ref (mw_a G 0)), (1, .int p1)] RX10 (by decide) rfl (Nat.le_of_ble_eq_true rfl) rfl ?_
  intro p e s m args below meth c hC
  unfold P10_water at hO
  refine r_iload_n hC 1 dX10_water_0 rfl rfl ?_
  refine r_iconst hC (-1) dX10_water_1 (by decide) ?_
  refine r_icmp_eq hC 16 dX10_water_2 (by decide) (fun h1 => ?_) (fun h1 => ?_)
  · have hO := hO.1 h1
    refine r_aload_n hC 0 dX10_water_16 rfl rfl ?_
    refine r_getR hC 15 fl10_35 ob10 rfl dX10_water_17 ?_
    refine r_iload_n hC 1 dX10_water_20 rfl rfl ?_
    refine r_callVi hC [.int p1] (T4_giveWater  hO) yv4_giveWater ml10_182 sh10_3 rfl ⟨Nat.le_of_ble_eq_true rfl, Nat.le_of_ble_eq_true rfl⟩ rfl rfl (Nat.le_of_ble_eq_true rfl) dX10_water_21 (fun r2 μ3 hO => ?_)
    refine r_goto hC 29 dX10_water_24 (by decide) ?_
    exact r_iret hC rfl dX10_water_29 hO
  · have hO := hO.2 h1
    refine r_aload_n hC 0 dX10_water_5 rfl rfl ?_
    refine r_getR hC 15 fl10_35 ob10 rfl dX10_water_6 ?_
    refine r_iload_n hC 1 dX10_water_9 rfl rfl ?_
    refine r_callVi hC [.int p1] (T4_has  hO) yv4_has ml10_179 sh10_3 rfl ⟨Nat.le_of_ble_eq_true rfl, Nat.le_of_ble_eq_true rfl⟩ rfl rfl (Nat.le_of_ble_eq_true rfl) dX10_water_10 (fun r4 μ5 hO => ?_)
    rcases hO with ⟨hr, hO⟩ | ⟨hr, hO⟩
    · refine r_topEq hr ?_
      obtain ⟨hO, hm⟩ := hO
      refine r_memEq hm ?_
      refine r_if_eq hC 27 dX10_water_13 (by decide) (fun h => absurd h (by decide)) (fun _ => ?_)
      refine r_aload_n hC 0 dX10_water_16 rfl rfl ?_
      refine r_getR hC 15 fl10_35 ob10 rfl dX10_water_17 ?_
      refine r_iload_n hC 1 dX10_water_20 rfl rfl ?_
      refine r_callVi hC [.int p1] (T4_giveWater  hO) yv4_giveWater ml10_182 sh10_3 rfl ⟨Nat.le_of_ble_eq_true rfl, Nat.le_of_ble_eq_true rfl⟩ rfl rfl (Nat.le_of_ble_eq_true rfl) dX10_water_21 (fun r6 μ7 hO => ?_)
      refine r_goto hC 29 dX10_water_24 (by decide) ?_
      exact r_iret hC rfl dX10_water_29 hO
    · refine r_topEq hr ?_
      obtain ⟨hO, hm⟩ := hO
      refine r_memEq hm ?_
      refine r_if_eq hC 27 dX10_water_13 (by decide) (fun _ => ?_) (fun h => absurd (by decide) h)
      refine r_ldc hC kc10_154 dX10_water_27 ?_
      exact r_iret hC rfl dX10_water_29 hO
set_option maxHeartbeats 4000000 in
set_option maxRecDepth 100000 in
theorem T10_isRuleAndFloor {l : Launch} {G : mw_G} {p1 : Int32} {μ : mw_M} {QT : Prop} {QF : Prop}  (hO : P10_isRuleAndFloor p1 μ QT QF) : mw_Mi l G kdX yX10_isRuleAndFloor cX10_isRuleAndFloor 2 (some .boolean) 1 21 [.ref (mw_a G 0), .int p1] μ (mw_bq (mw_pv μ QT) (mw_pv μ QF)) := by
  refine mw_enter [(0, .ref (mw_a G 0)), (1, .int p1)] RX10 (by decide) rfl (Nat.le_of_ble_eq_true rfl) rfl ?_
  intro p e s m args below meth c hC
  unfold P10_isRuleAndFloor at hO
  refine r_iload_n hC 1 dX10_isRuleAndFloor_0 rfl rfl ?_
  refine r_if_lt hC 36 dX10_isRuleAndFloor_1 (by decide) (fun h1 => ?_) (fun h1 => ?_)
  · have hO := hO.1 h1
    refine r_iconst hC 0 dX10_isRuleAndFloor_36 (by decide) ?_
    exact r_zret hC rfl (by decide) dX10_isRuleAndFloor_37 (Or.inr ⟨rfl, hO, rfl⟩)
  · have hO := hO.2 h1
    refine r_aload_n hC 0 dX10_isRuleAndFloor_4 rfl rfl ?_
    refine r_getR hC 15 fl10_35 ob10 rfl dX10_isRuleAndFloor_5 ?_
    refine r_iload_n hC 1 dX10_isRuleAndFloor_8 rfl rfl ?_
    refine r_bipush hC 10 dX10_isRuleAndFloor_9 (by decide) ?_
    refine r_idiv hC dX10_isRuleAndFloor_11 (by decide) ?_
    refine r_callVi hC [.int (p1 / 10)] (T4_has  hO) yv4_has ml10_179 sh10_3 rfl ⟨Nat.le_of_ble_eq_true rfl, Nat.le_of_ble_eq_true rfl⟩ rfl rfl (Nat.le_of_ble_eq_true rfl) dX10_isRuleAndFloor_12 (fun r2 μ3 hO => ?_)
    rcases hO with ⟨hr, hO⟩ | ⟨hr, hO⟩
    · refine r_topEq hr ?_
      obtain ⟨hO, hm⟩ := hO
      refine r_memEq hm ?_
      refine r_if_eq hC 36 dX10_isRuleAndFloor_15 (by decide) (fun h => absurd h (by decide)) (fun _ => ?_)
      refine r_aload_n hC 0 dX10_isRuleAndFloor_18 rfl rfl ?_
      refine r_getR hC 11 fl10_28 ob10 rfl dX10_isRuleAndFloor_19 ?_
      refine r_iload_n hC 1 dX10_isRuleAndFloor_22 rfl rfl ?_
      refine r_bipush hC 10 dX10_isRuleAndFloor_23 (by decide) ?_
      refine r_irem hC dX10_isRuleAndFloor_25 (by decide) ?_
      refine r_callVi hC [.int (mw_rem p1 10)] (T5_hasFloor  hO) yv5_hasFloor ml10_207 sh10_2 rfl ⟨Nat.le_of_ble_eq_true rfl, Nat.le_of_ble_eq_true rfl⟩ rfl rfl (Nat.le_of_ble_eq_true rfl) dX10_isRuleAndFloor_26 (fun r4 μ5 hO => ?_)
      rcases hO with ⟨hr, hO⟩ | ⟨hr, hO⟩
      · refine r_topEq hr ?_
        obtain ⟨hO, hm⟩ := hO
        refine r_memEq hm ?_
        refine r_if_eq hC 36 dX10_isRuleAndFloor_29 (by decide) (fun h => absurd h (by decide)) (fun _ => ?_)
        refine r_iconst hC 1 dX10_isRuleAndFloor_32 (by decide) ?_
        refine r_goto hC 37 dX10_isRuleAndFloor_33 (by decide) ?_
        exact r_zret hC rfl (by decide) dX10_isRuleAndFloor_37 (Or.inl ⟨rfl, hO, rfl⟩)
      · refine r_topEq hr ?_
        obtain ⟨hO, hm⟩ := hO
        refine r_memEq hm ?_
        refine r_if_eq hC 36 dX10_isRuleAndFloor_29 (by decide) (fun _ => ?_) (fun h => absurd (by decide) h)
        refine r_iconst hC 0 dX10_isRuleAndFloor_36 (by decide) ?_
        exact r_zret hC rfl (by decide) dX10_isRuleAndFloor_37 (Or.inr ⟨rfl, hO, rfl⟩)
    · refine r_topEq hr ?_
      obtain ⟨hO, hm⟩ := hO
      refine r_memEq hm ?_
      refine r_if_eq hC 36 dX10_isRuleAndFloor_15 (by decide) (fun _ => ?_) (fun h => absurd (by decide) h)
      refine r_iconst hC 0 dX10_isRuleAndFloor_36 (by decide) ?_
      exact r_zret hC rfl (by decide) dX10_isRuleAndFloor_37 (Or.inr ⟨rfl, hO, rfl⟩)
set_option maxHeartbeats 4000000 in
set_option maxRecDepth 100000 in
theorem T10_isGoalAndCount {l : Launch} {G : mw_G} {p1 : Int32} {p2 : Int32} {μ : mw_M} {QT : Prop} {QF : Prop}  (hO : P10_isGoalAndCount p1 p2 QT QF) : mw_Mi l G kdX yX10_isGoalAndCount cX10_isGoalAndCount 2 (some .boolean) 1 20 [.int p1, .int p2] μ (mw_bq (mw_pv μ QT) (mw_pv μ QF)) := by
  refine mw_enter [(0, .int p1), (1, .int p2)] RX10 (by decide) rfl (Nat.le_of_ble_eq_true rfl) rfl ?_
  intro p e s m args below meth c hC
  unfold P10_isGoalAndCount at hO
  refine r_iload_n hC 0 dX10_isGoalAndCount_0 rfl rfl ?_
  refine r_if_lt hC 37 dX10_isGoalAndCount_1 (by decide) (fun h1 => ?_) (fun h1 => ?_)
  · have hO := hO.1 h1
    refine r_iconst hC 0 dX10_isGoalAndCount_37 (by decide) ?_
    exact r_zret hC rfl (by decide) dX10_isGoalAndCount_38 (Or.inr ⟨rfl, hO, rfl⟩)
  · have hO := hO.2 h1
    refine r_iload_n hC 0 dX10_isGoalAndCount_4 rfl rfl ?_
    refine r_sipush hC 1000 dX10_isGoalAndCount_5 (by decide) ?_
    refine r_idiv hC dX10_isGoalAndCount_8 (by decide) ?_
    refine r_callSi hC [.int (p1 / 1000)] (T5_isGoal  hO) yv5_isGoal ml10_210 ⟨Nat.le_of_ble_eq_true rfl, Nat.le_of_ble_eq_true rfl⟩ rfl rfl (Nat.le_of_ble_eq_true rfl) dX10_isGoalAndCount_9 (fun r2 μ3 hO => ?_)
    rcases hO with ⟨hr, hO⟩ | ⟨hr, hO⟩
    · refine r_topEq hr ?_
      obtain ⟨hO, hm⟩ := hO
      refine r_memEq hm ?_
      refine r_if_eq hC 37 dX10_isGoalAndCount_12 (by decide) (fun h => absurd h (by decide)) (fun _ => ?_)
      refine r_iload_n hC 0 dX10_isGoalAndCount_15 rfl rfl ?_
      refine r_sipush hC 1000 dX10_isGoalAndCount_16 (by decide) ?_
      refine r_irem hC dX10_isGoalAndCount_19 (by decide) ?_
      refine r_iconst hC 1 dX10_isGoalAndCount_20 (by decide) ?_
      refine r_icmp_lt hC 37 dX10_isGoalAndCount_21 (by decide) (fun h4 => ?_) (fun h4 => ?_)
      · have hO := hO.1 h4
        refine r_iconst hC 0 dX10_isGoalAndCount_37 (by decide) ?_
        exact r_zret hC rfl (by decide) dX10_isGoalAndCount_38 (Or.inr ⟨rfl, hO, rfl⟩)
      · have hO := hO.2 h4
        refine r_iload_n hC 0 dX10_isGoalAndCount_24 rfl rfl ?_
        refine r_sipush hC 1000 dX10_isGoalAndCount_25 (by decide) ?_
        refine r_irem hC dX10_isGoalAndCount_28 (by decide) ?_
        refine r_iload_n hC 1 dX10_isGoalAndCount_29 rfl rfl ?_
        refine r_icmp_gt hC 37 dX10_isGoalAndCount_30 (by decide) (fun h5 => ?_) (fun h5 => ?_)
        · have hO := hO.1 h5
          refine r_iconst hC 0 dX10_isGoalAndCount_37 (by decide) ?_
          exact r_zret hC rfl (by decide) dX10_isGoalAndCount_38 (Or.inr ⟨rfl, hO, rfl⟩)
        · have hO := hO.2 h5
          refine r_iconst hC 1 dX10_isGoalAndCount_33 (by decide) ?_
          refine r_goto hC 38 dX10_isGoalAndCount_34 (by decide) ?_
          exact r_zret hC rfl (by decide) dX10_isGoalAndCount_38 (Or.inl ⟨rfl, hO, rfl⟩)
    · refine r_topEq hr ?_
      obtain ⟨hO, hm⟩ := hO
      refine r_memEq hm ?_
      refine r_if_eq hC 37 dX10_isGoalAndCount_12 (by decide) (fun _ => ?_) (fun h => absurd (by decide) h)
      refine r_iconst hC 0 dX10_isGoalAndCount_37 (by decide) ?_
      exact r_zret hC rfl (by decide) dX10_isGoalAndCount_38 (Or.inr ⟨rfl, hO, rfl⟩)
set_option maxHeartbeats 4000000 in
set_option maxRecDepth 100000 in
theorem T10_run {l : Launch} {G : mw_G} {p1 : Int32} {p2 : Int32} {p3 : Int32} {p4 : Int32} {μ : mw_M} {Q : Int32 → mw_M → Prop}  (hO : P10_run p1 p2 p3 p4 μ Q) : mw_Mi l G kdX yX10_run cX10_run 5 (some .int) 5 145 [.ref (mw_a G 0), .int p1, .int p2, .int p3, .int p4] μ (Q) := by
  refine mw_enter [(0, .ref (mw_a G 0)), (1, .int p1), (2, .int p2), (3, .int p3), (4, .int p4)] RX10 (by decide) rfl (Nat.le_of_ble_eq_true rfl) rfl ?_
  intro p e s m args below meth c hC
  unfold P10_run at hO
  refine r_aload_n hC 0 dX10_run_0 rfl rfl ?_
  refine r_iload_n hC 1 dX10_run_1 rfl rfl ?_
  refine r_callVi hC [.int p1] (T10_isRuleAndFloor  hO) yv10_isRuleAndFloor ml10_186 ob10 rfl ⟨Nat.le_of_ble_eq_true rfl, Nat.le_of_ble_eq_true rfl⟩ rfl rfl (Nat.le_of_ble_eq_true rfl) dX10_run_2 (fun r1 μ2 hO => ?_)
  rcases hO with ⟨hr, hO⟩ | ⟨hr, hO⟩
  · refine r_topEq hr ?_
    obtain ⟨hO, hm⟩ := hO
    refine r_memEq hm ?_
    refine r_if_eq hC 29 dX10_run_5 (by decide) (fun h => absurd h (by decide)) (fun _ => ?_)
    refine r_iload_n hC 2 dX10_run_8 rfl rfl ?_
    refine r_sipush hC 200 dX10_run_9 (by decide) ?_
    refine r_callSi hC [.int p2, .int 200] (T10_isGoalAndCount  hO) yv10_isGoalAndCount ml10_189 ⟨Nat.le_of_ble_eq_true rfl, Nat.le_of_ble_eq_true rfl⟩ rfl rfl (Nat.le_of_ble_eq_true rfl) dX10_run_12 (fun r3 μ4 hO => ?_)
    rcases hO with ⟨hr, hO⟩ | ⟨hr, hO⟩
    · refine r_topEq hr ?_
      obtain ⟨hO, hm⟩ := hO
      refine r_memEq hm ?_
      refine r_if_eq hC 29 dX10_run_15 (by decide) (fun h => absurd h (by decide)) (fun _ => ?_)
      refine r_iload hC 4 dX10_run_18 rfl ?_
      refine r_if_lt hC 29 dX10_run_20 (by decide) (fun h5 => ?_) (fun h5 => ?_)
      · have hO := hO.1 h5
        refine r_iconst hC (-1) dX10_run_29 (by decide) ?_
        exact r_iret hC rfl dX10_run_30 hO
      · have hO := hO.2 h5
        refine r_iload hC 4 dX10_run_23 rfl ?_
        refine r_iconst hC 1 dX10_run_25 (by decide) ?_
        refine r_icmp_le hC 31 dX10_run_26 (by decide) (fun h6 => ?_) (fun h6 => ?_)
        · have hO := hO.1 h6
          refine r_aload_n hC 0 dX10_run_31 rfl rfl ?_
          refine r_getR hC 32 fl10_44 ob10 rfl dX10_run_32 ?_
          refine r_aload_n hC 0 dX10_run_35 rfl rfl ?_
          refine r_getR hC 1 fl10_10 ob10 rfl dX10_run_36 ?_
          refine r_iload_n hC 1 dX10_run_39 rfl rfl ?_
          refine r_bipush hC 10 dX10_run_40 (by decide) ?_
          refine r_idiv hC dX10_run_42 (by decide) ?_
          refine r_iload_n hC 1 dX10_run_43 rfl rfl ?_
          refine r_bipush hC 10 dX10_run_44 (by decide) ?_
          refine r_irem hC dX10_run_46 (by decide) ?_
          refine r_iload_n hC 2 dX10_run_47 rfl rfl ?_
          refine r_sipush hC 1000 dX10_run_48 (by decide) ?_
          refine r_idiv hC dX10_run_51 (by decide) ?_
          refine r_iload_n hC 2 dX10_run_52 rfl rfl ?_
          refine r_sipush hC 1000 dX10_run_53 (by decide) ?_
          refine r_irem hC dX10_run_56 (by decide) ?_
          refine r_iload_n hC 3 dX10_run_57 rfl rfl ?_
          refine r_callVv hC [.ref (mw_a G 1), .int (p1 / 10), .int (mw_rem p1 10), .int (p2 / 1000), .int (mw_rem p2 1000), .int p3] (T9_through sh10_4 sh10_0 hO) yv9_through ml10_192 sh10_4 rfl ⟨Nat.le_of_ble_eq_true rfl, Nat.le_of_ble_eq_true rfl⟩ rfl rfl (Nat.le_of_ble_eq_true rfl) dX10_run_58 (fun μ7 hO => ?_)
          refine r_iload hC 4 dX10_run_61 rfl ?_
          refine r_iconst hC 1 dX10_run_63 (by decide) ?_
          refine r_icmp_ne hC 88 dX10_run_64 (by decide) (fun h8 => ?_) (fun h8 => ?_)
          · have hO := hO.2 h8
            refine r_aload_n hC 0 dX10_run_88 rfl rfl ?_
            refine r_getR hC 32 fl10_44 ob10 rfl dX10_run_89 ?_
            refine r_getI hC fl10_203 sh10_4 rfl dX10_run_92 ?_
            exact r_iret hC rfl dX10_run_95 hO
          · have hO := hO.1 h8
            refine r_aload_n hC 0 dX10_run_67 rfl rfl ?_
            refine r_getR hC 1 fl10_10 ob10 rfl dX10_run_68 ?_
            refine r_aload_n hC 0 dX10_run_71 rfl rfl ?_
            refine r_getR hC 32 fl10_44 ob10 rfl dX10_run_72 ?_
            refine r_getR hC 33 fl10_196 sh10_4 rfl dX10_run_75 ?_
            refine r_callVv hC [.ref (mw_a G 33)] (T2_lieAs sh10_0 (sh9_2 sh10_4) hO) yv2_lieAs ml10_197 sh10_0 rfl ⟨Nat.le_of_ble_eq_true rfl, Nat.le_of_ble_eq_true rfl⟩ rfl rfl (Nat.le_of_ble_eq_true rfl) dX10_run_78 (fun μ9 hO => ?_)
            refine r_aload_n hC 0 dX10_run_81 rfl rfl ?_
            refine r_getR hC 6 fl10_21 ob10 rfl dX10_run_82 ?_
            refine r_callVv hC [] (T1_end  hO) yv1_end ml10_200 sh10_1 rfl ⟨Nat.le_of_ble_eq_true rfl, Nat.le_of_ble_eq_true rfl⟩ rfl rfl (Nat.le_of_ble_eq_true rfl) dX10_run_85 (fun μ10 hO => ?_)
            refine r_aload_n hC 0 dX10_run_88 rfl rfl ?_
            refine r_getR hC 32 fl10_44 ob10 rfl dX10_run_89 ?_
            refine r_getI hC fl10_203 sh10_4 rfl dX10_run_92 ?_
            exact r_iret hC rfl dX10_run_95 hO
        · have hO := hO.2 h6
          refine r_iconst hC (-1) dX10_run_29 (by decide) ?_
          exact r_iret hC rfl dX10_run_30 hO
    · refine r_topEq hr ?_
      obtain ⟨hO, hm⟩ := hO
      refine r_memEq hm ?_
      refine r_if_eq hC 29 dX10_run_15 (by decide) (fun _ => ?_) (fun h => absurd (by decide) h)
      refine r_iconst hC (-1) dX10_run_29 (by decide) ?_
      exact r_iret hC rfl dX10_run_30 hO
  · refine r_topEq hr ?_
    obtain ⟨hO, hm⟩ := hO
    refine r_memEq hm ?_
    refine r_if_eq hC 29 dX10_run_5 (by decide) (fun _ => ?_) (fun h => absurd (by decide) h)
    refine r_iconst hC (-1) dX10_run_29 (by decide) ?_
    exact r_iret hC rfl dX10_run_30 hO
set_option maxHeartbeats 4000000 in
set_option maxRecDepth 100000 in
theorem T10_led {l : Launch} {G : mw_G} {p1 : Int32} {p2 : Int32} {μ : mw_M} {Q : Int32 → Prop}  (hO : P10_led p1 p2 μ Q) : mw_Mi l G kdX yX10_led cX10_led 3 (some .int) 1 22 [.ref (mw_a G 0), .int p1, .int p2] μ (mw_pq μ Q) := by
  refine mw_enter [(0, .ref (mw_a G 0)), (1, .int p1), (2, .int p2)] RX10 (by decide) rfl (Nat.le_of_ble_eq_true rfl) rfl ?_
  intro p e s m args below meth c hC
  unfold P10_led at hO
  refine r_aload_n hC 0 dX10_led_0 rfl rfl ?_
  refine r_getR hC 32 fl10_44 ob10 rfl dX10_led_1 ?_
  refine r_getI hC fl10_213 sh10_4 rfl dX10_led_4 ?_
  refine r_if_ne hC 13 dX10_led_7 (by decide) (fun h1 => ?_) (fun h1 => ?_)
  · have hO := hO.2 h1
    refine r_iload_n hC 1 dX10_led_13 rfl rfl ?_
    refine r_iconst hC (-1) dX10_led_14 (by decide) ?_
    refine r_icmp_ne hC 29 dX10_led_15 (by decide) (fun h2 => ?_) (fun h2 => ?_)
    · have hO := hO.2 h2
      refine r_aload_n hC 0 dX10_led_29 rfl rfl ?_
      refine r_getR hC 32 fl10_44 ob10 rfl dX10_led_30 ?_
      refine r_iload_n hC 1 dX10_led_33 rfl rfl ?_
      refine r_iload_n hC 2 dX10_led_34 rfl rfl ?_
      refine r_callVi hC [.int p1, .int p2] (T9_keptOf sh10_4 hO) yv9_keptOf ml10_219 sh10_4 rfl ⟨Nat.le_of_ble_eq_true rfl, Nat.le_of_ble_eq_true rfl⟩ rfl rfl (Nat.le_of_ble_eq_true rfl) dX10_led_35 (fun r3 μ4 hO => ?_)
      obtain ⟨hO, hm⟩ := hO
      refine r_memEq hm ?_
      exact r_iret hC rfl dX10_led_38 ⟨hO, rfl⟩
    · have hO := hO.1 h2
      refine r_aload_n hC 0 dX10_led_18 rfl rfl ?_
      refine r_getR hC 32 fl10_44 ob10 rfl dX10_led_19 ?_
      refine r_iload_n hC 2 dX10_led_22 rfl rfl ?_
      refine r_callVi hC [.int p2] (T9_counted sh10_4 hO) yv9_counted ml10_216 sh10_4 rfl ⟨Nat.le_of_ble_eq_true rfl, Nat.le_of_ble_eq_true rfl⟩ rfl rfl (Nat.le_of_ble_eq_true rfl) dX10_led_23 (fun r5 μ6 hO => ?_)
      obtain ⟨hO, hm⟩ := hO
      refine r_memEq hm ?_
      refine r_goto hC 38 dX10_led_26 (by decide) ?_
      exact r_iret hC rfl dX10_led_38 ⟨hO, rfl⟩
  · have hO := hO.1 h1
    refine r_ldc hC kc10_154 dX10_led_10 ?_
    exact r_iret hC rfl dX10_led_12 ⟨hO, rfl⟩
set_option maxHeartbeats 4000000 in
set_option maxRecDepth 100000 in
theorem T10_did {l : Launch} {G : mw_G} {p1 : Int32} {μ : mw_M} {Q : Int32 → Prop}  (hO : P10_did p1 μ Q) : mw_Mi l G kdX yX10_did cX10_did 2 (some .int) 2 60 [.ref (mw_a G 0), .int p1] μ (mw_pq μ Q) := by
  refine mw_enter [(0, .ref (mw_a G 0)), (1, .int p1)] RX10 (by decide) rfl (Nat.le_of_ble_eq_true rfl) rfl ?_
  intro p e s m args below meth c hC
  unfold P10_did at hO
  refine r_aload_n hC 0 dX10_did_0 rfl rfl ?_
  refine r_getR hC 32 fl10_44 ob10 rfl dX10_did_1 ?_
  refine r_getI hC fl10_213 sh10_4 rfl dX10_did_4 ?_
  refine r_if_ne hC 13 dX10_did_7 (by decide) (fun h1 => ?_) (fun h1 => ?_)
  · have hO := hO.2 h1
    refine r_iload_n hC 1 dX10_did_13 rfl rfl ?_
    by_cases h2 : p1 = 0
    · have hO := hO.1 h2
      refine r_tin hC 48 dX10_did_14 (by rw [h2]; decide) (by rw [h2]; decide) (by rw [h2] <;> rfl) (by decide) ?_
      refine r_aload_n hC 0 dX10_did_48 rfl rfl ?_
      refine r_getR hC 32 fl10_44 ob10 rfl dX10_did_49 ?_
      refine r_getI hC fl10_222 sh10_4 rfl dX10_did_52 ?_
      exact r_iret hC rfl dX10_did_55 ⟨hO, rfl⟩
    by_cases h3 : p1 = 1
    · have hO := hO.2.1 h3
      refine r_tin hC 56 dX10_did_14 (by rw [h3]; decide) (by rw [h3]; decide) (by rw [h3] <;> rfl) (by decide) ?_
      refine r_aload_n hC 0 dX10_did_56 rfl rfl ?_
      refine r_getR hC 32 fl10_44 ob10 rfl dX10_did_57 ?_
      refine r_callVi hC [] (T9_left sh10_4 hO) yv9_left ml10_225 sh10_4 rfl ⟨Nat.le_of_ble_eq_true rfl, Nat.le_of_ble_eq_true rfl⟩ rfl rfl (Nat.le_of_ble_eq_true rfl) dX10_did_60 (fun r4 μ5 hO => ?_)
      obtain ⟨hO, hm⟩ := hO
      refine r_memEq hm ?_
      exact r_iret hC rfl dX10_did_63 ⟨hO, rfl⟩
    by_cases h6 : p1 = 2
    · have hO := hO.2.2.1 h6
      refine r_tin hC 64 dX10_did_14 (by rw [h6]; decide) (by rw [h6]; decide) (by rw [h6] <;> rfl) (by decide) ?_
      refine r_aload_n hC 0 dX10_did_64 rfl rfl ?_
      refine r_getR hC 32 fl10_44 ob10 rfl dX10_did_65 ?_
      refine r_callVi hC [] (T9_walked sh10_4 hO) yv9_walked ml10_228 sh10_4 rfl ⟨Nat.le_of_ble_eq_true rfl, Nat.le_of_ble_eq_true rfl⟩ rfl rfl (Nat.le_of_ble_eq_true rfl) dX10_did_68 (fun r7 μ8 hO => ?_)
      obtain ⟨hO, hm⟩ := hO
      refine r_memEq hm ?_
      exact r_iret hC rfl dX10_did_71 ⟨hO, rfl⟩
    by_cases h9 : p1 = 3
    · have hO := hO.2.2.2.1 h9
      refine r_tin hC 72 dX10_did_14 (by rw [h9]; decide) (by rw [h9]; decide) (by rw [h9] <;> rfl) (by decide) ?_
      refine r_aload_n hC 0 dX10_did_72 rfl rfl ?_
      refine r_getR hC 32 fl10_44 ob10 rfl dX10_did_73 ?_
      refine r_getI hC fl10_231 sh10_4 rfl dX10_did_76 ?_
      exact r_iret hC rfl dX10_did_79 ⟨hO, rfl⟩
    by_cases h10 : p1 = 4
    · have hO := hO.2.2.2.2.1 h10
      refine r_tin hC 80 dX10_did_14 (by rw [h10]; decide) (by rw [h10]; decide) (by rw [h10] <;> rfl) (by decide) ?_
      refine r_aload_n hC 0 dX10_did_80 rfl rfl ?_
      refine r_getR hC 32 fl10_44 ob10 rfl dX10_did_81 ?_
      refine r_getI hC fl10_234 sh10_4 rfl dX10_did_84 ?_
      refine r_if_eq hC 94 dX10_did_87 (by decide) (fun h11 => ?_) (fun h11 => ?_)
      · have hO := hO.1 h11
        refine r_iconst hC 0 dX10_did_94 (by decide) ?_
        exact r_iret hC rfl dX10_did_95 ⟨hO, rfl⟩
      · have hO := hO.2 h11
        refine r_iconst hC 1 dX10_did_90 (by decide) ?_
        refine r_goto hC 95 dX10_did_91 (by decide) ?_
        exact r_iret hC rfl dX10_did_95 ⟨hO, rfl⟩
    have hO := hO.2.2.2.2.2 h2 h3 h6 h9 h10
    refine r_tdef hC 96 dX10_did_14 (by decide) rfl (fun k hk => match k, hk with | 0, _ => Or.inr (mw_ne h2 rfl) | 1, _ => Or.inr (mw_ne h3 rfl) | 2, _ => Or.inr (mw_ne h6 rfl) | 3, _ => Or.inr (mw_ne h9 rfl) | 4, _ => Or.inr (mw_ne h10 rfl) | k + 5, h => absurd h (by show ¬ k + 5 < 5; omega)) ?_
    refine r_ldc hC kc10_154 dX10_did_96 ?_
    exact r_iret hC rfl dX10_did_98 ⟨hO, rfl⟩
  · have hO := hO.1 h1
    refine r_ldc hC kc10_154 dX10_did_10 ?_
    exact r_iret hC rfl dX10_did_12 ⟨hO, rfl⟩
set_option maxHeartbeats 4000000 in
set_option maxRecDepth 100000 in
theorem T10_fear {l : Launch} {G : mw_G} {p1 : Int32} {μ : mw_M} {Q : Int32 → Prop}  (hO : P10_fear p1 μ Q) : mw_Mi l G kdX yX10_fear cX10_fear 3 (some .int) 4 112 [.ref (mw_a G 0), .int p1] μ (mw_pq μ Q) := by
  refine mw_enter [(0, .ref (mw_a G 0)), (1, .int p1)] RX10 (by decide) rfl (Nat.le_of_ble_eq_true rfl) rfl ?_
  intro p e s m args below meth c hC
  unfold P10_fear at hO
  refine r_iload_n hC 1 dX10_fear_0 rfl rfl ?_
  refine r_if_lt hC 9 dX10_fear_1 (by decide) (fun h1 => ?_) (fun h1 => ?_)
  · have hO := hO.1 h1
    refine r_iconst hC (-1) dX10_fear_9 (by decide) ?_
    exact r_iret hC rfl dX10_fear_10 ⟨hO, rfl⟩
  · have hO := hO.2 h1
    refine r_iload_n hC 1 dX10_fear_4 rfl rfl ?_
    refine r_iconst hC 1 dX10_fear_5 (by decide) ?_
    refine r_icmp_le hC 11 dX10_fear_6 (by decide) (fun h2 => ?_) (fun h2 => ?_)
    · have hO := hO.1 h2
      refine r_aload_n hC 0 dX10_fear_11 rfl rfl ?_
      refine r_getR hC 44 fl10_53 ob10 rfl dX10_fear_12 ?_
      refine r_callVi hC [] (T8_paceToFear  hO) yv8_paceToFear ml10_238 sh10_5 rfl ⟨Nat.le_of_ble_eq_true rfl, Nat.le_of_ble_eq_true rfl⟩ rfl rfl (Nat.le_of_ble_eq_true rfl) dX10_fear_15 (fun r3 μ4 hO => ?_)
      obtain ⟨hO, hm⟩ := hO
      refine r_memEq hm ?_
      refine r_istore_n hC [(2, .int r3), (0, .ref (mw_a G 0)), (1, .int p1)] dX10_fear_18 rfl (by decide) rfl ?_
      refine r_iload_n hC 2 dX10_fear_19 rfl rfl ?_
      refine r_if_ne hC 27 dX10_fear_20 (by decide) (fun h5 => ?_) (fun h5 => ?_)
      · have hO := hO.2 h5
        refine r_aload_n hC 1 dX10_fear_27 rfl rfl ?_
        refine r_getR hC 11 fl10_28 ob10 rfl dX10_fear_28 ?_
        refine r_aload_n hC 1 dX10_fear_31 rfl rfl ?_
        refine r_getR hC 1 fl10_10 ob10 rfl dX10_fear_32 ?_
        refine r_callVi hC [] (T2_lopsided sh10_0 hO) yv2_lopsided ml10_138 sh10_0 rfl ⟨Nat.le_of_ble_eq_true rfl, Nat.le_of_ble_eq_true rfl⟩ rfl rfl (Nat.le_of_ble_eq_true rfl) dX10_fear_35 (fun r6 μ7 hO => ?_)
        obtain ⟨hO, hm⟩ := hO
        refine r_memEq hm ?_
        refine r_iload_n hC 0 dX10_fear_38 rfl rfl ?_
        refine r_callVi hC [.int r6, .int r3] (T5_shakeOf  hO) yv5_shakeOf ml10_158 sh10_2 rfl ⟨Nat.le_of_ble_eq_true rfl, Nat.le_of_ble_eq_true rfl⟩ rfl rfl (Nat.le_of_ble_eq_true rfl) dX10_fear_39 (fun r8 μ9 hO => ?_)
        obtain ⟨hO, hm⟩ := hO
        refine r_memEq hm ?_
        exact r_iret hC rfl dX10_fear_42 ⟨hO, rfl⟩
      · have hO := hO.1 h5
        refine r_iload_n hC 0 dX10_fear_23 rfl rfl ?_
        refine r_goto hC 42 dX10_fear_24 (by decide) ?_
        exact r_iret hC rfl dX10_fear_42 ⟨hO, rfl⟩
    · have hO := hO.2 h2
      refine r_iconst hC (-1) dX10_fear_9 (by decide) ?_
      exact r_iret hC rfl dX10_fear_10 ⟨hO, rfl⟩
set_option maxHeartbeats 4000000 in
set_option maxRecDepth 100000 in
theorem T10_may {l : Launch} {G : mw_G} {p1 : Int32} {p2 : Int32} {μ : mw_M} {Q : Int32 → Prop}  (hO : P10_may p1 p2 μ Q) : mw_Mi l G kdX yX10_may cX10_may 3 (some .int) 3 92 [.ref (mw_a G 0), .int p1, .int p2] μ (mw_pq μ Q) := by
  refine mw_enter [(0, .ref (mw_a G 0)), (1, .int p1), (2, .int p2)] RX10 (by decide) rfl (Nat.le_of_ble_eq_true rfl) rfl ?_
  intro p e s m args below meth c hC
  unfold P10_may at hO
  refine r_aload_n hC 0 dX10_may_0 rfl rfl ?_
  refine r_getR hC 11 fl10_28 ob10 rfl dX10_may_1 ?_
  refine r_iload_n hC 1 dX10_may_4 rfl rfl ?_
  refine r_callVi hC [.int p1] (T5_hasFloor  hO) yv5_hasFloor ml10_207 sh10_2 rfl ⟨Nat.le_of_ble_eq_true rfl, Nat.le_of_ble_eq_true rfl⟩ rfl rfl (Nat.le_of_ble_eq_true rfl) dX10_may_5 (fun r1 μ2 hO => ?_)
  rcases hO with ⟨hr, hO⟩ | ⟨hr, hO⟩
  · refine r_topEq hr ?_
    obtain ⟨hO, hm⟩ := hO
    refine r_memEq hm ?_
    refine r_if_eq hC 30 dX10_may_8 (by decide) (fun h => absurd h (by decide)) (fun _ => ?_)
    refine r_iload_n hC 2 dX10_may_11 rfl rfl ?_
    refine r_callSi hC [.int p2] (T5_isGoal  hO) yv5_isGoal ml10_210 ⟨Nat.le_of_ble_eq_true rfl, Nat.le_of_ble_eq_true rfl⟩ rfl rfl (Nat.le_of_ble_eq_true rfl) dX10_may_12 (fun r3 μ4 hO => ?_)
    rcases hO with ⟨hr, hO⟩ | ⟨hr, hO⟩
    · refine r_topEq hr ?_
      obtain ⟨hO, hm⟩ := hO
      refine r_memEq hm ?_
      refine r_if_eq hC 30 dX10_may_15 (by decide) (fun h => absurd h (by decide)) (fun _ => ?_)
      refine r_aload_n hC 0 dX10_may_18 rfl rfl ?_
      refine r_getR hC 11 fl10_28 ob10 rfl dX10_may_19 ?_
      refine r_iload_n hC 1 dX10_may_22 rfl rfl ?_
      refine r_iload_n hC 2 dX10_may_23 rfl rfl ?_
      refine r_callVi hC [.int p1, .int p2] (T5_mostLopsided  hO) yv5_mostLopsided ml10_241 sh10_2 rfl ⟨Nat.le_of_ble_eq_true rfl, Nat.le_of_ble_eq_true rfl⟩ rfl rfl (Nat.le_of_ble_eq_true rfl) dX10_may_24 (fun r5 μ6 hO => ?_)
      obtain ⟨hO, hm⟩ := hO
      refine r_memEq hm ?_
      refine r_goto hC 31 dX10_may_27 (by decide) ?_
      exact r_iret hC rfl dX10_may_31 ⟨hO, rfl⟩
    · refine r_topEq hr ?_
      obtain ⟨hO, hm⟩ := hO
      refine r_memEq hm ?_
      refine r_if_eq hC 30 dX10_may_15 (by decide) (fun _ => ?_) (fun h => absurd (by decide) h)
      refine r_iconst hC (-1) dX10_may_30 (by decide) ?_
      exact r_iret hC rfl dX10_may_31 ⟨hO, rfl⟩
  · refine r_topEq hr ?_
    obtain ⟨hO, hm⟩ := hO
    refine r_memEq hm ?_
    refine r_if_eq hC 30 dX10_may_8 (by decide) (fun _ => ?_) (fun h => absurd (by decide) h)
    refine r_iconst hC (-1) dX10_may_30 (by decide) ?_
    exact r_iret hC rfl dX10_may_31 ⟨hO, rfl⟩
set_option maxHeartbeats 4000000 in
set_option maxRecDepth 100000 in
theorem T10_weight {l : Launch} {G : mw_G} {p1 : Int32} {μ : mw_M} {Q : Int32 → mw_M → Prop}  (hO : P10_weight p1 μ Q) : mw_Mi l G kdX yX10_weight cX10_weight 2 (some .int) 3 91 [.ref (mw_a G 0), .int p1] μ (Q) := by
  refine mw_enter [(0, .ref (mw_a G 0)), (1, .int p1)] RX10 (by decide) rfl (Nat.le_of_ble_eq_true rfl) rfl ?_
  intro p e s m args below meth c hC
  unfold P10_weight at hO
  refine r_iload_n hC 1 dX10_weight_0 rfl rfl ?_
  refine r_if_lt hC 9 dX10_weight_1 (by decide) (fun h1 => ?_) (fun h1 => ?_)
  · have hO := hO.1 h1
    refine r_iconst hC (-1) dX10_weight_9 (by decide) ?_
    refine r_goto hC 21 dX10_weight_10 (by decide) ?_
    exact r_iret hC rfl dX10_weight_21 hO
  · have hO := hO.2 h1
    refine r_iload_n hC 1 dX10_weight_4 rfl rfl ?_
    refine r_iconst hC 1 dX10_weight_5 (by decide) ?_
    refine r_icmp_le hC 13 dX10_weight_6 (by decide) (fun h2 => ?_) (fun h2 => ?_)
    · have hO := hO.1 h2
      refine r_aload_n hC 0 dX10_weight_13 rfl rfl ?_
      refine r_getR hC 44 fl10_53 ob10 rfl dX10_weight_14 ?_
      refine r_iload_n hC 1 dX10_weight_17 rfl rfl ?_
      refine r_callVi hC [.int p1] (T8_bestCounter  hO) yv8_bestCounter ml10_244 sh10_5 rfl ⟨Nat.le_of_ble_eq_true rfl, Nat.le_of_ble_eq_true rfl⟩ rfl rfl (Nat.le_of_ble_eq_true rfl) dX10_weight_18 (fun r3 μ4 hO => ?_)
      exact r_iret hC rfl dX10_weight_21 hO
    · have hO := hO.2 h2
      refine r_iconst hC (-1) dX10_weight_9 (by decide) ?_
      refine r_goto hC 21 dX10_weight_10 (by decide) ?_
      exact r_iret hC rfl dX10_weight_21 hO
set_option maxHeartbeats 4000000 in
set_option maxRecDepth 100000 in
theorem T10_spread {l : Launch} {G : mw_G} {p1 : Int32} {p2 : Int32} {p3 : Int32} {μ : mw_M} {Q : Int32 → mw_M → Prop}  (hO : P10_spread p1 p2 p3 μ Q) : mw_Mi l G kdX yX10_spread cX10_spread 4 (some .int) 4 112 [.ref (mw_a G 0), .int p1, .int p2, .int p3] μ (Q) := by
  refine mw_enter [(0, .ref (mw_a G 0)), (1, .int p1), (2, .int p2), (3, .int p3)] RX10 (by decide) rfl (Nat.le_of_ble_eq_true rfl) rfl ?_
  intro p e s m args below meth c hC
  unfold P10_spread at hO
  refine r_iload_n hC 1 dX10_spread_0 rfl rfl ?_
  refine r_iconst hC 1 dX10_spread_1 (by decide) ?_
  refine r_icmp_lt hC 20 dX10_spread_2 (by decide) (fun h1 => ?_) (fun h1 => ?_)
  · have hO := hO.1 h1
    refine r_iconst hC (-1) dX10_spread_20 (by decide) ?_
    refine r_goto hC 34 dX10_spread_21 (by decide) ?_
    exact r_iret hC rfl dX10_spread_34 hO
  · have hO := hO.2 h1
    refine r_iload_n hC 1 dX10_spread_5 rfl rfl ?_
    refine r_bipush hC 50 dX10_spread_6 (by decide) ?_
    refine r_icmp_gt hC 20 dX10_spread_8 (by decide) (fun h2 => ?_) (fun h2 => ?_)
    · have hO := hO.1 h2
      refine r_iconst hC (-1) dX10_spread_20 (by decide) ?_
      refine r_goto hC 34 dX10_spread_21 (by decide) ?_
      exact r_iret hC rfl dX10_spread_34 hO
    · have hO := hO.2 h2
      refine r_iload_n hC 3 dX10_spread_11 rfl rfl ?_
      refine r_if_lt hC 20 dX10_spread_12 (by decide) (fun h3 => ?_) (fun h3 => ?_)
      · have hO := hO.1 h3
        refine r_iconst hC (-1) dX10_spread_20 (by decide) ?_
        refine r_goto hC 34 dX10_spread_21 (by decide) ?_
        exact r_iret hC rfl dX10_spread_34 hO
      · have hO := hO.2 h3
        refine r_iload_n hC 3 dX10_spread_15 rfl rfl ?_
        refine r_iconst hC 2 dX10_spread_16 (by decide) ?_
        refine r_icmp_le hC 24 dX10_spread_17 (by decide) (fun h4 => ?_) (fun h4 => ?_)
        · have hO := hO.1 h4
          refine r_aload_n hC 0 dX10_spread_24 rfl rfl ?_
          refine r_getR hC 44 fl10_53 ob10 rfl dX10_spread_25 ?_
          refine r_iload_n hC 1 dX10_spread_28 rfl rfl ?_
          refine r_iload_n hC 2 dX10_spread_29 rfl rfl ?_
          refine r_iload_n hC 3 dX10_spread_30 rfl rfl ?_
          refine r_callVi hC [.int p1, .int p2, .int p3] (T8_spreadBest  hO) yv8_spreadBest ml10_247 sh10_5 rfl ⟨Nat.le_of_ble_eq_true rfl, Nat.le_of_ble_eq_true rfl⟩ rfl rfl (Nat.le_of_ble_eq_true rfl) dX10_spread_31 (fun r5 μ6 hO => ?_)
          exact r_iret hC rfl dX10_spread_34 hO
        · have hO := hO.2 h4
          refine r_iconst hC (-1) dX10_spread_20 (by decide) ?_
          refine r_goto hC 34 dX10_spread_21 (by decide) ?_
          exact r_iret hC rfl dX10_spread_34 hO
