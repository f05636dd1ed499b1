set_option maxHeartbeats 4000000 in
set_option maxRecDepth 100000 in
theorem T0_isKind {l : Launch} {G : mw_G} {p1 : Int32} {μ : mw_M} {QT : Prop} {QF : Prop}  (hO : P0_isKind p1 QT QF) : mw_Mi l G kdX yX0_isKind cX0_isKind 1 (some .boolean) 0 0 [.int p1] μ (mw_bq (mw_pv μ QT) (mw_pv μ QF)) := by
  refine mw_enter [(0, .int p1)] RX0 (by decide) rfl (Nat.le_of_ble_eq_true rfl) rfl ?_
  intro p e s m args below meth c hC
  unfold P0_isKind at hO
  refine r_iload_n hC 0 dX0_isKind_0 rfl rfl ?_
  refine r_if_lt hC 14 dX0_isKind_1 (by decide) (fun h1 => ?_) (fun h1 => ?_)
  · have hO := hO.1 h1
    refine r_iconst hC 0 dX0_isKind_14 (by decide) ?_
    exact r_zret hC rfl (by decide) dX0_isKind_15 (Or.inr ⟨rfl, hO, rfl⟩)
  · have hO := hO.2 h1
    refine r_iload_n hC 0 dX0_isKind_4 rfl rfl ?_
    refine r_bipush hC 8 dX0_isKind_5 (by decide) ?_
    refine r_icmp_ge hC 14 dX0_isKind_7 (by decide) (fun h2 => ?_) (fun h2 => ?_)
    · have hO := hO.1 h2
      refine r_iconst hC 0 dX0_isKind_14 (by decide) ?_
      exact r_zret hC rfl (by decide) dX0_isKind_15 (Or.inr ⟨rfl, hO, rfl⟩)
    · have hO := hO.2 h2
      refine r_iconst hC 1 dX0_isKind_10 (by decide) ?_
      refine r_goto hC 15 dX0_isKind_11 (by decide) ?_
      exact r_zret hC rfl (by decide) dX0_isKind_15 (Or.inl ⟨rfl, hO, rfl⟩)
set_option maxHeartbeats 4000000 in
set_option maxRecDepth 100000 in
theorem T0_isUnder {l : Launch} {G : mw_G} {p1 : Int32} {p2 : Int32} {μ : mw_M} {QT : Prop} {QF : Prop}  (hO : P0_isUnder p1 p2 QT QF) : mw_Mi l G kdX yX0_isUnder cX0_isUnder 4 (some .boolean) 1 20 [.int p1, .int p2] μ (mw_bq (mw_pv μ QT) (mw_pv μ QF)) := by
  refine mw_enter [(0, .int p1), (1, .int p2)] RX0 (by decide) rfl (Nat.le_of_ble_eq_true rfl) rfl ?_
  intro p e s m args below meth c hC
  unfold P0_isUnder at hO
  refine r_iload_n hC 0 dX0_isUnder_0 rfl rfl ?_
  refine r_istore_n hC [(2, .int p1), (0, .int p1), (1, .int p2)] dX0_isUnder_1 rfl (by decide) rfl ?_
  refine r_iconst hC 0 dX0_isUnder_2 (by decide) ?_
  refine r_istore_n hC [(3, .int 0), (2, .int p1), (0, .int p1), (1, .int p2)] dX0_isUnder_3 rfl (by decide) rfl ?_
  have hLn3 : ∀   (n3 : Nat) (v1 : Int32) (v2 : Int32), L0_isUnder_4 p1 p2 QT QF n3 v1 v2 → mw_W p l e (mw_rm 1 20) s m args below meth c G kdX 4 (MQ below (va_Qi (mw_bq (mw_pv μ QT) (mw_pv μ QF)) (mw_B G kdX) (mw_A G kdX)) args s 0 0 (mw_A G kdX)) 4 [(3, .int v1), (2, .int v2), (0, .int p1), (1, .int p2)] [] μ := by
    intro   n3
    induction n3 with
    | zero => intro v1 v2 hO; exact False.elim hO
    | succ n3 ihn3 =>
      intro v1 v2 hO
      refine r_iload_n hC 0 dX0_isUnder_4 rfl rfl ?_
      refine r_bipush hC 8 dX0_isUnder_5 (by decide) ?_
      refine r_icmp_ge hC 36 dX0_isUnder_7 (by decide) (fun h4 => ?_) (fun h4 => ?_)
      · have hO := hO.1 h4
        refine r_iconst hC 0 dX0_isUnder_36 (by decide) ?_
        exact r_zret hC rfl (by decide) dX0_isUnder_37 (Or.inr ⟨rfl, hO, rfl⟩)
      · have hO := hO.2 h4
        refine r_iload_n hC 1 dX0_isUnder_10 rfl rfl ?_
        refine r_callSi hC [.int v2] (T0_isKind  hO) yv0_isKind ml0_18 ⟨Nat.le_of_ble_eq_true rfl, Nat.le_of_ble_eq_true rfl⟩ rfl rfl (Nat.le_of_ble_eq_true rfl) dX0_isUnder_11 (fun r5 μ6 hO => ?_)
        rcases hO with ⟨hr, hO⟩ | ⟨hr, hO⟩
        · refine r_topEq hr ?_
          obtain ⟨hO, hm⟩ := hO
          refine r_memEq hm ?_
          refine r_if_eq hC 36 dX0_isUnder_14 (by decide) (fun h => absurd h (by decide)) (fun _ => ?_)
          refine r_iload_n hC 1 dX0_isUnder_17 rfl rfl ?_
          refine r_iload_n hC 3 dX0_isUnder_18 rfl rfl ?_
          refine r_icmp_ne hC 24 dX0_isUnder_19 (by decide) (fun h7 => ?_) (fun h7 => ?_)
          · have hO := hO.2 h7
            refine r_gets hC 2 (by decide) gs0_22 dX0_isUnder_24 ?_
            refine r_iload_n hC 1 dX0_isUnder_27 rfl rfl ?_
            obtain ⟨g8, hO⟩ := hO
            refine r_sald hC 2 (by decide) g8 v2.toNatClampNeg rfl dX0_isUnder_28 ?_
            refine r_nmI (fun x9 hx9 => ?_)
            have hO := hO x9 hx9
            refine r_istore_n hC [(2, .int x9), (3, .int v1), (0, .int p1), (1, .int p2)] dX0_isUnder_29 rfl (by decide) rfl ?_
            obtain ⟨x10, hx10⟩ : ∃ y : Int32, y = v1 + 1 := ⟨_, rfl⟩
            have hO := hO x10 hx10
            refine r_iinc hC x10 1 [(3, .int x10), (2, .int x9), (0, .int p1), (1, .int p2)] dX0_isUnder_30 rfl (by rw [hx10]; rfl) (by decide) rfl ?_
            refine r_goto hC 4 dX0_isUnder_33 (by decide) ?_
            refine r_lv hC [(3, .int x10), (2, .int x9), (0, .int p1), (1, .int p2)] [0, 1, 2, 3] rfl ?_
            exact ihn3 x10 x9 hO
          · have hO := hO.1 h7
            refine r_iconst hC 1 dX0_isUnder_22 (by decide) ?_
            exact r_zret hC rfl (by decide) dX0_isUnder_23 (Or.inl ⟨rfl, hO, rfl⟩)
        · refine r_topEq hr ?_
          obtain ⟨hO, hm⟩ := hO
          refine r_memEq hm ?_
          refine r_if_eq hC 36 dX0_isUnder_14 (by decide) (fun _ => ?_) (fun h => absurd (by decide) h)
          refine r_iconst hC 0 dX0_isUnder_36 (by decide) ?_
          exact r_zret hC rfl (by decide) dX0_isUnder_37 (Or.inr ⟨rfl, hO, rfl⟩)
  obtain ⟨n3, hO⟩ := hO
  refine hLn3   n3 _ _ hO
set_option maxHeartbeats 4000000 in
set_option maxRecDepth 100000 in
theorem T0_areFull {l : Launch} {G : mw_G}  {μ : mw_M} {QT : Prop} {QF : Prop}  (hO : P0_areFull μ QT QF) : mw_Mi l G kdX yX0_areFull cX0_areFull 1 (some .boolean) 0 0 [.ref (mw_a G 62)] μ (mw_bq (mw_pv μ QT) (mw_pv μ QF)) := by
  refine mw_enter [(0, .ref (mw_a G 62))] RX0 (by decide) rfl (Nat.le_of_ble_eq_true rfl) rfl ?_
  intro p e s m args below meth c hC
  unfold P0_areFull at hO
  refine r_aload_n hC 0 dX0_areFull_0 rfl rfl ?_
  refine r_getI hC fl0_25 ob0 rfl dX0_areFull_1 ?_
  refine r_bipush hC 50 dX0_areFull_4 (by decide) ?_
  refine r_icmp_lt hC 13 dX0_areFull_6 (by decide) (fun h1 => ?_) (fun h1 => ?_)
  · have hO := hO.1 h1
    refine r_iconst hC 0 dX0_areFull_13 (by decide) ?_
    exact r_zret hC rfl (by decide) dX0_areFull_14 (Or.inr ⟨rfl, hO, rfl⟩)
  · have hO := hO.2 h1
    refine r_iconst hC 1 dX0_areFull_9 (by decide) ?_
    refine r_goto hC 14 dX0_areFull_10 (by decide) ?_
    exact r_zret hC rfl (by decide) dX0_areFull_14 (Or.inl ⟨rfl, hO, rfl⟩)
set_option maxHeartbeats 4000000 in
set_option maxRecDepth 100000 in
theorem T0_hasLoad {l : Launch} {G : mw_G} {p1 : Int32} {μ : mw_M} {QT : Prop} {QF : Prop}  (hO : P0_hasLoad p1 μ QT QF) : mw_Mi l G kdX yX0_hasLoad cX0_hasLoad 2 (some .boolean) 0 0 [.ref (mw_a G 62), .int p1] μ (mw_bq (mw_pv μ QT) (mw_pv μ QF)) := by
  refine mw_enter [(0, .ref (mw_a G 62)), (1, .int p1)] RX0 (by decide) rfl (Nat.le_of_ble_eq_true rfl) rfl ?_
  intro p e s m args below meth c hC
  unfold P0_hasLoad at hO
  refine r_iload_n hC 1 dX0_hasLoad_0 rfl rfl ?_
  refine r_if_lt hC 16 dX0_hasLoad_1 (by decide) (fun h1 => ?_) (fun h1 => ?_)
  · have hO := hO.1 h1
    refine r_iconst hC 0 dX0_hasLoad_16 (by decide) ?_
    exact r_zret hC rfl (by decide) dX0_hasLoad_17 (Or.inr ⟨rfl, hO, rfl⟩)
  · have hO := hO.2 h1
    refine r_iload_n hC 1 dX0_hasLoad_4 rfl rfl ?_
    refine r_aload_n hC 0 dX0_hasLoad_5 rfl rfl ?_
    refine r_getI hC fl0_25 ob0 rfl dX0_hasLoad_6 ?_
    refine r_icmp_ge hC 16 dX0_hasLoad_9 (by decide) (fun h2 => ?_) (fun h2 => ?_)
    · have hO := hO.1 h2
      refine r_iconst hC 0 dX0_hasLoad_16 (by decide) ?_
      exact r_zret hC rfl (by decide) dX0_hasLoad_17 (Or.inr ⟨rfl, hO, rfl⟩)
    · have hO := hO.2 h2
      refine r_iconst hC 1 dX0_hasLoad_12 (by decide) ?_
      refine r_goto hC 17 dX0_hasLoad_13 (by decide) ?_
      exact r_zret hC rfl (by decide) dX0_hasLoad_17 (Or.inl ⟨rfl, hO, rfl⟩)
set_option maxHeartbeats 4000000 in
set_option maxRecDepth 100000 in
theorem T0_keepOne {l : Launch} {G : mw_G} {p1 : Int32} {μ : mw_M} {Q : Int32 → mw_M → Prop}  (hO : P0_keepOne p1 μ Q) : mw_Mi l G kdX yX0_keepOne cX0_keepOne 2 (some .int) 0 0 [.ref (mw_a G 62), .int p1] μ (Q) := by
  refine mw_enter [(0, .ref (mw_a G 62)), (1, .int p1)] RX0 (by decide) rfl (Nat.le_of_ble_eq_true rfl) rfl ?_
  intro p e s m args below meth c hC
  unfold P0_keepOne at hO
  refine r_aload_n hC 0 dX0_keepOne_0 rfl rfl ?_
  refine r_getI hC fl0_25 ob0 rfl dX0_keepOne_1 ?_
  refine r_bipush hC 50 dX0_keepOne_4 (by decide) ?_
  refine r_icmp_lt hC 12 dX0_keepOne_6 (by decide) (fun h1 => ?_) (fun h1 => ?_)
  · have hO := hO.1 h1
    refine r_aload_n hC 0 dX0_keepOne_12 rfl rfl ?_
    refine r_getR hC 63 fl0_11 ob0 rfl dX0_keepOne_13 ?_
    refine r_aload_n hC 0 dX0_keepOne_16 rfl rfl ?_
    refine r_getI hC fl0_25 ob0 rfl dX0_keepOne_17 ?_
    refine r_iload_n hC 1 dX0_keepOne_20 rfl rfl ?_
    obtain ⟨g2, hO⟩ := hO
    refine r_iast hC sh0_0 g2 ((μ.1 62 2).toNatClampNeg) rfl dX0_keepOne_21 ?_
    refine r_nmM (fun μ3 hμ3 => ?_)
    have hO := hO μ3 hμ3
    refine r_aload_n hC 0 dX0_keepOne_22 rfl rfl ?_
    refine r_dup hC dX0_keepOne_23 rfl ?_
    refine r_getI hC fl0_25 ob0 rfl dX0_keepOne_24 ?_
    refine r_iconst hC 1 dX0_keepOne_27 (by decide) ?_
    refine r_iadd hC dX0_keepOne_28 ?_
    refine r_putI hC fl0_25 ob0 rfl rfl rfl dX0_keepOne_29 ?_
    refine r_nmM (fun μ4 hμ4 => ?_)
    have hO := hO μ4 hμ4
    refine r_aload_n hC 0 dX0_keepOne_32 rfl rfl ?_
    refine r_getI hC fl0_25 ob0 rfl dX0_keepOne_33 ?_
    refine r_iconst hC 1 dX0_keepOne_36 (by decide) ?_
    refine r_isub hC dX0_keepOne_37 ?_
    exact r_iret hC rfl dX0_keepOne_38 hO
  · have hO := hO.2 h1
    refine r_bipush hC (-3) dX0_keepOne_9 (by decide) ?_
    exact r_iret hC rfl dX0_keepOne_11 hO
set_option maxHeartbeats 4000000 in
set_option maxRecDepth 100000 in
theorem T0_kindOf {l : Launch} {G : mw_G} {p1 : Int32} {μ : mw_M} {Q : Int32 → Prop}  (hO : P0_kindOf p1 μ Q) : mw_Mi l G kdX yX0_kindOf cX0_kindOf 2 (some .int) 1 21 [.ref (mw_a G 62), .int p1] μ (mw_pq μ Q) := by
  refine mw_enter [(0, .ref (mw_a G 62)), (1, .int p1)] RX0 (by decide) rfl (Nat.le_of_ble_eq_true rfl) rfl ?_
  intro p e s m args below meth c hC
  unfold P0_kindOf at hO
  refine r_aload_n hC 0 dX0_kindOf_0 rfl rfl ?_
  refine r_iload_n hC 1 dX0_kindOf_1 rfl rfl ?_
  refine r_callVi hC [.int p1] (T0_hasLoad  hO) yv0_hasLoad ml0_29 ob0 rfl ⟨Nat.le_of_ble_eq_true rfl, Nat.le_of_ble_eq_true rfl⟩ rfl rfl (Nat.le_of_ble_eq_true rfl) dX0_kindOf_2 (fun r1 μ2 hO => ?_)
  rcases hO with ⟨hr, hO⟩ | ⟨hr, hO⟩
  · refine r_topEq hr ?_
    obtain ⟨hO, hm⟩ := hO
    refine r_memEq hm ?_
    refine r_if_eq hC 17 dX0_kindOf_5 (by decide) (fun h => absurd h (by decide)) (fun _ => ?_)
    refine r_aload_n hC 0 dX0_kindOf_8 rfl rfl ?_
    refine r_getR hC 63 fl0_11 ob0 rfl dX0_kindOf_9 ?_
    refine r_iload_n hC 1 dX0_kindOf_12 rfl rfl ?_
    obtain ⟨g3, hO⟩ := hO
    refine r_iald hC sh0_0 g3 p1.toNatClampNeg rfl dX0_kindOf_13 ?_
    refine r_goto hC 18 dX0_kindOf_14 (by decide) ?_
    exact r_iret hC rfl dX0_kindOf_18 ⟨hO, rfl⟩
  · refine r_topEq hr ?_
    obtain ⟨hO, hm⟩ := hO
    refine r_memEq hm ?_
    refine r_if_eq hC 17 dX0_kindOf_5 (by decide) (fun _ => ?_) (fun h => absurd (by decide) h)
    refine r_iconst hC (-1) dX0_kindOf_17 (by decide) ?_
    exact r_iret hC rfl dX0_kindOf_18 ⟨hO, rfl⟩
set_option maxHeartbeats 4000000 in
set_option maxRecDepth 100000 in
theorem T0_traced {l : Launch} {G : mw_G}  {μ : mw_M} {Q : Int32 → Prop}  (hO : P0_traced μ Q) : mw_Mi l G kdX yX0_traced cX0_traced 1 (some .int) 1 40 [.ref (mw_a G 62)] μ (mw_pq μ Q) := by
  refine mw_enter [(0, .ref (mw_a G 62))] RX0 (by decide) rfl (Nat.le_of_ble_eq_true rfl) rfl ?_
  intro p e s m args below meth c hC
  unfold P0_traced at hO
  refine r_aload_n hC 0 dX0_traced_0 rfl rfl ?_
  refine r_getI hC fl0_32 ob0 rfl dX0_traced_1 ?_
  refine r_bipush hC 24 dX0_traced_4 (by decide) ?_
  refine r_min hC mm0_35 (Nat.le_of_ble_eq_true rfl) (Nat.le_of_ble_eq_true rfl) dX0_traced_6 ?_
  exact r_iret hC rfl dX0_traced_9 ⟨hO, rfl⟩
set_option maxHeartbeats 4000000 in
set_option maxRecDepth 100000 in
theorem T0_traceAt {l : Launch} {G : mw_G} {p1 : Int32} {μ : mw_M} {Q : Int32 → Prop}  (hO : P0_traceAt p1 μ Q) : mw_Mi l G kdX yX0_traceAt cX0_traceAt 2 (some .int) 0 0 [.ref (mw_a G 62), .int p1] μ (mw_pq μ Q) := by
  refine mw_enter [(0, .ref (mw_a G 62)), (1, .int p1)] RX0 (by decide) rfl (Nat.le_of_ble_eq_true rfl) rfl ?_
  intro p e s m args below meth c hC
  unfold P0_traceAt at hO
  refine r_iload_n hC 1 dX0_traceAt_0 rfl rfl ?_
  refine r_if_lt hC 19 dX0_traceAt_1 (by decide) (fun h1 => ?_) (fun h1 => ?_)
  · have hO := hO.1 h1
    refine r_iconst hC (-1) dX0_traceAt_19 (by decide) ?_
    exact r_iret hC rfl dX0_traceAt_20 ⟨hO, rfl⟩
  · have hO := hO.2 h1
    refine r_iload_n hC 1 dX0_traceAt_4 rfl rfl ?_
    refine r_bipush hC 24 dX0_traceAt_5 (by decide) ?_
    refine r_icmp_ge hC 19 dX0_traceAt_7 (by decide) (fun h2 => ?_) (fun h2 => ?_)
    · have hO := hO.1 h2
      refine r_iconst hC (-1) dX0_traceAt_19 (by decide) ?_
      exact r_iret hC rfl dX0_traceAt_20 ⟨hO, rfl⟩
    · have hO := hO.2 h2
      refine r_aload_n hC 0 dX0_traceAt_10 rfl rfl ?_
      refine r_getR hC 64 fl0_15 ob0 rfl dX0_traceAt_11 ?_
      refine r_iload_n hC 1 dX0_traceAt_14 rfl rfl ?_
      obtain ⟨g3, hO⟩ := hO
      refine r_iald hC sh0_1 g3 p1.toNatClampNeg rfl dX0_traceAt_15 ?_
      refine r_goto hC 20 dX0_traceAt_16 (by decide) ?_
      exact r_iret hC rfl dX0_traceAt_20 ⟨hO, rfl⟩
set_option maxHeartbeats 4000000 in
set_option maxRecDepth 100000 in
theorem T0_bodyOf {l : Launch} {G : mw_G} {p1 : Int32} {p2 : Int32} {μ : mw_M} {Q : Int32 → Prop}  (hO : P0_bodyOf p1 p2 Q) : mw_Mi l G kdX yX0_bodyOf cX0_bodyOf 2 (some .int) 1 20 [.int p1, .int p2] μ (mw_pq μ Q) := by
  refine mw_enter [(0, .int p1), (1, .int p2)] RX0 (by decide) rfl (Nat.le_of_ble_eq_true rfl) rfl ?_
  intro p e s m args below meth c hC
  unfold P0_bodyOf at hO
  refine r_iload_n hC 0 dX0_bodyOf_0 rfl rfl ?_
  refine r_callSi hC [.int p1] (T0_isKind  hO) yv0_isKind ml0_18 ⟨Nat.le_of_ble_eq_true rfl, Nat.le_of_ble_eq_true rfl⟩ rfl rfl (Nat.le_of_ble_eq_true rfl) dX0_bodyOf_1 (fun r1 μ2 hO => ?_)
  rcases hO with ⟨hr, hO⟩ | ⟨hr, hO⟩
  · refine r_topEq hr ?_
    obtain ⟨hO, hm⟩ := hO
    refine r_memEq hm ?_
    refine r_if_eq hC 28 dX0_bodyOf_4 (by decide) (fun h => absurd h (by decide)) (fun _ => ?_)
    refine r_iload_n hC 1 dX0_bodyOf_7 rfl rfl ?_
    refine r_if_lt hC 28 dX0_bodyOf_8 (by decide) (fun h3 => ?_) (fun h3 => ?_)
    · have hO := hO.1 h3
      refine r_iconst hC 0 dX0_bodyOf_28 (by decide) ?_
      exact r_iret hC rfl dX0_bodyOf_29 ⟨hO, rfl⟩
    · have hO := hO.2 h3
      refine r_iload_n hC 1 dX0_bodyOf_11 rfl rfl ?_
      refine r_iconst hC 4 dX0_bodyOf_12 (by decide) ?_
      refine r_icmp_ge hC 28 dX0_bodyOf_13 (by decide) (fun h4 => ?_) (fun h4 => ?_)
      · have hO := hO.1 h4
        refine r_iconst hC 0 dX0_bodyOf_28 (by decide) ?_
        exact r_iret hC rfl dX0_bodyOf_29 ⟨hO, rfl⟩
      · have hO := hO.2 h4
        refine r_gets hC 3 (by decide) gs0_51 dX0_bodyOf_16 ?_
        refine r_iload_n hC 0 dX0_bodyOf_19 rfl rfl ?_
        refine r_iconst hC 4 dX0_bodyOf_20 (by decide) ?_
        refine r_imul hC dX0_bodyOf_21 ?_
        refine r_iload_n hC 1 dX0_bodyOf_22 rfl rfl ?_
        refine r_iadd hC dX0_bodyOf_23 ?_
        obtain ⟨g5, hO⟩ := hO
        refine r_sald hC 3 (by decide) g5 (((p1 * 4) + p2).toNatClampNeg) rfl dX0_bodyOf_24 ?_
        refine r_goto hC 29 dX0_bodyOf_25 (by decide) ?_
        exact r_iret hC rfl dX0_bodyOf_29 ⟨hO, rfl⟩
  · refine r_topEq hr ?_
    obtain ⟨hO, hm⟩ := hO
    refine r_memEq hm ?_
    refine r_if_eq hC 28 dX0_bodyOf_4 (by decide) (fun _ => ?_) (fun h => absurd (by decide) h)
    refine r_iconst hC 0 dX0_bodyOf_28 (by decide) ?_
    exact r_iret hC rfl dX0_bodyOf_29 ⟨hO, rfl⟩
set_option maxHeartbeats 4000000 in
set_option maxRecDepth 100000 in
theorem T0_acted_s {l : Launch} {G : mw_G} {fr lo : Nat} (hfr : 2 ≤ fr) (hlo : 41 ≤ lo) {c2 : Int32 → Int32 → Int32 → Int32 → mw_M → (Int32 → mw_M → Prop) → Prop} (hc2 : ∀ (p1 : Int32) (p2 : Int32) (p3 : Int32) (p4 : Int32) (μ : mw_M) (Q : Int32 → mw_M → Prop), c2 p1 p2 p3 p4 μ Q → mw_Mi l G kdX yX0_worked cX0_worked 5 (some .int) fr lo [.ref (mw_a G 62), .int p1, .int p2, .int p3, .int p4] μ (Q)) {p1 : Int32} {p2 : Int32} {p3 : Int32} {p4 : Int32} {μ : mw_M} {Q : Int32 → mw_M → Prop}  (hO : S0_acted c2 p1 p2 p3 p4 μ Q) : mw_Mi l G kdX yX0_acted cX0_acted 7 (some .int) (fr + 1) (lo + 26) [.ref (mw_a G 62), .int p1, .int p2, .int p3, .int p4] μ (Q) := by
  refine mw_enter [(0, .ref (mw_a G 62)), (1, .int p1), (2, .int p2), (3, .int p3), (4, .int p4)] RX0 (by decide) rfl (Nat.le_of_ble_eq_true rfl) rfl ?_
  intro p e s m args below meth c hC
  unfold S0_acted at hO
  refine r_iload_n hC 1 dX0_acted_0 rfl rfl ?_
  refine r_istore hC [(5, .int p1), (0, .ref (mw_a G 62)), (1, .int p1), (2, .int p2), (3, .int p3), (4, .int p4)] dX0_acted_1 (by decide) rfl ?_
  refine r_iconst hC 0 dX0_acted_3 (by decide) ?_
  refine r_istore hC [(6, .int 0), (5, .int p1), (0, .ref (mw_a G 62)), (1, .int p1), (2, .int p2), (3, .int p3), (4, .int p4)] dX0_acted_4 (by decide) rfl ?_
  have hLn3 : ∀  (K1 : Int32 → Int32 → Prop) (hK1 : ∀ (v1 : Int32) (v2 : Int32), K1 v1 v2 → mw_W p l e (mw_rm (fr + 1) (lo + 26)) s m args below meth c G kdX 7 (MQ below (va_Qi (Q) (mw_B G kdX) (mw_A G kdX)) args s 0 0 (mw_A G kdX)) 44 [(6, .int v1), (5, .int v2), (0, .ref (mw_a G 62)), (1, .int p1), (2, .int p2), (3, .int p3), (4, .int p4)] [] μ) (n3 : Nat) (v1 : Int32) (v2 : Int32), L0_acted_6 c2 p1 p2 p3 p4 μ Q K1 n3 v1 v2 → mw_W p l e (mw_rm (fr + 1) (lo + 26)) s m args below meth c G kdX 7 (MQ below (va_Qi (Q) (mw_B G kdX) (mw_A G kdX)) args s 0 0 (mw_A G kdX)) 6 [(6, .int v1), (5, .int v2), (0, .ref (mw_a G 62)), (1, .int p1), (2, .int p2), (3, .int p3), (4, .int p4)] [] μ := by
    intro  K1 hK1 n3
    induction n3 with
    | zero => intro v1 v2 hO; exact False.elim hO
    | succ n3 ihn3 =>
      intro v1 v2 hO
      refine r_iload hC 0 dX0_acted_6 rfl ?_
      refine r_bipush hC 8 dX0_acted_8 (by decide) ?_
      refine r_icmp_ge hC 44 dX0_acted_10 (by decide) (fun h4 => ?_) (fun h4 => ?_)
      · have hO := hO.1 h4
        refine r_lv hC [(6, .int v1), (5, .int v2), (0, .ref (mw_a G 62)), (1, .int p1), (2, .int p2), (3, .int p3), (4, .int p4)] [0, 1, 2, 3, 4, 5, 6] rfl ?_
        exact hK1 v1 v2 hO
      · have hO := hO.2 h4
        refine r_iload hC 1 dX0_acted_13 rfl ?_
        refine r_callSi hC [.int v2] (T0_isKind  hO) yv0_isKind ml0_18 (by constructor <;> (simp only [mw_rm]; omega)) rfl rfl (Nat.le_of_ble_eq_true rfl) dX0_acted_15 (fun r5 μ6 hO => ?_)
        rcases hO with ⟨hr, hO⟩ | ⟨hr, hO⟩
        · refine r_topEq hr ?_
          obtain ⟨hO, hm⟩ := hO
          refine r_memEq hm ?_
          refine r_if_eq hC 44 dX0_acted_18 (by decide) (fun h => absurd h (by decide)) (fun _ => ?_)
          refine r_iload hC 1 dX0_acted_21 rfl ?_
          refine r_iload_n hC 4 dX0_acted_23 rfl rfl ?_
          refine r_callSi hC [.int v2, .int p2] (T0_bodyOf  hO) yv0_bodyOf ml0_54 (by constructor <;> (simp only [mw_rm]; omega)) rfl rfl (Nat.le_of_ble_eq_true rfl) dX0_acted_24 (fun r7 μ8 hO => ?_)
          obtain ⟨hO, hm⟩ := hO
          refine r_memEq hm ?_
          refine r_if_ne hC 44 dX0_acted_27 (by decide) (fun h9 => ?_) (fun h9 => ?_)
          · have hO := hO.2 h9
            refine r_lv hC [(6, .int v1), (5, .int v2), (0, .ref (mw_a G 62)), (1, .int p1), (2, .int p2), (3, .int p3), (4, .int p4)] [0, 1, 2, 3, 4, 5, 6] rfl ?_
            exact hK1 v1 v2 hO
          · have hO := hO.1 h9
            refine r_gets hC 2 (by decide) gs0_22 dX0_acted_30 ?_
            refine r_iload hC 1 dX0_acted_33 rfl ?_
            obtain ⟨g10, hO⟩ := hO
            refine r_sald hC 2 (by decide) g10 v2.toNatClampNeg rfl dX0_acted_35 ?_
            refine r_nmI (fun x11 hx11 => ?_)
            have hO := hO x11 hx11
            refine r_istore hC [(5, .int x11), (6, .int v1), (0, .ref (mw_a G 62)), (1, .int p1), (2, .int p2), (3, .int p3), (4, .int p4)] dX0_acted_36 (by decide) rfl ?_
            obtain ⟨x12, hx12⟩ : ∃ y : Int32, y = v1 + 1 := ⟨_, rfl⟩
            have hO := hO x12 hx12
            refine r_iinc hC x12 1 [(6, .int x12), (5, .int x11), (0, .ref (mw_a G 62)), (1, .int p1), (2, .int p2), (3, .int p3), (4, .int p4)] dX0_acted_38 rfl (by rw [hx12]; rfl) (by decide) rfl ?_
            refine r_goto hC 6 dX0_acted_41 (by decide) ?_
            refine r_lv hC [(6, .int x12), (5, .int x11), (0, .ref (mw_a G 62)), (1, .int p1), (2, .int p2), (3, .int p3), (4, .int p4)] [0, 1, 2, 3, 4, 5, 6] rfl ?_
            exact ihn3 x12 x11 hO
        · refine r_topEq hr ?_
          obtain ⟨hO, hm⟩ := hO
          refine r_memEq hm ?_
          refine r_if_eq hC 44 dX0_acted_18 (by decide) (fun _ => ?_) (fun h => absurd (by decide) h)
          refine r_lv hC [(6, .int v1), (5, .int v2), (0, .ref (mw_a G 62)), (1, .int p1), (2, .int p2), (3, .int p3), (4, .int p4)] [0, 1, 2, 3, 4, 5, 6] rfl ?_
          exact hK1 v1 v2 hO
  obtain ⟨n3, hO⟩ := hO
  refine hLn3  _ (fun v1 v2 hO => ?_) n3 _ _ hO
  refine r_iload hC 1 dX0_acted_44 rfl ?_
  refine r_callSi hC [.int v2] (T0_isKind  hO) yv0_isKind ml0_18 (by constructor <;> (simp only [mw_rm]; omega)) rfl rfl (Nat.le_of_ble_eq_true rfl) dX0_acted_46 (fun r13 μ14 hO => ?_)
  rcases hO with ⟨hr, hO⟩ | ⟨hr, hO⟩
  · refine r_topEq hr ?_
    obtain ⟨hO, hm⟩ := hO
    refine r_memEq hm ?_
    refine r_if_eq hC 59 dX0_acted_49 (by decide) (fun h => absurd h (by decide)) (fun _ => ?_)
    refine r_iload hC 6 dX0_acted_52 rfl ?_
    refine r_bipush hC 20 dX0_acted_54 (by decide) ?_
    refine r_icmp_le hC 61 dX0_acted_56 (by decide) (fun h15 => ?_) (fun h15 => ?_)
    · have hO := hO.1 h15
      refine r_aload_n hC 2 dX0_acted_61 rfl rfl ?_
      refine r_getI hC fl0_32 ob0 rfl dX0_acted_62 ?_
      refine r_bipush hC 24 dX0_acted_65 (by decide) ?_
      refine r_icmp_ge hC 85 dX0_acted_67 (by decide) (fun h16 => ?_) (fun h16 => ?_)
      · have hO := hO.1 h16
        refine r_aload_n hC 2 dX0_acted_85 rfl rfl ?_
        refine r_dup hC dX0_acted_86 rfl ?_
        refine r_getI hC fl0_32 ob0 rfl dX0_acted_87 ?_
        refine r_iconst hC 1 dX0_acted_90 (by decide) ?_
        refine r_iadd hC dX0_acted_91 ?_
        refine r_putI hC fl0_32 ob0 rfl rfl rfl dX0_acted_92 ?_
        refine r_nmM (fun μ17 hμ17 => ?_)
        have hO := hO μ17 hμ17
        refine r_aload_n hC 2 dX0_acted_95 rfl rfl ?_
        refine r_iload hC 1 dX0_acted_96 rfl ?_
        refine r_iload_n hC 4 dX0_acted_98 rfl rfl ?_
        refine r_callSi hC [.int v2, .int p2] (T0_bodyOf  hO) yv0_bodyOf ml0_54 (by constructor <;> (simp only [mw_rm]; omega)) rfl rfl (Nat.le_of_ble_eq_true rfl) dX0_acted_99 (fun r18 μ19 hO => ?_)
        obtain ⟨hO, hm⟩ := hO
        refine r_memEq hm ?_
        refine r_gets hC 2 (by decide) gs0_22 dX0_acted_102 ?_
        refine r_iload hC 1 dX0_acted_105 rfl ?_
        obtain ⟨g20, hO⟩ := hO
        refine r_sald hC 2 (by decide) g20 v2.toNatClampNeg rfl dX0_acted_107 ?_
        refine r_iload_n hC 5 dX0_acted_108 rfl rfl ?_
        refine r_iload hC 6 dX0_acted_109 rfl ?_
        refine r_iconst hC 1 dX0_acted_111 (by decide) ?_
        refine r_iadd hC dX0_acted_112 ?_
        refine r_callVi hC [.int r18, .int (mw_sv 2 v2.toNatClampNeg), .int p3, .int (p4 + 1)] (hc2 _ _ _ _ _ _ hO) yv0_worked ml0_57 ob0 rfl (by constructor <;> (simp only [mw_rm]; omega)) rfl rfl (Nat.le_of_ble_eq_true rfl) dX0_acted_113 (fun r21 μ22 hO => ?_)
        exact r_iret hC rfl dX0_acted_116 hO
      · have hO := hO.2 h16
        refine r_aload_n hC 2 dX0_acted_70 rfl rfl ?_
        refine r_getR hC 64 fl0_15 ob0 rfl dX0_acted_71 ?_
        refine r_aload_n hC 2 dX0_acted_74 rfl rfl ?_
        refine r_getI hC fl0_32 ob0 rfl dX0_acted_75 ?_
        refine r_iload hC 1 dX0_acted_78 rfl ?_
        refine r_iload_n hC 4 dX0_acted_80 rfl rfl ?_
        refine r_callSi hC [.int v2, .int p2] (T0_bodyOf  hO) yv0_bodyOf ml0_54 (by constructor <;> (simp only [mw_rm]; omega)) rfl rfl (Nat.le_of_ble_eq_true rfl) dX0_acted_81 (fun r23 μ24 hO => ?_)
        obtain ⟨hO, hm⟩ := hO
        refine r_memEq hm ?_
        obtain ⟨g25, hO⟩ := hO
        refine r_iast hC sh0_1 g25 ((μ.1 62 3).toNatClampNeg) rfl dX0_acted_84 ?_
        refine r_nmM (fun μ26 hμ26 => ?_)
        have hO := hO μ26 hμ26
        refine r_aload_n hC 2 dX0_acted_85 rfl rfl ?_
        refine r_dup hC dX0_acted_86 rfl ?_
        refine r_getI hC fl0_32 ob0 rfl dX0_acted_87 ?_
        refine r_iconst hC 1 dX0_acted_90 (by decide) ?_
        refine r_iadd hC dX0_acted_91 ?_
        refine r_putI hC fl0_32 ob0 rfl rfl rfl dX0_acted_92 ?_
        refine r_nmM (fun μ27 hμ27 => ?_)
        have hO := hO μ27 hμ27
        refine r_aload_n hC 2 dX0_acted_95 rfl rfl ?_
        refine r_iload hC 1 dX0_acted_96 rfl ?_
        refine r_iload_n hC 4 dX0_acted_98 rfl rfl ?_
        refine r_callSi hC [.int v2, .int p2] (T0_bodyOf  hO) yv0_bodyOf ml0_54 (by constructor <;> (simp only [mw_rm]; omega)) rfl rfl (Nat.le_of_ble_eq_true rfl) dX0_acted_99 (fun r28 μ29 hO => ?_)
        obtain ⟨hO, hm⟩ := hO
        refine r_memEq hm ?_
        refine r_gets hC 2 (by decide) gs0_22 dX0_acted_102 ?_
        refine r_iload hC 1 dX0_acted_105 rfl ?_
        obtain ⟨g30, hO⟩ := hO
        refine r_sald hC 2 (by decide) g30 v2.toNatClampNeg rfl dX0_acted_107 ?_
        refine r_iload_n hC 5 dX0_acted_108 rfl rfl ?_
        refine r_iload hC 6 dX0_acted_109 rfl ?_
        refine r_iconst hC 1 dX0_acted_111 (by decide) ?_
        refine r_iadd hC dX0_acted_112 ?_
        refine r_callVi hC [.int r28, .int (mw_sv 2 v2.toNatClampNeg), .int p3, .int (p4 + 1)] (hc2 _ _ _ _ _ _ hO) yv0_worked ml0_57 ob0 rfl (by constructor <;> (simp only [mw_rm]; omega)) rfl rfl (Nat.le_of_ble_eq_true rfl) dX0_acted_113 (fun r31 μ32 hO => ?_)
        exact r_iret hC rfl dX0_acted_116 hO
    · have hO := hO.2 h15
      refine r_iconst hC 0 dX0_acted_59 (by decide) ?_
      exact r_iret hC rfl dX0_acted_60 hO
  · refine r_topEq hr ?_
    obtain ⟨hO, hm⟩ := hO
    refine r_memEq hm ?_
    refine r_if_eq hC 59 dX0_acted_49 (by decide) (fun _ => ?_) (fun h => absurd (by decide) h)
    refine r_iconst hC 0 dX0_acted_59 (by decide) ?_
    exact r_iret hC rfl dX0_acted_60 hO
set_option maxHeartbeats 4000000 in
set_option maxRecDepth 100000 in
theorem T0_worked_s {l : Launch} {G : mw_G} {fr lo : Nat} (hfr : 2 ≤ fr) (hlo : 41 ≤ lo) {c1 : Int32 → Int32 → Int32 → Int32 → mw_M → (Int32 → mw_M → Prop) → Prop} (hc1 : ∀ (p1 : Int32) (p2 : Int32) (p3 : Int32) (p4 : Int32) (μ : mw_M) (Q : Int32 → mw_M → Prop), c1 p1 p2 p3 p4 μ Q → mw_Mi l G kdX yX0_acted cX0_acted 7 (some .int) fr lo [.ref (mw_a G 62), .int p1, .int p2, .int p3, .int p4] μ (Q)) {p1 : Int32} {p2 : Int32} {p3 : Int32} {p4 : Int32} {μ : mw_M} {Q : Int32 → mw_M → Prop}  (hO : S0_worked c1 p1 p2 p3 p4 μ Q) : mw_Mi l G kdX yX0_worked cX0_worked 5 (some .int) (fr + 1) (lo + 26) [.ref (mw_a G 62), .int p1, .int p2, .int p3, .int p4] μ (Q) := by
  refine mw_enter [(0, .ref (mw_a G 62)), (1, .int p1), (2, .int p2), (3, .int p3), (4, .int p4)] RX0 (by decide) rfl (Nat.le_of_ble_eq_true rfl) rfl ?_
  intro p e s m args below meth c hC
  unfold S0_worked at hO
  refine r_iload_n hC 1 dX0_worked_0 rfl rfl ?_
  by_cases h1 : p1 = 1
  · have hO := hO.1 h1
    refine r_lsw hC 116 dX0_worked_1 (by decide) (by rw [h1] <;> rfl) (by decide) ?_
    refine r_iload_n hC 3 dX0_worked_116 rfl rfl ?_
    refine r_aload_n hC 0 dX0_worked_117 rfl rfl ?_
    refine r_getI hC fl0_41 ob0 rfl dX0_worked_118 ?_
    refine r_iadd hC dX0_worked_121 ?_
    exact r_iret hC rfl dX0_worked_122 hO
  by_cases h2 : p1 = 2
  · have hO := hO.2.1 h2
    refine r_lsw hC 123 dX0_worked_1 (by decide) (by rw [h2] <;> rfl) (by decide) ?_
    refine r_aload_n hC 0 dX0_worked_123 rfl rfl ?_
    refine r_aload_n hC 0 dX0_worked_124 rfl rfl ?_
    refine r_getI hC fl0_44 ob0 rfl dX0_worked_125 ?_
    refine r_iconst hC 1 dX0_worked_128 (by decide) ?_
    refine r_iload_n hC 3 dX0_worked_129 rfl rfl ?_
    refine r_iload hC 4 dX0_worked_130 rfl ?_
    refine r_callVi hC [.int (μ.1 62 5), .int 1, .int p3, .int p4] (hc1 _ _ _ _ _ _ hO) yv0_acted ml0_47 ob0 rfl (by constructor <;> (simp only [mw_rm]; omega)) rfl rfl (Nat.le_of_ble_eq_true rfl) dX0_worked_132 (fun r3 μ4 hO => ?_)
    refine r_aload_n hC 0 dX0_worked_135 rfl rfl ?_
    refine r_aload_n hC 0 dX0_worked_136 rfl rfl ?_
    refine r_getI hC fl0_44 ob0 rfl dX0_worked_137 ?_
    refine r_iconst hC 2 dX0_worked_140 (by decide) ?_
    refine r_iconst hC 1 dX0_worked_141 (by decide) ?_
    refine r_iload hC 4 dX0_worked_142 rfl ?_
    refine r_callVi hC [.int (μ4.1 62 5), .int 2, .int 1, .int p4] (hc1 _ _ _ _ _ _ hO) yv0_acted ml0_47 ob0 rfl (by constructor <;> (simp only [mw_rm]; omega)) rfl rfl (Nat.le_of_ble_eq_true rfl) dX0_worked_144 (fun r5 μ6 hO => ?_)
    refine r_isub hC dX0_worked_147 ?_
    exact r_iret hC rfl dX0_worked_148 hO
  by_cases h7 : p1 = 10
  · have hO := hO.2.2.1 h7
    refine r_lsw hC 149 dX0_worked_1 (by decide) (by rw [h7] <;> rfl) (by decide) ?_
    refine r_aload_n hC 0 dX0_worked_149 rfl rfl ?_
    refine r_aload_n hC 0 dX0_worked_150 rfl rfl ?_
    refine r_getI hC fl0_44 ob0 rfl dX0_worked_151 ?_
    refine r_iconst hC 0 dX0_worked_154 (by decide) ?_
    refine r_iload_n hC 3 dX0_worked_155 rfl rfl ?_
    refine r_iload hC 4 dX0_worked_156 rfl ?_
    refine r_callVi hC [.int (μ.1 62 5), .int 0, .int p3, .int p4] (hc1 _ _ _ _ _ _ hO) yv0_acted ml0_47 ob0 rfl (by constructor <;> (simp only [mw_rm]; omega)) rfl rfl (Nat.le_of_ble_eq_true rfl) dX0_worked_158 (fun r8 μ9 hO => ?_)
    refine r_iconst hC 2 dX0_worked_161 (by decide) ?_
    refine r_imul hC dX0_worked_162 ?_
    exact r_iret hC rfl dX0_worked_163 hO
  by_cases h10 : p1 = 11
  · have hO := hO.2.2.2.1 h10
    refine r_lsw hC 164 dX0_worked_1 (by decide) (by rw [h10] <;> rfl) (by decide) ?_
    refine r_iload_n hC 3 dX0_worked_164 rfl rfl ?_
    refine r_aload_n hC 0 dX0_worked_165 rfl rfl ?_
    refine r_getI hC fl0_41 ob0 rfl dX0_worked_166 ?_
    refine r_ixor hC dX0_worked_169 ?_
    exact r_iret hC rfl dX0_worked_170 hO
  by_cases h11 : p1 = 20
  · have hO := hO.2.2.2.2.1 h11
    refine r_lsw hC 171 dX0_worked_1 (by decide) (by rw [h11] <;> rfl) (by decide) ?_
    refine r_aload_n hC 0 dX0_worked_171 rfl rfl ?_
    refine r_iload_n hC 2 dX0_worked_172 rfl rfl ?_
    refine r_iconst hC 0 dX0_worked_173 (by decide) ?_
    refine r_iload_n hC 3 dX0_worked_174 rfl rfl ?_
    refine r_iload hC 4 dX0_worked_175 rfl ?_
    refine r_callVi hC [.int p2, .int 0, .int p3, .int p4] (hc1 _ _ _ _ _ _ hO) yv0_acted ml0_47 ob0 rfl (by constructor <;> (simp only [mw_rm]; omega)) rfl rfl (Nat.le_of_ble_eq_true rfl) dX0_worked_177 (fun r12 μ13 hO => ?_)
    refine r_iconst hC 3 dX0_worked_180 (by decide) ?_
    refine r_iadd hC dX0_worked_181 ?_
    exact r_iret hC rfl dX0_worked_182 hO
  by_cases h14 : p1 = 30
  · have hO := hO.2.2.2.2.2.1 h14
    refine r_lsw hC 183 dX0_worked_1 (by decide) (by rw [h14] <;> rfl) (by decide) ?_
    refine r_aload_n hC 0 dX0_worked_183 rfl rfl ?_
    refine r_iload_n hC 2 dX0_worked_184 rfl rfl ?_
    refine r_iconst hC 1 dX0_worked_185 (by decide) ?_
    refine r_iload_n hC 3 dX0_worked_186 rfl rfl ?_
    refine r_iload hC 4 dX0_worked_187 rfl ?_
    refine r_callVi hC [.int p2, .int 1, .int p3, .int p4] (hc1 _ _ _ _ _ _ hO) yv0_acted ml0_47 ob0 rfl (by constructor <;> (simp only [mw_rm]; omega)) rfl rfl (Nat.le_of_ble_eq_true rfl) dX0_worked_189 (fun r15 μ16 hO => ?_)
    refine r_ineg hC dX0_worked_192 ?_
    exact r_iret hC rfl dX0_worked_193 hO
  by_cases h17 : p1 = 40
  · have hO := hO.2.2.2.2.2.2.1 h17
    refine r_lsw hC 194 dX0_worked_1 (by decide) (by rw [h17] <;> rfl) (by decide) ?_
    refine r_aload_n hC 0 dX0_worked_194 rfl rfl ?_
    refine r_iload_n hC 2 dX0_worked_195 rfl rfl ?_
    refine r_iconst hC 2 dX0_worked_196 (by decide) ?_
    refine r_iload_n hC 3 dX0_worked_197 rfl rfl ?_
    refine r_iload hC 4 dX0_worked_198 rfl ?_
    refine r_callVi hC [.int p2, .int 2, .int p3, .int p4] (hc1 _ _ _ _ _ _ hO) yv0_acted ml0_47 ob0 rfl (by constructor <;> (simp only [mw_rm]; omega)) rfl rfl (Nat.le_of_ble_eq_true rfl) dX0_worked_200 (fun r18 μ19 hO => ?_)
    refine r_iconst hC 3 dX0_worked_203 (by decide) ?_
    refine r_imul hC dX0_worked_204 ?_
    exact r_iret hC rfl dX0_worked_205 hO
  by_cases h20 : p1 = 41
  · have hO := hO.2.2.2.2.2.2.2.1 h20
    refine r_lsw hC 206 dX0_worked_1 (by decide) (by rw [h20] <;> rfl) (by decide) ?_
    refine r_aload_n hC 0 dX0_worked_206 rfl rfl ?_
    refine r_iload_n hC 2 dX0_worked_207 rfl rfl ?_
    refine r_iconst hC 1 dX0_worked_208 (by decide) ?_
    refine r_iload_n hC 3 dX0_worked_209 rfl rfl ?_
    refine r_iconst hC 1 dX0_worked_210 (by decide) ?_
    refine r_iadd hC dX0_worked_211 ?_
    refine r_iload hC 4 dX0_worked_212 rfl ?_
    refine r_callVi hC [.int p2, .int 1, .int (p3 + 1), .int p4] (hc1 _ _ _ _ _ _ hO) yv0_acted ml0_47 ob0 rfl (by constructor <;> (simp only [mw_rm]; omega)) rfl rfl (Nat.le_of_ble_eq_true rfl) dX0_worked_214 (fun r21 μ22 hO => ?_)
    exact r_iret hC rfl dX0_worked_217 hO
  by_cases h23 : p1 = 50
  · have hO := hO.2.2.2.2.2.2.2.2.1 h23
    refine r_lsw hC 218 dX0_worked_1 (by decide) (by rw [h23] <;> rfl) (by decide) ?_
    refine r_aload_n hC 0 dX0_worked_218 rfl rfl ?_
    refine r_iload_n hC 2 dX0_worked_219 rfl rfl ?_
    refine r_iconst hC 2 dX0_worked_220 (by decide) ?_
    refine r_iload_n hC 3 dX0_worked_221 rfl rfl ?_
    refine r_iload hC 4 dX0_worked_222 rfl ?_
    refine r_callVi hC [.int p2, .int 2, .int p3, .int p4] (hc1 _ _ _ _ _ _ hO) yv0_acted ml0_47 ob0 rfl (by constructor <;> (simp only [mw_rm]; omega)) rfl rfl (Nat.le_of_ble_eq_true rfl) dX0_worked_224 (fun r24 μ25 hO => ?_)
    refine r_aload_n hC 0 dX0_worked_227 rfl rfl ?_
    refine r_aload_n hC 0 dX0_worked_228 rfl rfl ?_
    refine r_getI hC fl0_44 ob0 rfl dX0_worked_229 ?_
    refine r_iconst hC 0 dX0_worked_232 (by decide) ?_
    refine r_iconst hC 2 dX0_worked_233 (by decide) ?_
    refine r_iload hC 4 dX0_worked_234 rfl ?_
    refine r_callVi hC [.int (μ25.1 62 5), .int 0, .int 2, .int p4] (hc1 _ _ _ _ _ _ hO) yv0_acted ml0_47 ob0 rfl (by constructor <;> (simp only [mw_rm]; omega)) rfl rfl (Nat.le_of_ble_eq_true rfl) dX0_worked_236 (fun r26 μ27 hO => ?_)
    refine r_isub hC dX0_worked_239 ?_
    exact r_iret hC rfl dX0_worked_240 hO
  by_cases h28 : p1 = 60
  · have hO := hO.2.2.2.2.2.2.2.2.2.1 h28
    refine r_lsw hC 241 dX0_worked_1 (by decide) (by rw [h28] <;> rfl) (by decide) ?_
    refine r_aload_n hC 0 dX0_worked_241 rfl rfl ?_
    refine r_iload_n hC 2 dX0_worked_242 rfl rfl ?_
    refine r_iconst hC 3 dX0_worked_243 (by decide) ?_
    refine r_iload_n hC 3 dX0_worked_244 rfl rfl ?_
    refine r_iload hC 4 dX0_worked_245 rfl ?_
    refine r_callVi hC [.int p2, .int 3, .int p3, .int p4] (hc1 _ _ _ _ _ _ hO) yv0_acted ml0_47 ob0 rfl (by constructor <;> (simp only [mw_rm]; omega)) rfl rfl (Nat.le_of_ble_eq_true rfl) dX0_worked_247 (fun r29 μ30 hO => ?_)
    refine r_iconst hC 5 dX0_worked_250 (by decide) ?_
    refine r_ixor hC dX0_worked_251 ?_
    exact r_iret hC rfl dX0_worked_252 hO
  by_cases h31 : p1 = 70
  · have hO := hO.2.2.2.2.2.2.2.2.2.2.1 h31
    refine r_lsw hC 253 dX0_worked_1 (by decide) (by rw [h31] <;> rfl) (by decide) ?_
    refine r_aload_n hC 0 dX0_worked_253 rfl rfl ?_
    refine r_iload_n hC 2 dX0_worked_254 rfl rfl ?_
    refine r_iconst hC 0 dX0_worked_255 (by decide) ?_
    refine r_iload_n hC 3 dX0_worked_256 rfl rfl ?_
    refine r_iload hC 4 dX0_worked_257 rfl ?_
    refine r_callVi hC [.int p2, .int 0, .int p3, .int p4] (hc1 _ _ _ _ _ _ hO) yv0_acted ml0_47 ob0 rfl (by constructor <;> (simp only [mw_rm]; omega)) rfl rfl (Nat.le_of_ble_eq_true rfl) dX0_worked_259 (fun r32 μ33 hO => ?_)
    refine r_iconst hC 2 dX0_worked_262 (by decide) ?_
    refine r_imul hC dX0_worked_263 ?_
    exact r_iret hC rfl dX0_worked_264 hO
  by_cases h34 : p1 = 80
  · have hO := hO.2.2.2.2.2.2.2.2.2.2.2.1 h34
    refine r_lsw hC 265 dX0_worked_1 (by decide) (by rw [h34] <;> rfl) (by decide) ?_
    refine r_aload_n hC 0 dX0_worked_265 rfl rfl ?_
    refine r_iload_n hC 2 dX0_worked_266 rfl rfl ?_
    refine r_iconst hC 1 dX0_worked_267 (by decide) ?_
    refine r_iload_n hC 3 dX0_worked_268 rfl rfl ?_
    refine r_iload hC 4 dX0_worked_269 rfl ?_
    refine r_callVi hC [.int p2, .int 1, .int p3, .int p4] (hc1 _ _ _ _ _ _ hO) yv0_acted ml0_47 ob0 rfl (by constructor <;> (simp only [mw_rm]; omega)) rfl rfl (Nat.le_of_ble_eq_true rfl) dX0_worked_271 (fun r35 μ36 hO => ?_)
    refine r_aload_n hC 0 dX0_worked_274 rfl rfl ?_
    refine r_aload_n hC 0 dX0_worked_275 rfl rfl ?_
    refine r_getI hC fl0_44 ob0 rfl dX0_worked_276 ?_
    refine r_iconst hC 2 dX0_worked_279 (by decide) ?_
    refine r_iconst hC 2 dX0_worked_280 (by decide) ?_
    refine r_iload hC 4 dX0_worked_281 rfl ?_
    refine r_callVi hC [.int (μ36.1 62 5), .int 2, .int 2, .int p4] (hc1 _ _ _ _ _ _ hO) yv0_acted ml0_47 ob0 rfl (by constructor <;> (simp only [mw_rm]; omega)) rfl rfl (Nat.le_of_ble_eq_true rfl) dX0_worked_283 (fun r37 μ38 hO => ?_)
    refine r_iadd hC dX0_worked_286 ?_
    exact r_iret hC rfl dX0_worked_287 hO
  by_cases h39 : p1 = 81
  · have hO := hO.2.2.2.2.2.2.2.2.2.2.2.2.1 h39
    refine r_lsw hC 288 dX0_worked_1 (by decide) (by rw [h39] <;> rfl) (by decide) ?_
    refine r_aload_n hC 0 dX0_worked_288 rfl rfl ?_
    refine r_iload_n hC 2 dX0_worked_289 rfl rfl ?_
    refine r_iconst hC 3 dX0_worked_290 (by decide) ?_
    refine r_iload_n hC 3 dX0_worked_291 rfl rfl ?_
    refine r_iload hC 4 dX0_worked_292 rfl ?_
    refine r_callVi hC [.int p2, .int 3, .int p3, .int p4] (hc1 _ _ _ _ _ _ hO) yv0_acted ml0_47 ob0 rfl (by constructor <;> (simp only [mw_rm]; omega)) rfl rfl (Nat.le_of_ble_eq_true rfl) dX0_worked_294 (fun r40 μ41 hO => ?_)
    refine r_iconst hC 1 dX0_worked_297 (by decide) ?_
    refine r_isub hC dX0_worked_298 ?_
    exact r_iret hC rfl dX0_worked_299 hO
  have hO := hO.2.2.2.2.2.2.2.2.2.2.2.2.2 h1 h2 h7 h10 h11 h14 h17 h20 h23 h28 h31 h34 h39
  refine r_ldef hC 300 dX0_worked_1 (by decide) (fun q hq => by rcases (show q = ((1, 115) : Int × Int) ∨ q = ((2, 122) : Int × Int) ∨ q = ((10, 148) : Int × Int) ∨ q = ((11, 163) : Int × Int) ∨ q = ((20, 170) : Int × Int) ∨ q = ((30, 182) : Int × Int) ∨ q = ((40, 193) : Int × Int) ∨ q = ((41, 205) : Int × Int) ∨ q = ((50, 217) : Int × Int) ∨ q = ((60, 240) : Int × Int) ∨ q = ((70, 252) : Int × Int) ∨ q = ((80, 264) : Int × Int) ∨ q = ((81, 287) : Int × Int) by simpa using hq) with rfl | rfl | rfl | rfl | rfl | rfl | rfl | rfl | rfl | rfl | rfl | rfl | rfl <;> first | exact mw_ne h1 rfl | exact mw_ne h2 rfl | exact mw_ne h7 rfl | exact mw_ne h10 rfl | exact mw_ne h11 rfl | exact mw_ne h14 rfl | exact mw_ne h17 rfl | exact mw_ne h20 rfl | exact mw_ne h23 rfl | exact mw_ne h28 rfl | exact mw_ne h31 rfl | exact mw_ne h34 rfl | exact mw_ne h39 rfl) (by decide) ?_
  refine r_iconst hC 0 dX0_worked_300 (by decide) ?_
  exact r_iret hC rfl dX0_worked_301 hO
set_option maxHeartbeats 4000000 in
theorem TG1 {l : Launch} {G : mw_G} (n : Nat) : (∀ (p1 : Int32) (p2 : Int32) (p3 : Int32) (p4 : Int32) (μ : mw_M) (Q : Int32 → mw_M → Prop), (G1 n).1 p1 p2 p3 p4 μ Q → mw_Mi l G kdX yX0_acted cX0_acted 7 (some .int) (n + 2) (n * 26 + 41) [.ref (mw_a G 62), .int p1, .int p2, .int p3, .int p4] μ (Q)) ∧ (∀ (p1 : Int32) (p2 : Int32) (p3 : Int32) (p4 : Int32) (μ : mw_M) (Q : Int32 → mw_M → Prop), (G1 n).2 p1 p2 p3 p4 μ Q → mw_Mi l G kdX yX0_worked cX0_worked 5 (some .int) (n + 2) (n * 26 + 41) [.ref (mw_a G 62), .int p1, .int p2, .int p3, .int p4] μ (Q)) := by
  induction n with
  | zero => exact ⟨fun _ _ _ _ _ _ hO => False.elim hO, fun _ _ _ _ _ _ hO => False.elim hO⟩
  | succ n ih =>
    exact ⟨(fun p1 p2 p3 p4 μ Q hO => by
      have h := T0_acted_s (l := l) (G := G) (fr := n + 2) (lo := n * 26 + 41) (by omega) (by omega) (ih.2) hO
      rw [show n + 1 + 2 = n + 2 + 1 by omega, show (n + 1) * 26 + 41 = n * 26 + 41 + 26 by omega]
      exact h), (fun p1 p2 p3 p4 μ Q hO => by
      have h := T0_worked_s (l := l) (G := G) (fr := n + 2) (lo := n * 26 + 41) (by omega) (by omega) (ih.1) hO
      rw [show n + 1 + 2 = n + 2 + 1 by omega, show (n + 1) * 26 + 41 = n * 26 + 41 + 26 by omega]
      exact h)⟩
theorem T0_acted {l : Launch} {G : mw_G} {p1 : Int32} {p2 : Int32} {p3 : Int32} {p4 : Int32} {μ : mw_M} {Q : Int32 → mw_M → Prop} (hO : P0_acted p1 p2 p3 p4 μ Q) : mw_Mi l G kdX yX0_acted cX0_acted 7 (some .int) 66 1705 [.ref (mw_a G 62), .int p1, .int p2, .int p3, .int p4] μ (Q) := (TG1 (l := l) (G := G) 64).1 _ _ _ _ _ _ hO
theorem T0_worked {l : Launch} {G : mw_G} {p1 : Int32} {p2 : Int32} {p3 : Int32} {p4 : Int32} {μ : mw_M} {Q : Int32 → mw_M → Prop} (hO : P0_worked p1 p2 p3 p4 μ Q) : mw_Mi l G kdX yX0_worked cX0_worked 5 (some .int) 66 1705 [.ref (mw_a G 62), .int p1, .int p2, .int p3, .int p4] μ (Q) := (TG1 (l := l) (G := G) 64).2 _ _ _ _ _ _ hO
set_option maxHeartbeats 4000000 in
set_option maxRecDepth 100000 in
theorem T0_begin {l : Launch} {G : mw_G} {p1 : Int32} {p2 : Int32} {p3 : Int32} {μ : mw_M} {Q : Int32 → mw_M → Prop}  (hO : P0_begin p1 p2 p3 μ Q) : mw_Mi l G kdX yX0_begin cX0_begin 4 (some .int) 67 1731 [.ref (mw_a G 62), .int p1, .int p2, .int p3] μ (Q) := by
  refine mw_enter [(0, .ref (mw_a G 62)), (1, .int p1), (2, .int p2), (3, .int p3)] RX0 (by decide) rfl (Nat.le_of_ble_eq_true rfl) rfl ?_
  intro p e s m args below meth c hC
  unfold P0_begin at hO
  refine r_aload_n hC 0 dX0_begin_0 rfl rfl ?_
  refine r_iconst hC 0 dX0_begin_1 (by decide) ?_
  refine r_putI hC fl0_32 ob0 rfl rfl rfl dX0_begin_2 ?_
  refine r_nmM (fun μ1 hμ1 => ?_)
  have hO := hO μ1 hμ1
  refine r_aload_n hC 0 dX0_begin_5 rfl rfl ?_
  refine r_iload_n hC 1 dX0_begin_6 rfl rfl ?_
  refine r_callVi hC [.int p1] (T0_hasLoad  hO) yv0_hasLoad ml0_29 ob0 rfl ⟨Nat.le_of_ble_eq_true rfl, Nat.le_of_ble_eq_true rfl⟩ rfl rfl (Nat.le_of_ble_eq_true rfl) dX0_begin_7 (fun r2 μ3 hO => ?_)
  rcases hO with ⟨hr, hO⟩ | ⟨hr, hO⟩
  · refine r_topEq hr ?_
    obtain ⟨hO, hm⟩ := hO
    refine r_memEq hm ?_
    refine r_if_eq hC 22 dX0_begin_10 (by decide) (fun h => absurd h (by decide)) (fun _ => ?_)
    refine r_iload_n hC 2 dX0_begin_13 rfl rfl ?_
    refine r_if_lt hC 22 dX0_begin_14 (by decide) (fun h4 => ?_) (fun h4 => ?_)
    · have hO := hO.1 h4
      refine r_iconst hC 0 dX0_begin_22 (by decide) ?_
      exact r_iret hC rfl dX0_begin_23 hO
    · have hO := hO.2 h4
      refine r_iload_n hC 2 dX0_begin_17 rfl rfl ?_
      refine r_iconst hC 4 dX0_begin_18 (by decide) ?_
      refine r_icmp_lt hC 24 dX0_begin_19 (by decide) (fun h5 => ?_) (fun h5 => ?_)
      · have hO := hO.1 h5
        refine r_aload_n hC 0 dX0_begin_24 rfl rfl ?_
        refine r_iload_n hC 1 dX0_begin_25 rfl rfl ?_
        refine r_putI hC fl0_41 ob0 rfl rfl rfl dX0_begin_26 ?_
        refine r_nmM (fun μ6 hμ6 => ?_)
        have hO := hO μ6 hμ6
        refine r_aload_n hC 0 dX0_begin_29 rfl rfl ?_
        refine r_aload_n hC 0 dX0_begin_30 rfl rfl ?_
        refine r_getR hC 63 fl0_11 ob0 rfl dX0_begin_31 ?_
        refine r_iload_n hC 1 dX0_begin_34 rfl rfl ?_
        obtain ⟨g7, hO⟩ := hO
        refine r_iald hC sh0_0 g7 p1.toNatClampNeg rfl dX0_begin_35 ?_
        refine r_putI hC fl0_44 ob0 rfl rfl rfl dX0_begin_36 ?_
        refine r_nmM (fun μ8 hμ8 => ?_)
        have hO := hO μ8 hμ8
        refine r_aload_n hC 0 dX0_begin_39 rfl rfl ?_
        refine r_aload_n hC 0 dX0_begin_40 rfl rfl ?_
        refine r_getI hC fl0_44 ob0 rfl dX0_begin_41 ?_
        refine r_iload_n hC 2 dX0_begin_44 rfl rfl ?_
        refine r_iload_n hC 3 dX0_begin_45 rfl rfl ?_
        refine r_iconst hC 0 dX0_begin_46 (by decide) ?_
        refine r_callVi hC [.int (μ8.1 62 5), .int p2, .int p3, .int 0] (T0_acted  hO) yv0_acted ml0_47 ob0 rfl ⟨Nat.le_of_ble_eq_true rfl, Nat.le_of_ble_eq_true rfl⟩ rfl rfl (Nat.le_of_ble_eq_true rfl) dX0_begin_47 (fun r9 μ10 hO => ?_)
        exact r_iret hC rfl dX0_begin_50 hO
      · have hO := hO.2 h5
        refine r_iconst hC 0 dX0_begin_22 (by decide) ?_
        exact r_iret hC rfl dX0_begin_23 hO
  · refine r_topEq hr ?_
    obtain ⟨hO, hm⟩ := hO
    refine r_memEq hm ?_
    refine r_if_eq hC 22 dX0_begin_10 (by decide) (fun _ => ?_) (fun h => absurd (by decide) h)
    refine r_iconst hC 0 dX0_begin_22 (by decide) ?_
    exact r_iret hC rfl dX0_begin_23 hO
set_option maxHeartbeats 4000000 in
set_option maxRecDepth 100000 in
theorem T2_hasLump {l : Launch} {G : mw_G} {b : Nat} {p1 : Int32} {μ : mw_M} {QT : Prop} {QF : Prop} (hb : kdX[b]? = some (.inl (2, dsX2 b))) (hO : P2_hasLump b p1 μ QT QF) : mw_Mi l G kdX yX2_hasLump cX2_hasLump 2 (some .boolean) 0 0 [.ref (mw_a G b), .int p1] μ (mw_bq (mw_pv μ QT) (mw_pv μ QF)) := by
  refine mw_enter [(0, .ref (mw_a G b)), (1, .int p1)] RX2 (by decide) rfl (Nat.le_of_ble_eq_true rfl) rfl ?_
  intro p e s m args below meth c hC
  unfold P2_hasLump at hO
  refine r_iload_n hC 1 dX2_hasLump_0 rfl rfl ?_
  refine r_if_lt hC 16 dX2_hasLump_1 (by decide) (fun h1 => ?_) (fun h1 => ?_)
  · have hO := hO.1 h1
    refine r_iconst hC 0 dX2_hasLump_16 (by decide) ?_
    exact r_zret hC rfl (by decide) dX2_hasLump_17 (Or.inr ⟨rfl, hO, rfl⟩)
  · have hO := hO.2 h1
    refine r_iload_n hC 1 dX2_hasLump_4 rfl rfl ?_
    refine r_aload_n hC 0 dX2_hasLump_5 rfl rfl ?_
    refine r_getI hC fl2_34 hb rfl dX2_hasLump_6 ?_
    refine r_icmp_ge hC 16 dX2_hasLump_9 (by decide) (fun h2 => ?_) (fun h2 => ?_)
    · have hO := hO.1 h2
      refine r_iconst hC 0 dX2_hasLump_16 (by decide) ?_
      exact r_zret hC rfl (by decide) dX2_hasLump_17 (Or.inr ⟨rfl, hO, rfl⟩)
    · have hO := hO.2 h2
      refine r_iconst hC 1 dX2_hasLump_12 (by decide) ?_
      refine r_goto hC 17 dX2_hasLump_13 (by decide) ?_
      exact r_zret hC rfl (by decide) dX2_hasLump_17 (Or.inl ⟨rfl, hO, rfl⟩)
set_option maxHeartbeats 4000000 in
set_option maxRecDepth 100000 in
theorem T2_told {l : Launch} {G : mw_G} {b : Nat} {p1 : Int32} {p2 : Int32} {μ : mw_M} {Q : Int32 → Prop} (hb : kdX[b]? = some (.inl (2, dsX2 b))) (hO : P2_told b p1 p2 μ Q) : mw_Mi l G kdX yX2_told cX2_told 3 (some .int) 1 21 [.ref (mw_a G b), .int p1, .int p2] μ (mw_pq μ Q) := by
  refine mw_enter [(0, .ref (mw_a G b)), (1, .int p1), (2, .int p2)] RX2 (by decide) rfl (Nat.le_of_ble_eq_true rfl) rfl ?_
  intro p e s m args below meth c hC
  unfold P2_told at hO
  refine r_iload_n hC 2 dX2_told_0 rfl rfl ?_
  refine r_iconst hC 4 dX2_told_1 (by decide) ?_
  refine r_icmp_ne hC 10 dX2_told_2 (by decide) (fun h1 => ?_) (fun h1 => ?_)
  · have hO := hO.2 h1
    refine r_aload_n hC 0 dX2_told_10 rfl rfl ?_
    refine r_iload_n hC 1 dX2_told_11 rfl rfl ?_
    refine r_callVi hC [.int p1] (T2_hasLump hb hO) yv2_hasLump ml2_41 hb rfl ⟨Nat.le_of_ble_eq_true rfl, Nat.le_of_ble_eq_true rfl⟩ rfl rfl (Nat.le_of_ble_eq_true rfl) dX2_told_12 (fun r2 μ3 hO => ?_)
    rcases hO with ⟨hr, hO⟩ | ⟨hr, hO⟩
    · refine r_topEq hr ?_
      obtain ⟨hO, hm⟩ := hO
      refine r_memEq hm ?_
      refine r_if_ne hC 20 dX2_told_15 (by decide) (fun _ => ?_) (fun h => absurd h (by decide))
      refine r_iload_n hC 2 dX2_told_20 rfl rfl ?_
      by_cases h4 : p2 = 0
      · have hO := hO.1 h4
        refine r_tin hC 52 dX2_told_21 (by rw [h4]; decide) (by rw [h4]; decide) (by rw [h4] <;> rfl) (by decide) ?_
        refine r_aload_n hC 0 dX2_told_52 rfl rfl ?_
        refine r_getR hC (b + 1) fl2_11 hb rfl dX2_told_53 ?_
        refine r_iload_n hC 1 dX2_told_56 rfl rfl ?_
        obtain ⟨g5, hO⟩ := hO
        refine r_iald hC (sh2_0 hb) g5 p1.toNatClampNeg rfl dX2_told_57 ?_
        exact r_iret hC rfl dX2_told_58 ⟨hO, rfl⟩
      by_cases h6 : p2 = 1
      · have hO := hO.2.1 h6
        refine r_tin hC 59 dX2_told_21 (by rw [h6]; decide) (by rw [h6]; decide) (by rw [h6] <;> rfl) (by decide) ?_
        refine r_aload_n hC 0 dX2_told_59 rfl rfl ?_
        refine r_getR hC (b + 2) fl2_15 hb rfl dX2_told_60 ?_
        refine r_iload_n hC 1 dX2_told_63 rfl rfl ?_
        obtain ⟨g7, hO⟩ := hO
        refine r_iald hC (sh2_1 hb) g7 p1.toNatClampNeg rfl dX2_told_64 ?_
        exact r_iret hC rfl dX2_told_65 ⟨hO, rfl⟩
      by_cases h8 : p2 = 2
      · have hO := hO.2.2.1 h8
        refine r_tin hC 66 dX2_told_21 (by rw [h8]; decide) (by rw [h8]; decide) (by rw [h8] <;> rfl) (by decide) ?_
        refine r_aload_n hC 0 dX2_told_66 rfl rfl ?_
        refine r_getR hC (b + 3) fl2_18 hb rfl dX2_told_67 ?_
        refine r_iload_n hC 1 dX2_told_70 rfl rfl ?_
        obtain ⟨g9, hO⟩ := hO
        refine r_iald hC (sh2_2 hb) g9 p1.toNatClampNeg rfl dX2_told_71 ?_
        exact r_iret hC rfl dX2_told_72 ⟨hO, rfl⟩
      by_cases h10 : p2 = 3
      · have hO := hO.2.2.2.1 h10
        refine r_tin hC 73 dX2_told_21 (by rw [h10]; decide) (by rw [h10]; decide) (by rw [h10] <;> rfl) (by decide) ?_
        refine r_aload_n hC 0 dX2_told_73 rfl rfl ?_
        refine r_getR hC (b + 4) fl2_21 hb rfl dX2_told_74 ?_
        refine r_iload_n hC 1 dX2_told_77 rfl rfl ?_
        obtain ⟨g11, hO⟩ := hO
        refine r_iald hC (sh2_3 hb) g11 p1.toNatClampNeg rfl dX2_told_78 ?_
        exact r_iret hC rfl dX2_told_79 ⟨hO, rfl⟩
      have hO := hO.2.2.2.2 h4 h6 h8 h10
      refine r_tdef hC 80 dX2_told_21 (by decide) rfl (fun k hk => match k, hk with | 0, _ => Or.inr (mw_ne h4 rfl) | 1, _ => Or.inr (mw_ne h6 rfl) | 2, _ => Or.inr (mw_ne h8 rfl) | 3, _ => Or.inr (mw_ne h10 rfl) | k + 4, h => absurd h (by show ¬ k + 4 < 4; omega)) ?_
      refine r_iconst hC (-1) dX2_told_80 (by decide) ?_
      exact r_iret hC rfl dX2_told_81 ⟨hO, rfl⟩
    · refine r_topEq hr ?_
      obtain ⟨hO, hm⟩ := hO
      refine r_memEq hm ?_
      refine r_if_ne hC 20 dX2_told_15 (by decide) (fun h => absurd (by decide) h) (fun _ => ?_)
      refine r_iconst hC (-1) dX2_told_18 (by decide) ?_
      exact r_iret hC rfl dX2_told_19 ⟨hO, rfl⟩
  · have hO := hO.1 h1
    refine r_aload_n hC 0 dX2_told_5 rfl rfl ?_
    refine r_getI hC fl2_38 hb rfl dX2_told_6 ?_
    exact r_iret hC rfl dX2_told_9 ⟨hO, rfl⟩
set_option maxHeartbeats 4000000 in
set_option maxRecDepth 100000 in
theorem T1_dropOldest {l : Launch} {G : mw_G}  {μ : mw_M} {Q : mw_M → Prop}  (hO : P1_dropOldest μ Q) : mw_Mv l G kdX yX1_dropOldest cX1_dropOldest 2 none 0 0 [.ref (mw_a G 6)] μ (Q) := by
  refine mw_enter [(0, .ref (mw_a G 6))] RX1 (by decide) rfl (Nat.le_of_ble_eq_true rfl) rfl ?_
  intro p e s m args below meth c hC
  unfold P1_dropOldest at hO
  refine r_iconst hC 1 dX1_dropOldest_0 (by decide) ?_
  refine r_istore_n hC [(1, .int 1), (0, .ref (mw_a G 6))] dX1_dropOldest_1 rfl (by decide) rfl ?_
  have hLn3 : ∀  (K1 : Int32 → mw_M → Prop) (hK1 : ∀ (v1 : Int32) (μ2 : mw_M), K1 v1 μ2 → mw_W p l e (mw_rm 0 0) s m args below meth c G kdX 2 (MQ below (va_Qv (Q) (mw_B G kdX) (mw_A G kdX)) args s 0 0 (mw_A G kdX)) 70 [(1, .int v1), (0, .ref (mw_a G 6))] [] μ2) (n3 : Nat) (v1 : Int32) (μ2 : mw_M), L1_dropOldest_2 Q K1 n3 v1 μ2 → mw_W p l e (mw_rm 0 0) s m args below meth c G kdX 2 (MQ below (va_Qv (Q) (mw_B G kdX) (mw_A G kdX)) args s 0 0 (mw_A G kdX)) 2 [(1, .int v1), (0, .ref (mw_a G 6))] [] μ2 := by
    intro  K1 hK1 n3
    induction n3 with
    | zero => intro v1 μ2 hO; exact False.elim hO
    | succ n3 ihn3 =>
      intro v1 μ2 hO
      refine r_iload_n hC 0 dX1_dropOldest_2 rfl rfl ?_
      refine r_bipush hC 40 dX1_dropOldest_3 (by decide) ?_
      refine r_icmp_ge hC 70 dX1_dropOldest_5 (by decide) (fun h4 => ?_) (fun h4 => ?_)
      · have hO := hO.1 h4
        refine r_lv hC [(1, .int v1), (0, .ref (mw_a G 6))] [0, 1] rfl ?_
        exact hK1 v1 μ2 hO
      · have hO := hO.2 h4
        refine r_aload_n hC 1 dX1_dropOldest_8 rfl rfl ?_
        refine r_getR hC 7 fl1_15 ob1 rfl dX1_dropOldest_9 ?_
        refine r_iload_n hC 0 dX1_dropOldest_12 rfl rfl ?_
        refine r_iconst hC 1 dX1_dropOldest_13 (by decide) ?_
        refine r_isub hC dX1_dropOldest_14 ?_
        refine r_aload_n hC 1 dX1_dropOldest_15 rfl rfl ?_
        refine r_getR hC 7 fl1_15 ob1 rfl dX1_dropOldest_16 ?_
        refine r_iload_n hC 0 dX1_dropOldest_19 rfl rfl ?_
        obtain ⟨g5, hO⟩ := hO
        refine r_iald hC sh1_1 g5 v1.toNatClampNeg rfl dX1_dropOldest_20 ?_
        obtain ⟨g6, hO⟩ := hO
        refine r_iast hC sh1_1 g6 ((v1 - 1).toNatClampNeg) rfl dX1_dropOldest_21 ?_
        refine r_nmM (fun μ7 hμ7 => ?_)
        have hO := hO μ7 hμ7
        refine r_aload_n hC 1 dX1_dropOldest_22 rfl rfl ?_
        refine r_getR hC 8 fl1_19 ob1 rfl dX1_dropOldest_23 ?_
        refine r_iload_n hC 0 dX1_dropOldest_26 rfl rfl ?_
        refine r_iconst hC 1 dX1_dropOldest_27 (by decide) ?_
        refine r_isub hC dX1_dropOldest_28 ?_
        refine r_aload_n hC 1 dX1_dropOldest_29 rfl rfl ?_
        refine r_getR hC 8 fl1_19 ob1 rfl dX1_dropOldest_30 ?_
        refine r_iload_n hC 0 dX1_dropOldest_33 rfl rfl ?_
        obtain ⟨g8, hO⟩ := hO
        refine r_iald hC sh1_2 g8 v1.toNatClampNeg rfl dX1_dropOldest_34 ?_
        obtain ⟨g9, hO⟩ := hO
        refine r_iast hC sh1_2 g9 ((v1 - 1).toNatClampNeg) rfl dX1_dropOldest_35 ?_
        refine r_nmM (fun μ10 hμ10 => ?_)
        have hO := hO μ10 hμ10
        refine r_aload_n hC 1 dX1_dropOldest_36 rfl rfl ?_
        refine r_getR hC 9 fl1_22 ob1 rfl dX1_dropOldest_37 ?_
        refine r_iload_n hC 0 dX1_dropOldest_40 rfl rfl ?_
        refine r_iconst hC 1 dX1_dropOldest_41 (by decide) ?_
        refine r_isub hC dX1_dropOldest_42 ?_
        refine r_aload_n hC 1 dX1_dropOldest_43 rfl rfl ?_
        refine r_getR hC 9 fl1_22 ob1 rfl dX1_dropOldest_44 ?_
        refine r_iload_n hC 0 dX1_dropOldest_47 rfl rfl ?_
        obtain ⟨g11, hO⟩ := hO
        refine r_iald hC sh1_3 g11 v1.toNatClampNeg rfl dX1_dropOldest_48 ?_
        obtain ⟨g12, hO⟩ := hO
        refine r_iast hC sh1_3 g12 ((v1 - 1).toNatClampNeg) rfl dX1_dropOldest_49 ?_
        refine r_nmM (fun μ13 hμ13 => ?_)
        have hO := hO μ13 hμ13
        refine r_aload_n hC 1 dX1_dropOldest_50 rfl rfl ?_
        refine r_getR hC 10 fl1_25 ob1 rfl dX1_dropOldest_51 ?_
        refine r_iload_n hC 0 dX1_dropOldest_54 rfl rfl ?_
        refine r_iconst hC 1 dX1_dropOldest_55 (by decide) ?_
        refine r_isub hC dX1_dropOldest_56 ?_
        refine r_aload_n hC 1 dX1_dropOldest_57 rfl rfl ?_
        refine r_getR hC 10 fl1_25 ob1 rfl dX1_dropOldest_58 ?_
        refine r_iload_n hC 0 dX1_dropOldest_61 rfl rfl ?_
        obtain ⟨g14, hO⟩ := hO
        refine r_iald hC sh1_4 g14 v1.toNatClampNeg rfl dX1_dropOldest_62 ?_
        obtain ⟨g15, hO⟩ := hO
        refine r_iast hC sh1_4 g15 ((v1 - 1).toNatClampNeg) rfl dX1_dropOldest_63 ?_
        refine r_nmM (fun μ16 hμ16 => ?_)
        have hO := hO μ16 hμ16
        obtain ⟨x17, hx17⟩ : ∃ y : Int32, y = v1 + 1 := ⟨_, rfl⟩
        have hO := hO x17 hx17
        refine r_iinc hC x17 0 [(1, .int x17), (0, .ref (mw_a G 6))] dX1_dropOldest_64 rfl (by rw [hx17]; rfl) (by decide) rfl ?_
        refine r_goto hC 2 dX1_dropOldest_67 (by decide) ?_
        refine r_lv hC [(1, .int x17), (0, .ref (mw_a G 6))] [0, 1] rfl ?_
        exact ihn3 x17 μ16 hO
  obtain ⟨n3, hO⟩ := hO
  refine hLn3  _ (fun v1 μ2 hO => ?_) n3 _ _ hO
  refine r_aload_n hC 1 dX1_dropOldest_70 rfl rfl ?_
  refine r_bipush hC 39 dX1_dropOldest_71 (by decide) ?_
  refine r_putI hC fl1_34 ob1 rfl rfl rfl dX1_dropOldest_73 ?_
  refine r_nmM (fun μ18 hμ18 => ?_)
  have hO := hO μ18 hμ18
  exact r_vret hC rfl dX1_dropOldest_76 hO
set_option maxHeartbeats 4000000 in
set_option maxRecDepth 100000 in
theorem T2_tell {l : Launch} {G : mw_G} {b : Nat} {p1 : Int32} {p2 : Int32} {p3 : Int32} {μ : mw_M} {Q : mw_M → Prop} (hb : kdX[b]? = some (.inl (2, dsX2 b))) (hO : P2_tell b p1 p2 p3 μ Q) : mw_Mv l G kdX yX2_tell cX2_tell 4 none 1 21 [.ref (mw_a G b), .int p1, .int p2, .int p3] μ (Q) := by
  refine mw_enter [(0, .ref (mw_a G b)), (1, .int p1), (2, .int p2), (3, .int p3)] RX2 (by decide) rfl (Nat.le_of_ble_eq_true rfl) rfl ?_
  intro p e s m args below meth c hC
  unfold P2_tell at hO
  refine r_iload_n hC 2 dX2_tell_0 rfl rfl ?_
  refine r_iconst hC 4 dX2_tell_1 (by decide) ?_
  refine r_icmp_ne hC 10 dX2_tell_2 (by decide) (fun h1 => ?_) (fun h1 => ?_)
  · have hO := hO.2 h1
    refine r_aload_n hC 0 dX2_tell_10 rfl rfl ?_
    refine r_iload_n hC 1 dX2_tell_11 rfl rfl ?_
    refine r_callVi hC [.int p1] (T2_hasLump hb hO) yv2_hasLump ml2_41 hb rfl ⟨Nat.le_of_ble_eq_true rfl, Nat.le_of_ble_eq_true rfl⟩ rfl rfl (Nat.le_of_ble_eq_true rfl) dX2_tell_12 (fun r2 μ3 hO => ?_)
    rcases hO with ⟨hr, hO⟩ | ⟨hr, hO⟩
    · refine r_topEq hr ?_
      obtain ⟨hO, hm⟩ := hO
      refine r_memEq hm ?_
      refine r_if_ne hC 19 dX2_tell_15 (by decide) (fun _ => ?_) (fun h => absurd h (by decide))
      refine r_iload_n hC 2 dX2_tell_19 rfl rfl ?_
      refine r_if_ne hC 30 dX2_tell_20 (by decide) (fun h4 => ?_) (fun h4 => ?_)
      · have hO := hO.2 h4
        refine r_iload_n hC 2 dX2_tell_30 rfl rfl ?_
        refine r_iconst hC 1 dX2_tell_31 (by decide) ?_
        refine r_icmp_ne hC 42 dX2_tell_32 (by decide) (fun h5 => ?_) (fun h5 => ?_)
        · have hO := hO.2 h5
          refine r_iload_n hC 2 dX2_tell_42 rfl rfl ?_
          refine r_iconst hC 2 dX2_tell_43 (by decide) ?_
          refine r_icmp_ne hC 54 dX2_tell_44 (by decide) (fun h6 => ?_) (fun h6 => ?_)
          · have hO := hO.2 h6
            exact r_vret hC rfl dX2_tell_54 hO
          · have hO := hO.1 h6
            refine r_aload_n hC 0 dX2_tell_47 rfl rfl ?_
            refine r_getR hC (b + 3) fl2_18 hb rfl dX2_tell_48 ?_
            refine r_iload_n hC 1 dX2_tell_51 rfl rfl ?_
            refine r_iload_n hC 3 dX2_tell_52 rfl rfl ?_
            obtain ⟨g7, hO⟩ := hO
            refine r_iast hC (sh2_2 hb) g7 p1.toNatClampNeg rfl dX2_tell_53 ?_
            refine r_nmM (fun μ8 hμ8 => ?_)
            have hO := hO μ8 hμ8
            exact r_vret hC rfl dX2_tell_54 hO
        · have hO := hO.1 h5
          refine r_aload_n hC 0 dX2_tell_35 rfl rfl ?_
          refine r_getR hC (b + 2) fl2_15 hb rfl dX2_tell_36 ?_
          refine r_iload_n hC 1 dX2_tell_39 rfl rfl ?_
          refine r_iload_n hC 3 dX2_tell_40 rfl rfl ?_
          obtain ⟨g9, hO⟩ := hO
          refine r_iast hC (sh2_1 hb) g9 p1.toNatClampNeg rfl dX2_tell_41 ?_
          refine r_nmM (fun μ10 hμ10 => ?_)
          have hO := hO μ10 hμ10
          refine r_iload_n hC 2 dX2_tell_42 rfl rfl ?_
          refine r_iconst hC 2 dX2_tell_43 (by decide) ?_
          refine r_icmp_ne hC 54 dX2_tell_44 (by decide) (fun h11 => ?_) (fun h11 => ?_)
          · have hO := hO.2 h11
            exact r_vret hC rfl dX2_tell_54 hO
          · have hO := hO.1 h11
            refine r_aload_n hC 0 dX2_tell_47 rfl rfl ?_
            refine r_getR hC (b + 3) fl2_18 hb rfl dX2_tell_48 ?_
            refine r_iload_n hC 1 dX2_tell_51 rfl rfl ?_
            refine r_iload_n hC 3 dX2_tell_52 rfl rfl ?_
            obtain ⟨g12, hO⟩ := hO
            refine r_iast hC (sh2_2 hb) g12 p1.toNatClampNeg rfl dX2_tell_53 ?_
            refine r_nmM (fun μ13 hμ13 => ?_)
            have hO := hO μ13 hμ13
            exact r_vret hC rfl dX2_tell_54 hO
      · have hO := hO.1 h4
        refine r_aload_n hC 0 dX2_tell_23 rfl rfl ?_
        refine r_getR hC (b + 1) fl2_11 hb rfl dX2_tell_24 ?_
        refine r_iload_n hC 1 dX2_tell_27 rfl rfl ?_
        refine r_iload_n hC 3 dX2_tell_28 rfl rfl ?_
        obtain ⟨g14, hO⟩ := hO
        refine r_iast hC (sh2_0 hb) g14 p1.toNatClampNeg rfl dX2_tell_29 ?_
        refine r_nmM (fun μ15 hμ15 => ?_)
        have hO := hO μ15 hμ15
        refine r_iload_n hC 2 dX2_tell_30 rfl rfl ?_
        refine r_iconst hC 1 dX2_tell_31 (by decide) ?_
        refine r_icmp_ne hC 42 dX2_tell_32 (by decide) (fun h16 => ?_) (fun h16 => ?_)
        · have hO := hO.2 h16
          refine r_iload_n hC 2 dX2_tell_42 rfl rfl ?_
          refine r_iconst hC 2 dX2_tell_43 (by decide) ?_
          refine r_icmp_ne hC 54 dX2_tell_44 (by decide) (fun h17 => ?_) (fun h17 => ?_)
          · have hO := hO.2 h17
            exact r_vret hC rfl dX2_tell_54 hO
          · have hO := hO.1 h17
            refine r_aload_n hC 0 dX2_tell_47 rfl rfl ?_
            refine r_getR hC (b + 3) fl2_18 hb rfl dX2_tell_48 ?_
            refine r_iload_n hC 1 dX2_tell_51 rfl rfl ?_
            refine r_iload_n hC 3 dX2_tell_52 rfl rfl ?_
            obtain ⟨g18, hO⟩ := hO
            refine r_iast hC (sh2_2 hb) g18 p1.toNatClampNeg rfl dX2_tell_53 ?_
            refine r_nmM (fun μ19 hμ19 => ?_)
            have hO := hO μ19 hμ19
            exact r_vret hC rfl dX2_tell_54 hO
        · have hO := hO.1 h16
          refine r_aload_n hC 0 dX2_tell_35 rfl rfl ?_
          refine r_getR hC (b + 2) fl2_15 hb rfl dX2_tell_36 ?_
          refine r_iload_n hC 1 dX2_tell_39 rfl rfl ?_
          refine r_iload_n hC 3 dX2_tell_40 rfl rfl ?_
          obtain ⟨g20, hO⟩ := hO
          refine r_iast hC (sh2_1 hb) g20 p1.toNatClampNeg rfl dX2_tell_41 ?_
          refine r_nmM (fun μ21 hμ21 => ?_)
          have hO := hO μ21 hμ21
          refine r_iload_n hC 2 dX2_tell_42 rfl rfl ?_
          refine r_iconst hC 2 dX2_tell_43 (by decide) ?_
          refine r_icmp_ne hC 54 dX2_tell_44 (by decide) (fun h22 => ?_) (fun h22 => ?_)
          · have hO := hO.2 h22
            exact r_vret hC rfl dX2_tell_54 hO
          · have hO := hO.1 h22
            refine r_aload_n hC 0 dX2_tell_47 rfl rfl ?_
            refine r_getR hC (b + 3) fl2_18 hb rfl dX2_tell_48 ?_
            refine r_iload_n hC 1 dX2_tell_51 rfl rfl ?_
            refine r_iload_n hC 3 dX2_tell_52 rfl rfl ?_
            obtain ⟨g23, hO⟩ := hO
            refine r_iast hC (sh2_2 hb) g23 p1.toNatClampNeg rfl dX2_tell_53 ?_
            refine r_nmM (fun μ24 hμ24 => ?_)
            have hO := hO μ24 hμ24
            exact r_vret hC rfl dX2_tell_54 hO
    · refine r_topEq hr ?_
      obtain ⟨hO, hm⟩ := hO
      refine r_memEq hm ?_
      refine r_if_ne hC 19 dX2_tell_15 (by decide) (fun h => absurd (by decide) h) (fun _ => ?_)
      exact r_vret hC rfl dX2_tell_18 hO
  · have hO := hO.1 h1
    refine r_aload_n hC 0 dX2_tell_5 rfl rfl ?_
    refine r_iload_n hC 3 dX2_tell_6 rfl rfl ?_
    refine r_putI hC fl2_38 hb rfl rfl rfl dX2_tell_7 ?_
    refine r_nmM (fun μ25 hμ25 => ?_)
    have hO := hO μ25 hμ25
    refine r_aload_n hC 0 dX2_tell_10 rfl rfl ?_
    refine r_iload_n hC 1 dX2_tell_11 rfl rfl ?_
    refine r_callVi hC [.int p1] (T2_hasLump hb hO) yv2_hasLump ml2_41 hb rfl ⟨Nat.le_of_ble_eq_true rfl, Nat.le_of_ble_eq_true rfl⟩ rfl rfl (Nat.le_of_ble_eq_true rfl) dX2_tell_12 (fun r26 μ27 hO => ?_)
    rcases hO with ⟨hr, hO⟩ | ⟨hr, hO⟩
    · refine r_topEq hr ?_
      obtain ⟨hO, hm⟩ := hO
      refine r_memEq hm ?_
      refine r_if_ne hC 19 dX2_tell_15 (by decide) (fun _ => ?_) (fun h => absurd h (by decide))
      refine r_iload_n hC 2 dX2_tell_19 rfl rfl ?_
      refine r_if_ne hC 30 dX2_tell_20 (by decide) (fun h28 => ?_) (fun h28 => ?_)
      · have hO := hO.2 h28
        refine r_iload_n hC 2 dX2_tell_30 rfl rfl ?_
        refine r_iconst hC 1 dX2_tell_31 (by decide) ?_
        refine r_icmp_ne hC 42 dX2_tell_32 (by decide) (fun h29 => ?_) (fun h29 => ?_)
        · have hO := hO.2 h29
          refine r_iload_n hC 2 dX2_tell_42 rfl rfl ?_
          refine r_iconst hC 2 dX2_tell_43 (by decide) ?_
          refine r_icmp_ne hC 54 dX2_tell_44 (by decide) (fun h30 => ?_) (fun h30 => ?_)
          · have hO := hO.2 h30
            exact r_vret hC rfl dX2_tell_54 hO
          · have hO := hO.1 h30
            refine r_aload_n hC 0 dX2_tell_47 rfl rfl ?_
            refine r_getR hC (b + 3) fl2_18 hb rfl dX2_tell_48 ?_
            refine r_iload_n hC 1 dX2_tell_51 rfl rfl ?_
            refine r_iload_n hC 3 dX2_tell_52 rfl rfl ?_
            obtain ⟨g31, hO⟩ := hO
            refine r_iast hC (sh2_2 hb) g31 p1.toNatClampNeg rfl dX2_tell_53 ?_
            refine r_nmM (fun μ32 hμ32 => ?_)
            have hO := hO μ32 hμ32
            exact r_vret hC rfl dX2_tell_54 hO
        · have hO := hO.1 h29
          refine r_aload_n hC 0 dX2_tell_35 rfl rfl ?_
          refine r_getR hC (b + 2) fl2_15 hb rfl dX2_tell_36 ?_
          refine r_iload_n hC 1 dX2_tell_39 rfl rfl ?_
          refine r_iload_n hC 3 dX2_tell_40 rfl rfl ?_
          obtain ⟨g33, hO⟩ := hO
          refine r_iast hC (sh2_1 hb) g33 p1.toNatClampNeg rfl dX2_tell_41 ?_
          refine r_nmM (fun μ34 hμ34 => ?_)
          have hO := hO μ34 hμ34
          refine r_iload_n hC 2 dX2_tell_42 rfl rfl ?_
          refine r_iconst hC 2 dX2_tell_43 (by decide) ?_
          refine r_icmp_ne hC 54 dX2_tell_44 (by decide) (fun h35 => ?_) (fun h35 => ?_)
          · have hO := hO.2 h35
            exact r_vret hC rfl dX2_tell_54 hO
          · have hO := hO.1 h35
            refine r_aload_n hC 0 dX2_tell_47 rfl rfl ?_
            refine r_getR hC (b + 3) fl2_18 hb rfl dX2_tell_48 ?_
            refine r_iload_n hC 1 dX2_tell_51 rfl rfl ?_
            refine r_iload_n hC 3 dX2_tell_52 rfl rfl ?_
            obtain ⟨g36, hO⟩ := hO
            refine r_iast hC (sh2_2 hb) g36 p1.toNatClampNeg rfl dX2_tell_53 ?_
            refine r_nmM (fun μ37 hμ37 => ?_)
            have hO := hO μ37 hμ37
            exact r_vret hC rfl dX2_tell_54 hO
      · have hO := hO.1 h28
        refine r_aload_n hC 0 dX2_tell_23 rfl rfl ?_
        refine r_getR hC (b + 1) fl2_11 hb rfl dX2_tell_24 ?_
        refine r_iload_n hC 1 dX2_tell_27 rfl rfl ?_
        refine r_iload_n hC 3 dX2_tell_28 rfl rfl ?_
        obtain ⟨g38, hO⟩ := hO
        refine r_iast hC (sh2_0 hb) g38 p1.toNatClampNeg rfl dX2_tell_29 ?_
        refine r_nmM (fun μ39 hμ39 => ?_)
        have hO := hO μ39 hμ39
        refine r_iload_n hC 2 dX2_tell_30 rfl rfl ?_
        refine r_iconst hC 1 dX2_tell_31 (by decide) ?_
        refine r_icmp_ne hC 42 dX2_tell_32 (by decide) (fun h40 => ?_) (fun h40 => ?_)
        · have hO := hO.2 h40
          refine r_iload_n hC 2 dX2_tell_42 rfl rfl ?_
          refine r_iconst hC 2 dX2_tell_43 (by decide) ?_
          refine r_icmp_ne hC 54 dX2_tell_44 (by decide) (fun h41 => ?_) (fun h41 => ?_)
          · have hO := hO.2 h41
            exact r_vret hC rfl dX2_tell_54 hO
          · have hO := hO.1 h41
            refine r_aload_n hC 0 dX2_tell_47 rfl rfl ?_
            refine r_getR hC (b + 3) fl2_18 hb rfl dX2_tell_48 ?_
            refine r_iload_n hC 1 dX2_tell_51 rfl rfl ?_
            refine r_iload_n hC 3 dX2_tell_52 rfl rfl ?_
            obtain ⟨g42, hO⟩ := hO
            refine r_iast hC (sh2_2 hb) g42 p1.toNatClampNeg rfl dX2_tell_53 ?_
            refine r_nmM (fun μ43 hμ43 => ?_)
            have hO := hO μ43 hμ43
            exact r_vret hC rfl dX2_tell_54 hO
        · have hO := hO.1 h40
          refine r_aload_n hC 0 dX2_tell_35 rfl rfl ?_
          refine r_getR hC (b + 2) fl2_15 hb rfl dX2_tell_36 ?_
          refine r_iload_n hC 1 dX2_tell_39 rfl rfl ?_
          refine r_iload_n hC 3 dX2_tell_40 rfl rfl ?_
          obtain ⟨g44, hO⟩ := hO
          refine r_iast hC (sh2_1 hb) g44 p1.toNatClampNeg rfl dX2_tell_41 ?_
          refine r_nmM (fun μ45 hμ45 => ?_)
          have hO := hO μ45 hμ45
          refine r_iload_n hC 2 dX2_tell_42 rfl rfl ?_
          refine r_iconst hC 2 dX2_tell_43 (by decide) ?_
          refine r_icmp_ne hC 54 dX2_tell_44 (by decide) (fun h46 => ?_) (fun h46 => ?_)
          · have hO := hO.2 h46
            exact r_vret hC rfl dX2_tell_54 hO
          · have hO := hO.1 h46
            refine r_aload_n hC 0 dX2_tell_47 rfl rfl ?_
            refine r_getR hC (b + 3) fl2_18 hb rfl dX2_tell_48 ?_
            refine r_iload_n hC 1 dX2_tell_51 rfl rfl ?_
            refine r_iload_n hC 3 dX2_tell_52 rfl rfl ?_
            obtain ⟨g47, hO⟩ := hO
            refine r_iast hC (sh2_2 hb) g47 p1.toNatClampNeg rfl dX2_tell_53 ?_
            refine r_nmM (fun μ48 hμ48 => ?_)
            have hO := hO μ48 hμ48
            exact r_vret hC rfl dX2_tell_54 hO
    · refine r_topEq hr ?_
      obtain ⟨hO, hm⟩ := hO
      refine r_memEq hm ?_
      refine r_if_ne hC 19 dX2_tell_15 (by decide) (fun h => absurd (by decide) h) (fun _ => ?_)
      exact r_vret hC rfl dX2_tell_18 hO
set_option maxHeartbeats 4000000 in
set_option maxRecDepth 100000 in
theorem T1_tell {l : Launch} {G : mw_G} {p1 : Int32} {p2 : Int32} {p3 : Int32} {μ : mw_M} {Q : Int32 → mw_M → Prop}  (hO : P1_tell p1 p2 p3 μ Q) : mw_Mi l G kdX yX1_tell cX1_tell 5 (some .int) 2 44 [.ref (mw_a G 6), .int p1, .int p2, .int p3] μ (Q) := by
  refine mw_enter [(0, .ref (mw_a G 6)), (1, .int p1), (2, .int p2), (3, .int p3)] RX1 (by decide) rfl (Nat.le_of_ble_eq_true rfl) rfl ?_
  intro p e s m args below meth c hC
  unfold P1_tell at hO
  refine r_aload_n hC 0 dX1_tell_0 rfl rfl ?_
  refine r_getR hC 1 fl1_9 ob1 rfl dX1_tell_1 ?_
  refine r_iload_n hC 1 dX1_tell_4 rfl rfl ?_
  refine r_iload_n hC 2 dX1_tell_5 rfl rfl ?_
  refine r_callVi hC [.int p1, .int p2] (T2_told sh1_0 hO) yv2_told ml1_28 sh1_0 rfl ⟨Nat.le_of_ble_eq_true rfl, Nat.le_of_ble_eq_true rfl⟩ rfl rfl (Nat.le_of_ble_eq_true rfl) dX1_tell_6 (fun r1 μ2 hO => ?_)
  obtain ⟨hO, hm⟩ := hO
  refine r_memEq hm ?_
  refine r_istore hC [(4, .int r1), (0, .ref (mw_a G 6)), (1, .int p1), (2, .int p2), (3, .int p3)] dX1_tell_9 (by decide) rfl ?_
  refine r_iload hC 0 dX1_tell_11 rfl ?_
  refine r_iload_n hC 4 dX1_tell_13 rfl rfl ?_
  refine r_icmp_ne hC 20 dX1_tell_14 (by decide) (fun h3 => ?_) (fun h3 => ?_)
  · have hO := hO.2 h3
    refine r_aload_n hC 1 dX1_tell_20 rfl rfl ?_
    refine r_getI hC fl1_34 ob1 rfl dX1_tell_21 ?_
    refine r_bipush hC 40 dX1_tell_24 (by decide) ?_
    refine r_icmp_lt hC 33 dX1_tell_26 (by decide) (fun h4 => ?_) (fun h4 => ?_)
    · have hO := hO.1 h4
      refine r_aload_n hC 1 dX1_tell_33 rfl rfl ?_
      refine r_getR hC 7 fl1_15 ob1 rfl dX1_tell_34 ?_
      refine r_aload_n hC 1 dX1_tell_37 rfl rfl ?_
      refine r_getI hC fl1_34 ob1 rfl dX1_tell_38 ?_
      refine r_iload_n hC 2 dX1_tell_41 rfl rfl ?_
      obtain ⟨g5, hO⟩ := hO
      refine r_iast hC sh1_1 g5 ((μ.1 6 5).toNatClampNeg) rfl dX1_tell_42 ?_
      refine r_nmM (fun μ6 hμ6 => ?_)
      have hO := hO μ6 hμ6
      refine r_aload_n hC 1 dX1_tell_43 rfl rfl ?_
      refine r_getR hC 8 fl1_19 ob1 rfl dX1_tell_44 ?_
      refine r_aload_n hC 1 dX1_tell_47 rfl rfl ?_
      refine r_getI hC fl1_34 ob1 rfl dX1_tell_48 ?_
      refine r_iload_n hC 3 dX1_tell_51 rfl rfl ?_
      obtain ⟨g7, hO⟩ := hO
      refine r_iast hC sh1_2 g7 ((μ6.1 6 5).toNatClampNeg) rfl dX1_tell_52 ?_
      refine r_nmM (fun μ8 hμ8 => ?_)
      have hO := hO μ8 hμ8
      refine r_aload_n hC 1 dX1_tell_53 rfl rfl ?_
      refine r_getR hC 9 fl1_22 ob1 rfl dX1_tell_54 ?_
      refine r_aload_n hC 1 dX1_tell_57 rfl rfl ?_
      refine r_getI hC fl1_34 ob1 rfl dX1_tell_58 ?_
      refine r_iload hC 0 dX1_tell_61 rfl ?_
      obtain ⟨g9, hO⟩ := hO
      refine r_iast hC sh1_3 g9 ((μ8.1 6 5).toNatClampNeg) rfl dX1_tell_63 ?_
      refine r_nmM (fun μ10 hμ10 => ?_)
      have hO := hO μ10 hμ10
      refine r_aload_n hC 1 dX1_tell_64 rfl rfl ?_
      refine r_getR hC 10 fl1_25 ob1 rfl dX1_tell_65 ?_
      refine r_aload_n hC 1 dX1_tell_68 rfl rfl ?_
      refine r_getI hC fl1_34 ob1 rfl dX1_tell_69 ?_
      refine r_iload_n hC 4 dX1_tell_72 rfl rfl ?_
      obtain ⟨g11, hO⟩ := hO
      refine r_iast hC sh1_4 g11 ((μ10.1 6 5).toNatClampNeg) rfl dX1_tell_73 ?_
      refine r_nmM (fun μ12 hμ12 => ?_)
      have hO := hO μ12 hμ12
      refine r_aload_n hC 1 dX1_tell_74 rfl rfl ?_
      refine r_dup hC dX1_tell_75 rfl ?_
      refine r_getI hC fl1_34 ob1 rfl dX1_tell_76 ?_
      refine r_iconst hC 1 dX1_tell_79 (by decide) ?_
      refine r_iadd hC dX1_tell_80 ?_
      refine r_putI hC fl1_34 ob1 rfl rfl rfl dX1_tell_81 ?_
      refine r_nmM (fun μ13 hμ13 => ?_)
      have hO := hO μ13 hμ13
      refine r_aload_n hC 1 dX1_tell_84 rfl rfl ?_
      refine r_aload_n hC 1 dX1_tell_85 rfl rfl ?_
      refine r_getI hC fl1_34 ob1 rfl dX1_tell_86 ?_
      refine r_putI hC fl1_41 ob1 rfl rfl rfl dX1_tell_89 ?_
      refine r_nmM (fun μ14 hμ14 => ?_)
      have hO := hO μ14 hμ14
      refine r_aload_n hC 1 dX1_tell_92 rfl rfl ?_
      refine r_getR hC 1 fl1_9 ob1 rfl dX1_tell_93 ?_
      refine r_iload_n hC 2 dX1_tell_96 rfl rfl ?_
      refine r_iload_n hC 3 dX1_tell_97 rfl rfl ?_
      refine r_iload_n hC 4 dX1_tell_98 rfl rfl ?_
      refine r_callVv hC [.int p1, .int p2, .int p3] (T2_tell sh1_0 hO) yv2_tell ml1_44 sh1_0 rfl ⟨Nat.le_of_ble_eq_true rfl, Nat.le_of_ble_eq_true rfl⟩ rfl rfl (Nat.le_of_ble_eq_true rfl) dX1_tell_99 (fun μ15 hO => ?_)
      refine r_iload hC 0 dX1_tell_102 rfl ?_
      exact r_iret hC rfl dX1_tell_104 hO
    · have hO := hO.2 h4
      refine r_aload_n hC 1 dX1_tell_29 rfl rfl ?_
      refine r_callVv hC [] (T1_dropOldest  hO) yv1_dropOldest ml1_38 ob1 rfl ⟨Nat.le_of_ble_eq_true rfl, Nat.le_of_ble_eq_true rfl⟩ rfl rfl (Nat.le_of_ble_eq_true rfl) dX1_tell_30 (fun μ16 hO => ?_)
      refine r_aload_n hC 1 dX1_tell_33 rfl rfl ?_
      refine r_getR hC 7 fl1_15 ob1 rfl dX1_tell_34 ?_
      refine r_aload_n hC 1 dX1_tell_37 rfl rfl ?_
      refine r_getI hC fl1_34 ob1 rfl dX1_tell_38 ?_
      refine r_iload_n hC 2 dX1_tell_41 rfl rfl ?_
      obtain ⟨g17, hO⟩ := hO
      refine r_iast hC sh1_1 g17 ((μ16.1 6 5).toNatClampNeg) rfl dX1_tell_42 ?_
      refine r_nmM (fun μ18 hμ18 => ?_)
      have hO := hO μ18 hμ18
      refine r_aload_n hC 1 dX1_tell_43 rfl rfl ?_
      refine r_getR hC 8 fl1_19 ob1 rfl dX1_tell_44 ?_
      refine r_aload_n hC 1 dX1_tell_47 rfl rfl ?_
      refine r_getI hC fl1_34 ob1 rfl dX1_tell_48 ?_
      refine r_iload_n hC 3 dX1_tell_51 rfl rfl ?_
      obtain ⟨g19, hO⟩ := hO
      refine r_iast hC sh1_2 g19 ((μ18.1 6 5).toNatClampNeg) rfl dX1_tell_52 ?_
      refine r_nmM (fun μ20 hμ20 => ?_)
      have hO := hO μ20 hμ20
      refine r_aload_n hC 1 dX1_tell_53 rfl rfl ?_
      refine r_getR hC 9 fl1_22 ob1 rfl dX1_tell_54 ?_
      refine r_aload_n hC 1 dX1_tell_57 rfl rfl ?_
      refine r_getI hC fl1_34 ob1 rfl dX1_tell_58 ?_
      refine r_iload hC 0 dX1_tell_61 rfl ?_
      obtain ⟨g21, hO⟩ := hO
      refine r_iast hC sh1_3 g21 ((μ20.1 6 5).toNatClampNeg) rfl dX1_tell_63 ?_
      refine r_nmM (fun μ22 hμ22 => ?_)
      have hO := hO μ22 hμ22
      refine r_aload_n hC 1 dX1_tell_64 rfl rfl ?_
      refine r_getR hC 10 fl1_25 ob1 rfl dX1_tell_65 ?_
      refine r_aload_n hC 1 dX1_tell_68 rfl rfl ?_
      refine r_getI hC fl1_34 ob1 rfl dX1_tell_69 ?_
      refine r_iload_n hC 4 dX1_tell_72 rfl rfl ?_
      obtain ⟨g23, hO⟩ := hO
      refine r_iast hC sh1_4 g23 ((μ22.1 6 5).toNatClampNeg) rfl dX1_tell_73 ?_
      refine r_nmM (fun μ24 hμ24 => ?_)
      have hO := hO μ24 hμ24
      refine r_aload_n hC 1 dX1_tell_74 rfl rfl ?_
      refine r_dup hC dX1_tell_75 rfl ?_
      refine r_getI hC fl1_34 ob1 rfl dX1_tell_76 ?_
      refine r_iconst hC 1 dX1_tell_79 (by decide) ?_
      refine r_iadd hC dX1_tell_80 ?_
      refine r_putI hC fl1_34 ob1 rfl rfl rfl dX1_tell_81 ?_
      refine r_nmM (fun μ25 hμ25 => ?_)
      have hO := hO μ25 hμ25
      refine r_aload_n hC 1 dX1_tell_84 rfl rfl ?_
      refine r_aload_n hC 1 dX1_tell_85 rfl rfl ?_
      refine r_getI hC fl1_34 ob1 rfl dX1_tell_86 ?_
      refine r_putI hC fl1_41 ob1 rfl rfl rfl dX1_tell_89 ?_
      refine r_nmM (fun μ26 hμ26 => ?_)
      have hO := hO μ26 hμ26
      refine r_aload_n hC 1 dX1_tell_92 rfl rfl ?_
      refine r_getR hC 1 fl1_9 ob1 rfl dX1_tell_93 ?_
      refine r_iload_n hC 2 dX1_tell_96 rfl rfl ?_
      refine r_iload_n hC 3 dX1_tell_97 rfl rfl ?_
      refine r_iload_n hC 4 dX1_tell_98 rfl rfl ?_
      refine r_callVv hC [.int p1, .int p2, .int p3] (T2_tell sh1_0 hO) yv2_tell ml1_44 sh1_0 rfl ⟨Nat.le_of_ble_eq_true rfl, Nat.le_of_ble_eq_true rfl⟩ rfl rfl (Nat.le_of_ble_eq_true rfl) dX1_tell_99 (fun μ27 hO => ?_)
      refine r_iload hC 0 dX1_tell_102 rfl ?_
      exact r_iret hC rfl dX1_tell_104 hO
  · have hO := hO.1 h3
    refine r_iload hC 0 dX1_tell_17 rfl ?_
    exact r_iret hC rfl dX1_tell_19 hO
set_option maxHeartbeats 4000000 in
set_option maxRecDepth 100000 in
theorem T1_undoable {l : Launch} {G : mw_G}  {μ : mw_M} {Q : Int32 → Prop}  (hO : P1_undoable μ Q) : mw_Mi l G kdX yX1_undoable cX1_undoable 1 (some .int) 0 0 [.ref (mw_a G 6)] μ (mw_pq μ Q) := by
  refine mw_enter [(0, .ref (mw_a G 6))] RX1 (by decide) rfl (Nat.le_of_ble_eq_true rfl) rfl ?_
  intro p e s m args below meth c hC
  unfold P1_undoable at hO
  refine r_aload_n hC 0 dX1_undoable_0 rfl rfl ?_
  refine r_getI hC fl1_34 ob1 rfl dX1_undoable_1 ?_
  exact r_iret hC rfl dX1_undoable_4 ⟨hO, rfl⟩
set_option maxHeartbeats 4000000 in
set_option maxRecDepth 100000 in
theorem T1_redoable {l : Launch} {G : mw_G}  {μ : mw_M} {Q : Int32 → Prop}  (hO : P1_redoable μ Q) : mw_Mi l G kdX yX1_redoable cX1_redoable 1 (some .int) 0 0 [.ref (mw_a G 6)] μ (mw_pq μ Q) := by
  refine mw_enter [(0, .ref (mw_a G 6))] RX1 (by decide) rfl (Nat.le_of_ble_eq_true rfl) rfl ?_
  intro p e s m args below meth c hC
  unfold P1_redoable at hO
  refine r_aload_n hC 0 dX1_redoable_0 rfl rfl ?_
  refine r_getI hC fl1_41 ob1 rfl dX1_redoable_1 ?_
  refine r_aload_n hC 0 dX1_redoable_4 rfl rfl ?_
  refine r_getI hC fl1_34 ob1 rfl dX1_redoable_5 ?_
  refine r_isub hC dX1_redoable_8 ?_
  exact r_iret hC rfl dX1_redoable_9 ⟨hO, rfl⟩
set_option maxHeartbeats 4000000 in
set_option maxRecDepth 100000 in
theorem T1_takeBack {l : Launch} {G : mw_G}  {μ : mw_M} {Q : Int32 → mw_M → Prop}  (hO : P1_takeBack μ Q) : mw_Mi l G kdX yX1_takeBack cX1_takeBack 1 (some .int) 2 44 [.ref (mw_a G 6)] μ (Q) := by
  refine mw_enter [(0, .ref (mw_a G 6))] RX1 (by decide) rfl (Nat.le_of_ble_eq_true rfl) rfl ?_
  intro p e s m args below meth c hC
  unfold P1_takeBack at hO
  refine r_aload_n hC 0 dX1_takeBack_0 rfl rfl ?_
  refine r_getI hC fl1_34 ob1 rfl dX1_takeBack_1 ?_
  refine r_iconst hC 1 dX1_takeBack_4 (by decide) ?_
  refine r_icmp_ge hC 11 dX1_takeBack_5 (by decide) (fun h1 => ?_) (fun h1 => ?_)
  · have hO := hO.1 h1
    refine r_aload_n hC 0 dX1_takeBack_11 rfl rfl ?_
    refine r_dup hC dX1_takeBack_12 rfl ?_
    refine r_getI hC fl1_34 ob1 rfl dX1_takeBack_13 ?_
    refine r_iconst hC 1 dX1_takeBack_16 (by decide) ?_
    refine r_isub hC dX1_takeBack_17 ?_
    refine r_putI hC fl1_34 ob1 rfl rfl rfl dX1_takeBack_18 ?_
    refine r_nmM (fun μ2 hμ2 => ?_)
    have hO := hO μ2 hμ2
    refine r_aload_n hC 0 dX1_takeBack_21 rfl rfl ?_
    refine r_getR hC 1 fl1_9 ob1 rfl dX1_takeBack_22 ?_
    refine r_aload_n hC 0 dX1_takeBack_25 rfl rfl ?_
    refine r_getR hC 7 fl1_15 ob1 rfl dX1_takeBack_26 ?_
    refine r_aload_n hC 0 dX1_takeBack_29 rfl rfl ?_
    refine r_getI hC fl1_34 ob1 rfl dX1_takeBack_30 ?_
    obtain ⟨g3, hO⟩ := hO
    refine r_iald hC sh1_1 g3 ((μ2.1 6 5).toNatClampNeg) rfl dX1_takeBack_33 ?_
    refine r_aload_n hC 0 dX1_takeBack_34 rfl rfl ?_
    refine r_getR hC 8 fl1_19 ob1 rfl dX1_takeBack_35 ?_
    refine r_aload_n hC 0 dX1_takeBack_38 rfl rfl ?_
    refine r_getI hC fl1_34 ob1 rfl dX1_takeBack_39 ?_
    obtain ⟨g4, hO⟩ := hO
    refine r_iald hC sh1_2 g4 ((μ2.1 6 5).toNatClampNeg) rfl dX1_takeBack_42 ?_
    refine r_aload_n hC 0 dX1_takeBack_43 rfl rfl ?_
    refine r_getR hC 9 fl1_22 ob1 rfl dX1_takeBack_44 ?_
    refine r_aload_n hC 0 dX1_takeBack_47 rfl rfl ?_
    refine r_getI hC fl1_34 ob1 rfl dX1_takeBack_48 ?_
    obtain ⟨g5, hO⟩ := hO
    refine r_iald hC sh1_3 g5 ((μ2.1 6 5).toNatClampNeg) rfl dX1_takeBack_51 ?_
    refine r_callVv hC [.int (μ2.1 7 ((μ2.1 6 5).toNatClampNeg)), .int (μ2.1 8 ((μ2.1 6 5).toNatClampNeg)), .int (μ2.1 9 ((μ2.1 6 5).toNatClampNeg))] (T2_tell sh1_0 hO) yv2_tell ml1_44 sh1_0 rfl ⟨Nat.le_of_ble_eq_true rfl, Nat.le_of_ble_eq_true rfl⟩ rfl rfl (Nat.le_of_ble_eq_true rfl) dX1_takeBack_52 (fun μ6 hO => ?_)
    refine r_aload_n hC 0 dX1_takeBack_55 rfl rfl ?_
    refine r_callVi hC [] (T1_undoable  hO) yv1_undoable ml1_48 ob1 rfl ⟨Nat.le_of_ble_eq_true rfl, Nat.le_of_ble_eq_true rfl⟩ rfl rfl (Nat.le_of_ble_eq_true rfl) dX1_takeBack_56 (fun r7 μ8 hO => ?_)
    obtain ⟨hO, hm⟩ := hO
    refine r_memEq hm ?_
    exact r_iret hC rfl dX1_takeBack_59 hO
  · have hO := hO.2 h1
    refine r_bipush hC (-5) dX1_takeBack_8 (by decide) ?_
    exact r_iret hC rfl dX1_takeBack_10 hO
