set_option maxHeartbeats 4000000 in
set_option maxRecDepth 100000 in
theorem T10_loads {l : Launch} {G : mw_G} {p1 : Int32} {p2 : Int32} {p3 : Int32} {p4 : Int32} {μ : mw_M} {Q : Int32 → mw_M → Prop}  (hO : P10_loads p1 p2 p3 p4 μ Q) : mw_Mi l G kdX yX10_loads cX10_loads 5 (some .int) 6 171 [.ref (mw_a G 0), .int p1, .int p2, .int p3, .int p4] μ (Q) := by
  refine mw_enter [(0, .ref (mw_a G 0)), (1, .int p1), (2, .int p2), (3, .int p3), (4, .int p4)] RX10 (by decide) rfl (Nat.le_of_ble_eq_true rfl) rfl ?_
  intro p e s m args below meth c hC
  unfold P10_loads at hO
  refine r_aload_n hC 0 dX10_loads_0 rfl rfl ?_
  refine r_iload_n hC 1 dX10_loads_1 rfl rfl ?_
  refine r_callVi hC [.int p1] (T10_isRuleAndFloor  hO) yv10_isRuleAndFloor ml10_186 ob10 rfl ⟨Nat.le_of_ble_eq_true rfl, Nat.le_of_ble_eq_true rfl⟩ rfl rfl (Nat.le_of_ble_eq_true rfl) dX10_loads_2 (fun r1 μ2 hO => ?_)
  rcases hO with ⟨hr, hO⟩ | ⟨hr, hO⟩
  · refine r_topEq hr ?_
    obtain ⟨hO, hm⟩ := hO
    refine r_memEq hm ?_
    refine r_if_eq hC 28 dX10_loads_5 (by decide) (fun h => absurd h (by decide)) (fun _ => ?_)
    refine r_iload_n hC 2 dX10_loads_8 rfl rfl ?_
    refine r_bipush hC 50 dX10_loads_9 (by decide) ?_
    refine r_callSi hC [.int p2, .int 50] (T10_isGoalAndCount  hO) yv10_isGoalAndCount ml10_189 ⟨Nat.le_of_ble_eq_true rfl, Nat.le_of_ble_eq_true rfl⟩ rfl rfl (Nat.le_of_ble_eq_true rfl) dX10_loads_11 (fun r3 μ4 hO => ?_)
    rcases hO with ⟨hr, hO⟩ | ⟨hr, hO⟩
    · refine r_topEq hr ?_
      obtain ⟨hO, hm⟩ := hO
      refine r_memEq hm ?_
      refine r_if_eq hC 28 dX10_loads_14 (by decide) (fun h => absurd h (by decide)) (fun _ => ?_)
      refine r_iload hC 4 dX10_loads_17 rfl ?_
      refine r_if_lt hC 28 dX10_loads_19 (by decide) (fun h5 => ?_) (fun h5 => ?_)
      · have hO := hO.1 h5
        refine r_iconst hC (-1) dX10_loads_28 (by decide) ?_
        exact r_iret hC rfl dX10_loads_29 hO
      · have hO := hO.2 h5
        refine r_iload hC 4 dX10_loads_22 rfl ?_
        refine r_iconst hC 3 dX10_loads_24 (by decide) ?_
        refine r_icmp_le hC 30 dX10_loads_25 (by decide) (fun h6 => ?_) (fun h6 => ?_)
        · have hO := hO.1 h6
          refine r_aload_n hC 0 dX10_loads_30 rfl rfl ?_
          refine r_getR hC 44 fl10_53 ob10 rfl dX10_loads_31 ?_
          refine r_iload_n hC 1 dX10_loads_34 rfl rfl ?_
          refine r_bipush hC 10 dX10_loads_35 (by decide) ?_
          refine r_idiv hC dX10_loads_37 (by decide) ?_
          refine r_iload_n hC 1 dX10_loads_38 rfl rfl ?_
          refine r_bipush hC 10 dX10_loads_39 (by decide) ?_
          refine r_irem hC dX10_loads_41 (by decide) ?_
          refine r_iload_n hC 2 dX10_loads_42 rfl rfl ?_
          refine r_sipush hC 1000 dX10_loads_43 (by decide) ?_
          refine r_idiv hC dX10_loads_46 (by decide) ?_
          refine r_iload_n hC 2 dX10_loads_47 rfl rfl ?_
          refine r_sipush hC 1000 dX10_loads_48 (by decide) ?_
          refine r_irem hC dX10_loads_51 (by decide) ?_
          refine r_iload_n hC 3 dX10_loads_52 rfl rfl ?_
          refine r_callVv hC [.int (p1 / 10), .int (mw_rem p1 10), .int (p2 / 1000), .int (mw_rem p2 1000), .int p3] (T8_walkOften  hO) yv8_walkOften ml10_250 sh10_5 rfl ⟨Nat.le_of_ble_eq_true rfl, Nat.le_of_ble_eq_true rfl⟩ rfl rfl (Nat.le_of_ble_eq_true rfl) dX10_loads_53 (fun μ7 hO => ?_)
          refine r_aload_n hC 0 dX10_loads_56 rfl rfl ?_
          refine r_getR hC 44 fl10_53 ob10 rfl dX10_loads_57 ?_
          refine r_iload hC 4 dX10_loads_60 rfl ?_
          refine r_callVi hC [.int p4] (T8_tallied  hO) yv8_tallied ml10_254 sh10_5 rfl ⟨Nat.le_of_ble_eq_true rfl, Nat.le_of_ble_eq_true rfl⟩ rfl rfl (Nat.le_of_ble_eq_true rfl) dX10_loads_62 (fun r8 μ9 hO => ?_)
          obtain ⟨hO, hm⟩ := hO
          refine r_memEq hm ?_
          exact r_iret hC rfl dX10_loads_65 hO
        · have hO := hO.2 h6
          refine r_iconst hC (-1) dX10_loads_28 (by decide) ?_
          exact r_iret hC rfl dX10_loads_29 hO
    · refine r_topEq hr ?_
      obtain ⟨hO, hm⟩ := hO
      refine r_memEq hm ?_
      refine r_if_eq hC 28 dX10_loads_14 (by decide) (fun _ => ?_) (fun h => absurd (by decide) h)
      refine r_iconst hC (-1) dX10_loads_28 (by decide) ?_
      exact r_iret hC rfl dX10_loads_29 hO
  · refine r_topEq hr ?_
    obtain ⟨hO, hm⟩ := hO
    refine r_memEq hm ?_
    refine r_if_eq hC 28 dX10_loads_5 (by decide) (fun _ => ?_) (fun h => absurd (by decide) h)
    refine r_iconst hC (-1) dX10_loads_28 (by decide) ?_
    exact r_iret hC rfl dX10_loads_29 hO
set_option maxHeartbeats 4000000 in
set_option maxRecDepth 100000 in
theorem T10_best {l : Launch} {G : mw_G} {p1 : Int32} {p2 : Int32} {p3 : Int32} {μ : mw_M} {Q : Int32 → mw_M → Prop}  (hO : P10_best p1 p2 p3 μ Q) : mw_Mi l G kdX yX10_best cX10_best 4 (some .int) 7 199 [.ref (mw_a G 0), .int p1, .int p2, .int p3] μ (Q) := by
  refine mw_enter [(0, .ref (mw_a G 0)), (1, .int p1), (2, .int p2), (3, .int p3)] RX10 (by decide) rfl (Nat.le_of_ble_eq_true rfl) rfl ?_
  intro p e s m args below meth c hC
  unfold P10_best at hO
  refine r_aload_n hC 0 dX10_best_0 rfl rfl ?_
  refine r_getR hC 11 fl10_28 ob10 rfl dX10_best_1 ?_
  refine r_iload_n hC 1 dX10_best_4 rfl rfl ?_
  refine r_callVi hC [.int p1] (T5_hasFloor  hO) yv5_hasFloor ml10_207 sh10_2 rfl ⟨Nat.le_of_ble_eq_true rfl, Nat.le_of_ble_eq_true rfl⟩ rfl rfl (Nat.le_of_ble_eq_true rfl) dX10_best_5 (fun r1 μ2 hO => ?_)
  rcases hO with ⟨hr, hO⟩ | ⟨hr, hO⟩
  · refine r_topEq hr ?_
    obtain ⟨hO, hm⟩ := hO
    refine r_memEq hm ?_
    refine r_if_eq hC 18 dX10_best_8 (by decide) (fun h => absurd h (by decide)) (fun _ => ?_)
    refine r_iload_n hC 2 dX10_best_11 rfl rfl ?_
    refine r_callSi hC [.int p2] (T5_isGoal  hO) yv5_isGoal ml10_210 ⟨Nat.le_of_ble_eq_true rfl, Nat.le_of_ble_eq_true rfl⟩ rfl rfl (Nat.le_of_ble_eq_true rfl) dX10_best_12 (fun r3 μ4 hO => ?_)
    rcases hO with ⟨hr, hO⟩ | ⟨hr, hO⟩
    · refine r_topEq hr ?_
      obtain ⟨hO, hm⟩ := hO
      refine r_memEq hm ?_
      refine r_if_ne hC 20 dX10_best_15 (by decide) (fun _ => ?_) (fun h => absurd h (by decide))
      refine r_aload_n hC 0 dX10_best_20 rfl rfl ?_
      refine r_getR hC 15 fl10_35 ob10 rfl dX10_best_21 ?_
      refine r_getI hC fl10_257 sh10_3 rfl dX10_best_24 ?_
      refine r_if_ne hC 35 dX10_best_27 (by decide) (fun h5 => ?_) (fun h5 => ?_)
      · have hO := hO.2 h5
        refine r_aload_n hC 0 dX10_best_35 rfl rfl ?_
        refine r_getR hC 44 fl10_53 ob10 rfl dX10_best_36 ?_
        refine r_iload_n hC 1 dX10_best_39 rfl rfl ?_
        refine r_iload_n hC 2 dX10_best_40 rfl rfl ?_
        refine r_iload_n hC 3 dX10_best_41 rfl rfl ?_
        refine r_callVi hC [.int p1, .int p2, .int p3] (T8_bestRule  hO) yv8_bestRule ml10_260 sh10_5 rfl ⟨Nat.le_of_ble_eq_true rfl, Nat.le_of_ble_eq_true rfl⟩ rfl rfl (Nat.le_of_ble_eq_true rfl) dX10_best_42 (fun r6 μ7 hO => ?_)
        exact r_iret hC rfl dX10_best_45 hO
      · have hO := hO.1 h5
        refine r_bipush hC (-5) dX10_best_30 (by decide) ?_
        refine r_goto hC 45 dX10_best_32 (by decide) ?_
        exact r_iret hC rfl dX10_best_45 hO
    · refine r_topEq hr ?_
      obtain ⟨hO, hm⟩ := hO
      refine r_memEq hm ?_
      refine r_if_ne hC 20 dX10_best_15 (by decide) (fun h => absurd (by decide) h) (fun _ => ?_)
      refine r_iconst hC (-1) dX10_best_18 (by decide) ?_
      exact r_iret hC rfl dX10_best_19 hO
  · refine r_topEq hr ?_
    obtain ⟨hO, hm⟩ := hO
    refine r_memEq hm ?_
    refine r_if_eq hC 18 dX10_best_8 (by decide) (fun _ => ?_) (fun h => absurd (by decide) h)
    refine r_iconst hC (-1) dX10_best_18 (by decide) ?_
    exact r_iret hC rfl dX10_best_19 hO
set_option maxHeartbeats 4000000 in
set_option maxRecDepth 100000 in
theorem T10_never {l : Launch} {G : mw_G} {p1 : Int32} {p2 : Int32} {p3 : Int32} {μ : mw_M} {Q : Int32 → mw_M → Prop}  (hO : P10_never p1 p2 p3 μ Q) : mw_Mi l G kdX yX10_never cX10_never 4 (some .int) 5 121 [.ref (mw_a G 0), .int p1, .int p2, .int p3] μ (Q) := by
  refine mw_enter [(0, .ref (mw_a G 0)), (1, .int p1), (2, .int p2), (3, .int p3)] RX10 (by decide) rfl (Nat.le_of_ble_eq_true rfl) rfl ?_
  intro p e s m args below meth c hC
  unfold P10_never at hO
  refine r_aload_n hC 0 dX10_never_0 rfl rfl ?_
  refine r_getR hC 15 fl10_35 ob10 rfl dX10_never_1 ?_
  refine r_iload_n hC 1 dX10_never_4 rfl rfl ?_
  refine r_callVi hC [.int p1] (T4_has  hO) yv4_has ml10_179 sh10_3 rfl ⟨Nat.le_of_ble_eq_true rfl, Nat.le_of_ble_eq_true rfl⟩ rfl rfl (Nat.le_of_ble_eq_true rfl) dX10_never_5 (fun r1 μ2 hO => ?_)
  rcases hO with ⟨hr, hO⟩ | ⟨hr, hO⟩
  · refine r_topEq hr ?_
    obtain ⟨hO, hm⟩ := hO
    refine r_memEq hm ?_
    refine r_if_eq hC 29 dX10_never_8 (by decide) (fun h => absurd h (by decide)) (fun _ => ?_)
    refine r_iload_n hC 2 dX10_never_11 rfl rfl ?_
    refine r_callSi hC [.int p2] (T5_isGoal  hO) yv5_isGoal ml10_210 ⟨Nat.le_of_ble_eq_true rfl, Nat.le_of_ble_eq_true rfl⟩ rfl rfl (Nat.le_of_ble_eq_true rfl) dX10_never_12 (fun r3 μ4 hO => ?_)
    rcases hO with ⟨hr, hO⟩ | ⟨hr, hO⟩
    · refine r_topEq hr ?_
      obtain ⟨hO, hm⟩ := hO
      refine r_memEq hm ?_
      refine r_if_eq hC 29 dX10_never_15 (by decide) (fun h => absurd h (by decide)) (fun _ => ?_)
      refine r_iload_n hC 3 dX10_never_18 rfl rfl ?_
      refine r_if_lt hC 29 dX10_never_19 (by decide) (fun h5 => ?_) (fun h5 => ?_)
      · have hO := hO.1 h5
        refine r_iconst hC (-1) dX10_never_29 (by decide) ?_
        exact r_iret hC rfl dX10_never_30 hO
      · have hO := hO.2 h5
        refine r_iload_n hC 3 dX10_never_22 rfl rfl ?_
        refine r_sipush hC 950 dX10_never_23 (by decide) ?_
        refine r_icmp_le hC 31 dX10_never_26 (by decide) (fun h6 => ?_) (fun h6 => ?_)
        · have hO := hO.1 h6
          refine r_aload_n hC 0 dX10_never_31 rfl rfl ?_
          refine r_getR hC 44 fl10_53 ob10 rfl dX10_never_32 ?_
          refine r_iload_n hC 1 dX10_never_35 rfl rfl ?_
          refine r_iload_n hC 2 dX10_never_36 rfl rfl ?_
          refine r_iload_n hC 3 dX10_never_37 rfl rfl ?_
          refine r_callVi hC [.int p1, .int p2, .int p3] (T8_isCalm  hO) yv8_isCalm ml10_263 sh10_5 rfl ⟨Nat.le_of_ble_eq_true rfl, Nat.le_of_ble_eq_true rfl⟩ rfl rfl (Nat.le_of_ble_eq_true rfl) dX10_never_38 (fun r7 μ8 hO => ?_)
          rcases hO with ⟨hr, hO⟩ | ⟨hr, hO⟩
          · refine r_topEq hr ?_
            refine r_if_eq hC 48 dX10_never_41 (by decide) (fun h => absurd h (by decide)) (fun _ => ?_)
            refine r_iconst hC 1 dX10_never_44 (by decide) ?_
            refine r_goto hC 49 dX10_never_45 (by decide) ?_
            exact r_iret hC rfl dX10_never_49 hO
          · refine r_topEq hr ?_
            refine r_if_eq hC 48 dX10_never_41 (by decide) (fun _ => ?_) (fun h => absurd (by decide) h)
            refine r_iconst hC 0 dX10_never_48 (by decide) ?_
            exact r_iret hC rfl dX10_never_49 hO
        · have hO := hO.2 h6
          refine r_iconst hC (-1) dX10_never_29 (by decide) ?_
          exact r_iret hC rfl dX10_never_30 hO
    · refine r_topEq hr ?_
      obtain ⟨hO, hm⟩ := hO
      refine r_memEq hm ?_
      refine r_if_eq hC 29 dX10_never_15 (by decide) (fun _ => ?_) (fun h => absurd (by decide) h)
      refine r_iconst hC (-1) dX10_never_29 (by decide) ?_
      exact r_iret hC rfl dX10_never_30 hO
  · refine r_topEq hr ?_
    obtain ⟨hO, hm⟩ := hO
    refine r_memEq hm ?_
    refine r_if_eq hC 29 dX10_never_8 (by decide) (fun _ => ?_) (fun h => absurd (by decide) h)
    refine r_iconst hC (-1) dX10_never_29 (by decide) ?_
    exact r_iret hC rfl dX10_never_30 hO
set_option maxHeartbeats 4000000 in
set_option maxRecDepth 100000 in
theorem T10_beside {l : Launch} {G : mw_G} {p1 : Int32} {p2 : Int32} {μ : mw_M} {Q : Int32 → mw_M → Prop}  (hO : P10_beside p1 p2 μ Q) : mw_Mi l G kdX yX10_beside cX10_beside 3 (some .int) 5 120 [.ref (mw_a G 0), .int p1, .int p2] μ (Q) := by
  refine mw_enter [(0, .ref (mw_a G 0)), (1, .int p1), (2, .int p2)] RX10 (by decide) rfl (Nat.le_of_ble_eq_true rfl) rfl ?_
  intro p e s m args below meth c hC
  unfold P10_beside at hO
  refine r_iload_n hC 1 dX10_beside_0 rfl rfl ?_
  refine r_bipush hC 60 dX10_beside_1 (by decide) ?_
  refine r_icmp_lt hC 24 dX10_beside_3 (by decide) (fun h1 => ?_) (fun h1 => ?_)
  · have hO := hO.1 h1
    refine r_iconst hC (-1) dX10_beside_24 (by decide) ?_
    exact r_iret hC rfl dX10_beside_25 hO
  · have hO := hO.2 h1
    refine r_iload_n hC 1 dX10_beside_6 rfl rfl ?_
    refine r_callSi hC [.int p1] (T5_isPace  hO) yv5_isPace ml10_155 ⟨Nat.le_of_ble_eq_true rfl, Nat.le_of_ble_eq_true rfl⟩ rfl rfl (Nat.le_of_ble_eq_true rfl) dX10_beside_7 (fun r2 μ3 hO => ?_)
    rcases hO with ⟨hr, hO⟩ | ⟨hr, hO⟩
    · refine r_topEq hr ?_
      obtain ⟨hO, hm⟩ := hO
      refine r_memEq hm ?_
      refine r_if_eq hC 24 dX10_beside_10 (by decide) (fun h => absurd h (by decide)) (fun _ => ?_)
      refine r_iload_n hC 2 dX10_beside_13 rfl rfl ?_
      refine r_if_lt hC 24 dX10_beside_14 (by decide) (fun h4 => ?_) (fun h4 => ?_)
      · have hO := hO.1 h4
        refine r_iconst hC (-1) dX10_beside_24 (by decide) ?_
        exact r_iret hC rfl dX10_beside_25 hO
      · have hO := hO.2 h4
        refine r_iload_n hC 2 dX10_beside_17 rfl rfl ?_
        refine r_sipush hC 9999 dX10_beside_18 (by decide) ?_
        refine r_icmp_le hC 26 dX10_beside_21 (by decide) (fun h5 => ?_) (fun h5 => ?_)
        · have hO := hO.1 h5
          refine r_aload_n hC 0 dX10_beside_26 rfl rfl ?_
          refine r_getR hC 44 fl10_53 ob10 rfl dX10_beside_27 ?_
          refine r_iload_n hC 1 dX10_beside_30 rfl rfl ?_
          refine r_iload_n hC 2 dX10_beside_31 rfl rfl ?_
          refine r_callVi hC [.int p1, .int p2] (T8_ticksTillDry  hO) yv8_ticksTillDry ml10_266 sh10_5 rfl ⟨Nat.le_of_ble_eq_true rfl, Nat.le_of_ble_eq_true rfl⟩ rfl rfl (Nat.le_of_ble_eq_true rfl) dX10_beside_32 (fun r6 μ7 hO => ?_)
          exact r_iret hC rfl dX10_beside_35 hO
        · have hO := hO.2 h5
          refine r_iconst hC (-1) dX10_beside_24 (by decide) ?_
          exact r_iret hC rfl dX10_beside_25 hO
    · refine r_topEq hr ?_
      obtain ⟨hO, hm⟩ := hO
      refine r_memEq hm ?_
      refine r_if_eq hC 24 dX10_beside_10 (by decide) (fun _ => ?_) (fun h => absurd (by decide) h)
      refine r_iconst hC (-1) dX10_beside_24 (by decide) ?_
      exact r_iret hC rfl dX10_beside_25 hO
set_option maxHeartbeats 4000000 in
set_option maxRecDepth 100000 in
theorem T10_undo {l : Launch} {G : mw_G}  {μ : mw_M} {Q : Int32 → mw_M → Prop}  (hO : P10_undo μ Q) : mw_Mi l G kdX yX10_undo cX10_undo 1 (some .int) 3 64 [.ref (mw_a G 0)] μ (Q) := by
  refine mw_enter [(0, .ref (mw_a G 0))] RX10 (by decide) rfl (Nat.le_of_ble_eq_true rfl) rfl ?_
  intro p e s m args below meth c hC
  unfold P10_undo at hO
  refine r_aload_n hC 0 dX10_undo_0 rfl rfl ?_
  refine r_getR hC 6 fl10_21 ob10 rfl dX10_undo_1 ?_
  refine r_callVi hC [] (T1_undoable  hO) yv1_undoable ml10_269 sh10_1 rfl ⟨Nat.le_of_ble_eq_true rfl, Nat.le_of_ble_eq_true rfl⟩ rfl rfl (Nat.le_of_ble_eq_true rfl) dX10_undo_4 (fun r1 μ2 hO => ?_)
  obtain ⟨hO, hm⟩ := hO
  refine r_memEq hm ?_
  refine r_if_ne hC 15 dX10_undo_7 (by decide) (fun h3 => ?_) (fun h3 => ?_)
  · have hO := hO.2 h3
    refine r_aload_n hC 0 dX10_undo_15 rfl rfl ?_
    refine r_getR hC 6 fl10_21 ob10 rfl dX10_undo_16 ?_
    refine r_callVi hC [] (T1_takeBack  hO) yv1_takeBack ml10_272 sh10_1 rfl ⟨Nat.le_of_ble_eq_true rfl, Nat.le_of_ble_eq_true rfl⟩ rfl rfl (Nat.le_of_ble_eq_true rfl) dX10_undo_19 (fun r4 μ5 hO => ?_)
    exact r_iret hC rfl dX10_undo_22 hO
  · have hO := hO.1 h3
    refine r_bipush hC (-5) dX10_undo_10 (by decide) ?_
    refine r_goto hC 22 dX10_undo_12 (by decide) ?_
    exact r_iret hC rfl dX10_undo_22 hO
set_option maxHeartbeats 4000000 in
set_option maxRecDepth 100000 in
theorem T10_redo {l : Launch} {G : mw_G}  {μ : mw_M} {Q : Int32 → mw_M → Prop}  (hO : P10_redo μ Q) : mw_Mi l G kdX yX10_redo cX10_redo 1 (some .int) 3 64 [.ref (mw_a G 0)] μ (Q) := by
  refine mw_enter [(0, .ref (mw_a G 0))] RX10 (by decide) rfl (Nat.le_of_ble_eq_true rfl) rfl ?_
  intro p e s m args below meth c hC
  unfold P10_redo at hO
  refine r_aload_n hC 0 dX10_redo_0 rfl rfl ?_
  refine r_getR hC 6 fl10_21 ob10 rfl dX10_redo_1 ?_
  refine r_callVi hC [] (T1_redoable  hO) yv1_redoable ml10_275 sh10_1 rfl ⟨Nat.le_of_ble_eq_true rfl, Nat.le_of_ble_eq_true rfl⟩ rfl rfl (Nat.le_of_ble_eq_true rfl) dX10_redo_4 (fun r1 μ2 hO => ?_)
  obtain ⟨hO, hm⟩ := hO
  refine r_memEq hm ?_
  refine r_if_ne hC 15 dX10_redo_7 (by decide) (fun h3 => ?_) (fun h3 => ?_)
  · have hO := hO.2 h3
    refine r_aload_n hC 0 dX10_redo_15 rfl rfl ?_
    refine r_getR hC 6 fl10_21 ob10 rfl dX10_redo_16 ?_
    refine r_callVi hC [] (T1_doAgain  hO) yv1_doAgain ml10_278 sh10_1 rfl ⟨Nat.le_of_ble_eq_true rfl, Nat.le_of_ble_eq_true rfl⟩ rfl rfl (Nat.le_of_ble_eq_true rfl) dX10_redo_19 (fun r4 μ5 hO => ?_)
    exact r_iret hC rfl dX10_redo_22 hO
  · have hO := hO.1 h3
    refine r_bipush hC (-5) dX10_redo_10 (by decide) ?_
    refine r_goto hC 22 dX10_redo_12 (by decide) ?_
    exact r_iret hC rfl dX10_redo_22 hO
set_option maxHeartbeats 4000000 in
set_option maxRecDepth 100000 in
theorem T10_body {l : Launch} {G : mw_G} {p1 : Int32} {μ : mw_M} {Q : Int32 → mw_M → Prop}  (hO : P10_body p1 μ Q) : mw_Mi l G kdX yX10_body cX10_body 2 (some .int) 1 21 [.ref (mw_a G 0), .int p1] μ (Q) := by
  refine mw_enter [(0, .ref (mw_a G 0)), (1, .int p1)] RX10 (by decide) rfl (Nat.le_of_ble_eq_true rfl) rfl ?_
  intro p e s m args below meth c hC
  unfold P10_body at hO
  refine r_iload_n hC 1 dX10_body_0 rfl rfl ?_
  refine r_callSi hC [.int p1] (T0_isKind  hO) yv0_isKind ml10_281 ⟨Nat.le_of_ble_eq_true rfl, Nat.le_of_ble_eq_true rfl⟩ rfl rfl (Nat.le_of_ble_eq_true rfl) dX10_body_1 (fun r1 μ2 hO => ?_)
  rcases hO with ⟨hr, hO⟩ | ⟨hr, hO⟩
  · refine r_topEq hr ?_
    obtain ⟨hO, hm⟩ := hO
    refine r_memEq hm ?_
    refine r_if_ne hC 9 dX10_body_4 (by decide) (fun _ => ?_) (fun h => absurd h (by decide))
    refine r_aload_n hC 0 dX10_body_9 rfl rfl ?_
    refine r_getR hC 62 fl10_60 ob10 rfl dX10_body_10 ?_
    refine r_callVi hC [] (T0_areFull  hO) yv0_areFull ml10_284 sh10_6 rfl ⟨Nat.le_of_ble_eq_true rfl, Nat.le_of_ble_eq_true rfl⟩ rfl rfl (Nat.le_of_ble_eq_true rfl) dX10_body_13 (fun r3 μ4 hO => ?_)
    rcases hO with ⟨hr, hO⟩ | ⟨hr, hO⟩
    · refine r_topEq hr ?_
      obtain ⟨hO, hm⟩ := hO
      refine r_memEq hm ?_
      refine r_if_eq hC 24 dX10_body_16 (by decide) (fun h => absurd h (by decide)) (fun _ => ?_)
      refine r_bipush hC (-3) dX10_body_19 (by decide) ?_
      refine r_goto hC 32 dX10_body_21 (by decide) ?_
      exact r_iret hC rfl dX10_body_32 hO
    · refine r_topEq hr ?_
      obtain ⟨hO, hm⟩ := hO
      refine r_memEq hm ?_
      refine r_if_eq hC 24 dX10_body_16 (by decide) (fun _ => ?_) (fun h => absurd (by decide) h)
      refine r_aload_n hC 0 dX10_body_24 rfl rfl ?_
      refine r_getR hC 62 fl10_60 ob10 rfl dX10_body_25 ?_
      refine r_iload_n hC 1 dX10_body_28 rfl rfl ?_
      refine r_callVi hC [.int p1] (T0_keepOne  hO) yv0_keepOne ml10_285 sh10_6 rfl ⟨Nat.le_of_ble_eq_true rfl, Nat.le_of_ble_eq_true rfl⟩ rfl rfl (Nat.le_of_ble_eq_true rfl) dX10_body_29 (fun r5 μ6 hO => ?_)
      exact r_iret hC rfl dX10_body_32 hO
  · refine r_topEq hr ?_
    obtain ⟨hO, hm⟩ := hO
    refine r_memEq hm ?_
    refine r_if_ne hC 9 dX10_body_4 (by decide) (fun h => absurd (by decide) h) (fun _ => ?_)
    refine r_iconst hC (-1) dX10_body_7 (by decide) ?_
    exact r_iret hC rfl dX10_body_8 hO
set_option maxHeartbeats 4000000 in
set_option maxRecDepth 100000 in
theorem T10_act {l : Launch} {G : mw_G} {p1 : Int32} {p2 : Int32} {p3 : Int32} {μ : mw_M} {Q : Int32 → mw_M → Prop}  (hO : P10_act p1 p2 p3 μ Q) : mw_Mi l G kdX yX10_act cX10_act 4 (some .int) 68 1754 [.ref (mw_a G 0), .int p1, .int p2, .int p3] μ (Q) := by
  refine mw_enter [(0, .ref (mw_a G 0)), (1, .int p1), (2, .int p2), (3, .int p3)] RX10 (by decide) rfl (Nat.le_of_ble_eq_true rfl) rfl ?_
  intro p e s m args below meth c hC
  unfold P10_act at hO
  refine r_aload_n hC 0 dX10_act_0 rfl rfl ?_
  refine r_getR hC 62 fl10_60 ob10 rfl dX10_act_1 ?_
  refine r_iload_n hC 1 dX10_act_4 rfl rfl ?_
  refine r_iload_n hC 2 dX10_act_5 rfl rfl ?_
  refine r_iload_n hC 3 dX10_act_6 rfl rfl ?_
  refine r_callVi hC [.int p1, .int p2, .int p3] (T0_begin  hO) yv0_begin ml10_288 sh10_6 rfl ⟨Nat.le_of_ble_eq_true rfl, Nat.le_of_ble_eq_true rfl⟩ rfl rfl (Nat.le_of_ble_eq_true rfl) dX10_act_7 (fun r1 μ2 hO => ?_)
  exact r_iret hC rfl dX10_act_10 hO
set_option maxHeartbeats 4000000 in
set_option maxRecDepth 100000 in
theorem T10_trace {l : Launch} {G : mw_G} {p1 : Int32} {μ : mw_M} {Q : Int32 → Prop}  (hO : P10_trace p1 μ Q) : mw_Mi l G kdX yX10_trace cX10_trace 2 (some .int) 2 60 [.ref (mw_a G 0), .int p1] μ (mw_pq μ Q) := by
  refine mw_enter [(0, .ref (mw_a G 0)), (1, .int p1)] RX10 (by decide) rfl (Nat.le_of_ble_eq_true rfl) rfl ?_
  intro p e s m args below meth c hC
  unfold P10_trace at hO
  refine r_iload_n hC 1 dX10_trace_0 rfl rfl ?_
  refine r_if_lt hC 26 dX10_trace_1 (by decide) (fun h1 => ?_) (fun h1 => ?_)
  · have hO := hO.1 h1
    refine r_iconst hC (-1) dX10_trace_26 (by decide) ?_
    exact r_iret hC rfl dX10_trace_27 ⟨hO, rfl⟩
  · have hO := hO.2 h1
    refine r_iload_n hC 1 dX10_trace_4 rfl rfl ?_
    refine r_aload_n hC 0 dX10_trace_5 rfl rfl ?_
    refine r_getR hC 62 fl10_60 ob10 rfl dX10_trace_6 ?_
    refine r_callVi hC [] (T0_traced  hO) yv0_traced ml10_291 sh10_6 rfl ⟨Nat.le_of_ble_eq_true rfl, Nat.le_of_ble_eq_true rfl⟩ rfl rfl (Nat.le_of_ble_eq_true rfl) dX10_trace_9 (fun r2 μ3 hO => ?_)
    obtain ⟨hO, hm⟩ := hO
    refine r_memEq hm ?_
    refine r_icmp_ge hC 26 dX10_trace_12 (by decide) (fun h4 => ?_) (fun h4 => ?_)
    · have hO := hO.1 h4
      refine r_iconst hC (-1) dX10_trace_26 (by decide) ?_
      exact r_iret hC rfl dX10_trace_27 ⟨hO, rfl⟩
    · have hO := hO.2 h4
      refine r_aload_n hC 0 dX10_trace_15 rfl rfl ?_
      refine r_getR hC 62 fl10_60 ob10 rfl dX10_trace_16 ?_
      refine r_iload_n hC 1 dX10_trace_19 rfl rfl ?_
      refine r_callVi hC [.int p1] (T0_traceAt  hO) yv0_traceAt ml10_294 sh10_6 rfl ⟨Nat.le_of_ble_eq_true rfl, Nat.le_of_ble_eq_true rfl⟩ rfl rfl (Nat.le_of_ble_eq_true rfl) dX10_trace_20 (fun r5 μ6 hO => ?_)
      obtain ⟨hO, hm⟩ := hO
      refine r_memEq hm ?_
      refine r_goto hC 27 dX10_trace_23 (by decide) ?_
      exact r_iret hC rfl dX10_trace_27 ⟨hO, rfl⟩
set_option maxHeartbeats 4000000 in
set_option maxRecDepth 100000 in
theorem T10_keep {l : Launch} {G : mw_G} {p1 : Int32} {p2 : Int32} {μ : mw_M} {Q : Int32 → mw_M → Prop}  (hO : P10_keep p1 p2 μ Q) : mw_Mi l G kdX yX10_keep cX10_keep 3 (some .int) 2 42 [.ref (mw_a G 0), .int p1, .int p2] μ (Q) := by
  refine mw_enter [(0, .ref (mw_a G 0)), (1, .int p1), (2, .int p2)] RX10 (by decide) rfl (Nat.le_of_ble_eq_true rfl) rfl ?_
  intro p e s m args below meth c hC
  unfold P10_keep at hO
  refine r_iload_n hC 1 dX10_keep_0 rfl rfl ?_
  refine r_callSi hC [.int p1] (T6_isShelf  hO) yv6_isShelf ml10_83 ⟨Nat.le_of_ble_eq_true rfl, Nat.le_of_ble_eq_true rfl⟩ rfl rfl (Nat.le_of_ble_eq_true rfl) dX10_keep_1 (fun r1 μ2 hO => ?_)
  rcases hO with ⟨hr, hO⟩ | ⟨hr, hO⟩
  · refine r_topEq hr ?_
    obtain ⟨hO, hm⟩ := hO
    refine r_memEq hm ?_
    refine r_if_eq hC 23 dX10_keep_4 (by decide) (fun h => absurd h (by decide)) (fun _ => ?_)
    refine r_iload_n hC 2 dX10_keep_7 rfl rfl ?_
    refine r_iconst hC (-1) dX10_keep_8 (by decide) ?_
    refine r_icmp_eq hC 25 dX10_keep_9 (by decide) (fun h3 => ?_) (fun h3 => ?_)
    · have hO := hO.1 h3
      refine r_aload_n hC 0 dX10_keep_25 rfl rfl ?_
      refine r_getR hC 65 fl10_67 ob10 rfl dX10_keep_26 ?_
      refine r_iload_n hC 1 dX10_keep_29 rfl rfl ?_
      refine r_iload_n hC 2 dX10_keep_30 rfl rfl ?_
      refine r_callVv hC [.int p1, .int p2] (T6_hold  hO) yv6_hold ml10_300 sh10_7 rfl ⟨Nat.le_of_ble_eq_true rfl, Nat.le_of_ble_eq_true rfl⟩ rfl rfl (Nat.le_of_ble_eq_true rfl) dX10_keep_31 (fun μ4 hO => ?_)
      refine r_iconst hC 1 dX10_keep_34 (by decide) ?_
      exact r_iret hC rfl dX10_keep_35 hO
    · have hO := hO.2 h3
      refine r_aload_n hC 0 dX10_keep_12 rfl rfl ?_
      refine r_getR hC 62 fl10_60 ob10 rfl dX10_keep_13 ?_
      refine r_iload_n hC 2 dX10_keep_16 rfl rfl ?_
      refine r_callVi hC [.int p2] (T0_hasLoad  hO) yv0_hasLoad ml10_297 sh10_6 rfl ⟨Nat.le_of_ble_eq_true rfl, Nat.le_of_ble_eq_true rfl⟩ rfl rfl (Nat.le_of_ble_eq_true rfl) dX10_keep_17 (fun r5 μ6 hO => ?_)
      rcases hO with ⟨hr, hO⟩ | ⟨hr, hO⟩
      · refine r_topEq hr ?_
        obtain ⟨hO, hm⟩ := hO
        refine r_memEq hm ?_
        refine r_if_ne hC 25 dX10_keep_20 (by decide) (fun _ => ?_) (fun h => absurd h (by decide))
        refine r_aload_n hC 0 dX10_keep_25 rfl rfl ?_
        refine r_getR hC 65 fl10_67 ob10 rfl dX10_keep_26 ?_
        refine r_iload_n hC 1 dX10_keep_29 rfl rfl ?_
        refine r_iload_n hC 2 dX10_keep_30 rfl rfl ?_
        refine r_callVv hC [.int p1, .int p2] (T6_hold  hO) yv6_hold ml10_300 sh10_7 rfl ⟨Nat.le_of_ble_eq_true rfl, Nat.le_of_ble_eq_true rfl⟩ rfl rfl (Nat.le_of_ble_eq_true rfl) dX10_keep_31 (fun μ7 hO => ?_)
        refine r_iconst hC 1 dX10_keep_34 (by decide) ?_
        exact r_iret hC rfl dX10_keep_35 hO
      · refine r_topEq hr ?_
        obtain ⟨hO, hm⟩ := hO
        refine r_memEq hm ?_
        refine r_if_ne hC 25 dX10_keep_20 (by decide) (fun h => absurd (by decide) h) (fun _ => ?_)
        refine r_iconst hC (-1) dX10_keep_23 (by decide) ?_
        exact r_iret hC rfl dX10_keep_24 hO
  · refine r_topEq hr ?_
    obtain ⟨hO, hm⟩ := hO
    refine r_memEq hm ?_
    refine r_if_eq hC 23 dX10_keep_4 (by decide) (fun _ => ?_) (fun h => absurd (by decide) h)
    refine r_iconst hC (-1) dX10_keep_23 (by decide) ?_
    exact r_iret hC rfl dX10_keep_24 hO
set_option maxHeartbeats 4000000 in
set_option maxRecDepth 100000 in
theorem T10_row {l : Launch} {G : mw_G} {p1 : Int32} {p2 : Int32} {p3 : Int32} {μ : mw_M} {Q : Int32 → mw_M → Prop}  (hO : P10_row p1 p2 p3 μ Q) : mw_Mi l G kdX yX10_row cX10_row 4 (some .int) 2 44 [.ref (mw_a G 0), .int p1, .int p2, .int p3] μ (Q) := by
  refine mw_enter [(0, .ref (mw_a G 0)), (1, .int p1), (2, .int p2), (3, .int p3)] RX10 (by decide) rfl (Nat.le_of_ble_eq_true rfl) rfl ?_
  intro p e s m args below meth c hC
  unfold P10_row at hO
  refine r_iload_n hC 1 dX10_row_0 rfl rfl ?_
  refine r_callSi hC [.int p1] (T6_isShelf  hO) yv6_isShelf ml10_83 ⟨Nat.le_of_ble_eq_true rfl, Nat.le_of_ble_eq_true rfl⟩ rfl rfl (Nat.le_of_ble_eq_true rfl) dX10_row_1 (fun r1 μ2 hO => ?_)
  rcases hO with ⟨hr, hO⟩ | ⟨hr, hO⟩
  · refine r_topEq hr ?_
    obtain ⟨hO, hm⟩ := hO
    refine r_memEq hm ?_
    refine r_if_eq hC 20 dX10_row_4 (by decide) (fun h => absurd h (by decide)) (fun _ => ?_)
    refine r_iload_n hC 2 dX10_row_7 rfl rfl ?_
    refine r_callSi hC [.int p2] (T6_isSort  hO) yv6_isSort ml10_304 ⟨Nat.le_of_ble_eq_true rfl, Nat.le_of_ble_eq_true rfl⟩ rfl rfl (Nat.le_of_ble_eq_true rfl) dX10_row_8 (fun r3 μ4 hO => ?_)
    rcases hO with ⟨hr, hO⟩ | ⟨hr, hO⟩
    · refine r_topEq hr ?_
      obtain ⟨hO, hm⟩ := hO
      refine r_memEq hm ?_
      refine r_if_eq hC 20 dX10_row_11 (by decide) (fun h => absurd h (by decide)) (fun _ => ?_)
      refine r_iload_n hC 3 dX10_row_14 rfl rfl ?_
      refine r_bipush hC 60 dX10_row_15 (by decide) ?_
      refine r_icmp_le hC 22 dX10_row_17 (by decide) (fun h5 => ?_) (fun h5 => ?_)
      · have hO := hO.1 h5
        refine r_iload_n hC 3 dX10_row_22 rfl rfl ?_
        refine r_if_ge hC 29 dX10_row_23 (by decide) (fun h6 => ?_) (fun h6 => ?_)
        · have hO := hO.1 h6
          refine r_aload_n hC 0 dX10_row_29 rfl rfl ?_
          refine r_getR hC 65 fl10_67 ob10 rfl dX10_row_30 ?_
          refine r_iload_n hC 1 dX10_row_33 rfl rfl ?_
          refine r_iload_n hC 2 dX10_row_34 rfl rfl ?_
          refine r_iload_n hC 3 dX10_row_35 rfl rfl ?_
          refine r_callVv hC [.int p1, .int p2, .int p3] (T6_holdRow  hO) yv6_holdRow ml10_307 sh10_7 rfl ⟨Nat.le_of_ble_eq_true rfl, Nat.le_of_ble_eq_true rfl⟩ rfl rfl (Nat.le_of_ble_eq_true rfl) dX10_row_36 (fun μ7 hO => ?_)
          refine r_iconst hC 1 dX10_row_39 (by decide) ?_
          exact r_iret hC rfl dX10_row_40 hO
        · have hO := hO.2 h6
          refine r_bipush hC (-14) dX10_row_26 (by decide) ?_
          exact r_iret hC rfl dX10_row_28 hO
      · have hO := hO.2 h5
        refine r_iconst hC (-1) dX10_row_20 (by decide) ?_
        exact r_iret hC rfl dX10_row_21 hO
    · refine r_topEq hr ?_
      obtain ⟨hO, hm⟩ := hO
      refine r_memEq hm ?_
      refine r_if_eq hC 20 dX10_row_11 (by decide) (fun _ => ?_) (fun h => absurd (by decide) h)
      refine r_iconst hC (-1) dX10_row_20 (by decide) ?_
      exact r_iret hC rfl dX10_row_21 hO
  · refine r_topEq hr ?_
    obtain ⟨hO, hm⟩ := hO
    refine r_memEq hm ?_
    refine r_if_eq hC 20 dX10_row_4 (by decide) (fun _ => ?_) (fun h => absurd (by decide) h)
    refine r_iconst hC (-1) dX10_row_20 (by decide) ?_
    exact r_iret hC rfl dX10_row_21 hO
set_option maxHeartbeats 4000000 in
set_option maxRecDepth 100000 in
theorem T10_elementRefusal {l : Launch} {G : mw_G} {p1 : Int32} {p2 : Int32} {μ : mw_M} {Q : Int32 → Prop}  (hO : P10_elementRefusal p1 p2 μ Q) : mw_Mi l G kdX yX10_elementRefusal cX10_elementRefusal 3 (some .int) 3 65 [.ref (mw_a G 0), .int p1, .int p2] μ (mw_pq μ Q) := by
  refine mw_enter [(0, .ref (mw_a G 0)), (1, .int p1), (2, .int p2)] RX10 (by decide) rfl (Nat.le_of_ble_eq_true rfl) rfl ?_
  intro p e s m args below meth c hC
  unfold P10_elementRefusal at hO
  refine r_iload_n hC 1 dX10_elementRefusal_0 rfl rfl ?_
  refine r_callSi hC [.int p1] (T6_isShelf  hO) yv6_isShelf ml10_83 ⟨Nat.le_of_ble_eq_true rfl, Nat.le_of_ble_eq_true rfl⟩ rfl rfl (Nat.le_of_ble_eq_true rfl) dX10_elementRefusal_1 (fun r1 μ2 hO => ?_)
  rcases hO with ⟨hr, hO⟩ | ⟨hr, hO⟩
  · refine r_topEq hr ?_
    obtain ⟨hO, hm⟩ := hO
    refine r_memEq hm ?_
    refine r_if_ne hC 9 dX10_elementRefusal_4 (by decide) (fun _ => ?_) (fun h => absurd h (by decide))
    refine r_aload_n hC 0 dX10_elementRefusal_9 rfl rfl ?_
    refine r_getR hC 65 fl10_67 ob10 rfl dX10_elementRefusal_10 ?_
    refine r_iload_n hC 1 dX10_elementRefusal_13 rfl rfl ?_
    refine r_callVi hC [.int p1] (T6_isEmpty  hO) yv6_isEmpty ml10_87 sh10_7 rfl ⟨Nat.le_of_ble_eq_true rfl, Nat.le_of_ble_eq_true rfl⟩ rfl rfl (Nat.le_of_ble_eq_true rfl) dX10_elementRefusal_14 (fun r3 μ4 hO => ?_)
    rcases hO with ⟨hr, hO⟩ | ⟨hr, hO⟩
    · refine r_topEq hr ?_
      obtain ⟨hO, hm⟩ := hO
      refine r_memEq hm ?_
      refine r_if_eq hC 23 dX10_elementRefusal_17 (by decide) (fun h => absurd h (by decide)) (fun _ => ?_)
      refine r_bipush hC (-11) dX10_elementRefusal_20 (by decide) ?_
      exact r_iret hC rfl dX10_elementRefusal_22 ⟨hO, rfl⟩
    · refine r_topEq hr ?_
      obtain ⟨hO, hm⟩ := hO
      refine r_memEq hm ?_
      refine r_if_eq hC 23 dX10_elementRefusal_17 (by decide) (fun _ => ?_) (fun h => absurd (by decide) h)
      refine r_aload_n hC 0 dX10_elementRefusal_23 rfl rfl ?_
      refine r_getR hC 65 fl10_67 ob10 rfl dX10_elementRefusal_24 ?_
      refine r_iload_n hC 1 dX10_elementRefusal_27 rfl rfl ?_
      refine r_callVi hC [.int p1] (T6_holdsRow  hO) yv6_holdsRow ml10_322 sh10_7 rfl ⟨Nat.le_of_ble_eq_true rfl, Nat.le_of_ble_eq_true rfl⟩ rfl rfl (Nat.le_of_ble_eq_true rfl) dX10_elementRefusal_28 (fun r5 μ6 hO => ?_)
      rcases hO with ⟨hr, hO⟩ | ⟨hr, hO⟩
      · refine r_topEq hr ?_
        obtain ⟨hO, hm⟩ := hO
        refine r_memEq hm ?_
        refine r_if_ne hC 37 dX10_elementRefusal_31 (by decide) (fun _ => ?_) (fun h => absurd h (by decide))
        refine r_aload_n hC 0 dX10_elementRefusal_37 rfl rfl ?_
        refine r_getR hC 65 fl10_67 ob10 rfl dX10_elementRefusal_38 ?_
        refine r_iload_n hC 1 dX10_elementRefusal_41 rfl rfl ?_
        refine r_iload_n hC 2 dX10_elementRefusal_42 rfl rfl ?_
        refine r_i2l hC dX10_elementRefusal_43 ?_
        refine r_iconst hC 1 dX10_elementRefusal_44 (by decide) ?_
        refine r_callVi hC [.int p1, .long (Int32.toInt64 p2), .int 1] (T6_hasPlaces  hO) yv6_hasPlaces ml10_100 sh10_7 rfl ⟨Nat.le_of_ble_eq_true rfl, Nat.le_of_ble_eq_true rfl⟩ rfl rfl (Nat.le_of_ble_eq_true rfl) dX10_elementRefusal_45 (fun r7 μ8 hO => ?_)
        rcases hO with ⟨hr, hO⟩ | ⟨hr, hO⟩
        · refine r_topEq hr ?_
          obtain ⟨hO, hm⟩ := hO
          refine r_memEq hm ?_
          refine r_if_eq hC 55 dX10_elementRefusal_48 (by decide) (fun h => absurd h (by decide)) (fun _ => ?_)
          refine r_iconst hC 0 dX10_elementRefusal_51 (by decide) ?_
          refine r_goto hC 57 dX10_elementRefusal_52 (by decide) ?_
          exact r_iret hC rfl dX10_elementRefusal_57 ⟨hO, rfl⟩
        · refine r_topEq hr ?_
          obtain ⟨hO, hm⟩ := hO
          refine r_memEq hm ?_
          refine r_if_eq hC 55 dX10_elementRefusal_48 (by decide) (fun _ => ?_) (fun h => absurd (by decide) h)
          refine r_bipush hC (-13) dX10_elementRefusal_55 (by decide) ?_
          exact r_iret hC rfl dX10_elementRefusal_57 ⟨hO, rfl⟩
      · refine r_topEq hr ?_
        obtain ⟨hO, hm⟩ := hO
        refine r_memEq hm ?_
        refine r_if_ne hC 37 dX10_elementRefusal_31 (by decide) (fun h => absurd (by decide) h) (fun _ => ?_)
        refine r_bipush hC (-12) dX10_elementRefusal_34 (by decide) ?_
        exact r_iret hC rfl dX10_elementRefusal_36 ⟨hO, rfl⟩
  · refine r_topEq hr ?_
    obtain ⟨hO, hm⟩ := hO
    refine r_memEq hm ?_
    refine r_if_ne hC 9 dX10_elementRefusal_4 (by decide) (fun h => absurd (by decide) h) (fun _ => ?_)
    refine r_iconst hC (-1) dX10_elementRefusal_7 (by decide) ?_
    exact r_iret hC rfl dX10_elementRefusal_8 ⟨hO, rfl⟩
set_option maxHeartbeats 4000000 in
set_option maxRecDepth 100000 in
theorem T10_put {l : Launch} {G : mw_G} {p1 : Int32} {p2 : Int32} {p3 : Int64} {μ : mw_M} {Q : Int32 → mw_M → Prop}  (hO : P10_put p1 p2 p3 μ Q) : mw_Mi l G kdX yX10_put cX10_put 6 (some .int) 4 89 [.ref (mw_a G 0), .int p1, .int p2, .long p3] μ (Q) := by
  refine mw_enter [(0, .ref (mw_a G 0)), (1, .int p1), (2, .int p2), (3, .long p3)] RX10 (by decide) rfl (Nat.le_of_ble_eq_true rfl) rfl ?_
  intro p e s m args below meth c hC
  unfold P10_put at hO
  refine r_aload_n hC 0 dX10_put_0 rfl rfl ?_
  refine r_iload_n hC 1 dX10_put_1 rfl rfl ?_
  refine r_iload_n hC 2 dX10_put_2 rfl rfl ?_
  refine r_callVi hC [.int p1, .int p2] (T10_elementRefusal  hO) yv10_elementRefusal ml10_311 ob10 rfl ⟨Nat.le_of_ble_eq_true rfl, Nat.le_of_ble_eq_true rfl⟩ rfl rfl (Nat.le_of_ble_eq_true rfl) dX10_put_3 (fun r1 μ2 hO => ?_)
  obtain ⟨hO, hm⟩ := hO
  refine r_memEq hm ?_
  refine r_istore hC [(5, .int r1), (0, .ref (mw_a G 0)), (1, .int p1), (2, .int p2), (3, .long p3)] dX10_put_6 (by decide) rfl ?_
  refine r_iload hC 0 dX10_put_8 rfl ?_
  refine r_if_eq hC 16 dX10_put_10 (by decide) (fun h3 => ?_) (fun h3 => ?_)
  · have hO := hO.1 h3
    refine r_aload_n hC 1 dX10_put_16 rfl rfl ?_
    refine r_getR hC 65 fl10_67 ob10 rfl dX10_put_17 ?_
    refine r_iload_n hC 2 dX10_put_20 rfl rfl ?_
    refine r_iload_n hC 3 dX10_put_21 rfl rfl ?_
    refine r_lload_n hC 4 dX10_put_22 rfl rfl ?_
    refine r_callVv hC [.int p1, .int p2, .long p3] (T6_change  hO) yv6_change ml10_314 sh10_7 rfl ⟨Nat.le_of_ble_eq_true rfl, Nat.le_of_ble_eq_true rfl⟩ rfl rfl (Nat.le_of_ble_eq_true rfl) dX10_put_23 (fun μ4 hO => ?_)
    refine r_iconst hC 1 dX10_put_26 (by decide) ?_
    exact r_iret hC rfl dX10_put_27 hO
  · have hO := hO.2 h3
    refine r_iload hC 0 dX10_put_13 rfl ?_
    exact r_iret hC rfl dX10_put_15 hO
set_option maxHeartbeats 4000000 in
set_option maxRecDepth 100000 in
theorem T10_element {l : Launch} {G : mw_G} {p1 : Int32} {p2 : Int32} {μ : mw_M} {Q : Int64 → Prop}  (hO : P10_element p1 p2 μ Q) : mw_Ml l G kdX yX10_element cX10_element 3 (some .long) 4 87 [.ref (mw_a G 0), .int p1, .int p2] μ (mw_pq μ Q) := by
  refine mw_enter [(0, .ref (mw_a G 0)), (1, .int p1), (2, .int p2)] RX10 (by decide) rfl (Nat.le_of_ble_eq_true rfl) rfl ?_
  intro p e s m args below meth c hC
  unfold P10_element at hO
  refine r_aload_n hC 0 dX10_element_0 rfl rfl ?_
  refine r_iload_n hC 1 dX10_element_1 rfl rfl ?_
  refine r_iload_n hC 2 dX10_element_2 rfl rfl ?_
  refine r_callVi hC [.int p1, .int p2] (T10_elementRefusal  hO) yv10_elementRefusal ml10_311 ob10 rfl ⟨Nat.le_of_ble_eq_true rfl, Nat.le_of_ble_eq_true rfl⟩ rfl rfl (Nat.le_of_ble_eq_true rfl) dX10_element_3 (fun r1 μ2 hO => ?_)
  obtain ⟨hO, hm⟩ := hO
  refine r_memEq hm ?_
  refine r_if_ne hC 21 dX10_element_6 (by decide) (fun h3 => ?_) (fun h3 => ?_)
  · have hO := hO.2 h3
    refine r_ldc2 hC kc10_320 dX10_element_21 ?_
    exact r_lret hC rfl dX10_element_24 ⟨hO, rfl⟩
  · have hO := hO.1 h3
    refine r_aload_n hC 0 dX10_element_9 rfl rfl ?_
    refine r_getR hC 65 fl10_67 ob10 rfl dX10_element_10 ?_
    refine r_iload_n hC 1 dX10_element_13 rfl rfl ?_
    refine r_iload_n hC 2 dX10_element_14 rfl rfl ?_
    refine r_callVl hC [.int p1, .int p2] (T6_valueAt  hO) yv6_valueAt ml10_104 sh10_7 rfl ⟨Nat.le_of_ble_eq_true rfl, Nat.le_of_ble_eq_true rfl⟩ rfl rfl (Nat.le_of_ble_eq_true rfl) dX10_element_15 (fun r4 μ5 hO => ?_)
    obtain ⟨hO, hm⟩ := hO
    refine r_memEq hm ?_
    refine r_goto hC 24 dX10_element_18 (by decide) ?_
    exact r_lret hC rfl dX10_element_24 ⟨hO, rfl⟩
set_option maxHeartbeats 4000000 in
set_option maxRecDepth 100000 in
theorem T10_shift {l : Launch} {G : mw_G} {p1 : Int32} {p2 : Int32} {p3 : Int32} {p4 : Int32} {p5 : Int32} {μ : mw_M} {Q : Int32 → mw_M → Prop}  (hO : P10_shift p1 p2 p3 p4 p5 μ Q) : mw_Mi l G kdX yX10_shift cX10_shift 6 (some .int) 4 105 [.ref (mw_a G 0), .int p1, .int p2, .int p3, .int p4, .int p5] μ (Q) := by
  refine mw_enter [(0, .ref (mw_a G 0)), (1, .int p1), (2, .int p2), (3, .int p3), (4, .int p4), (5, .int p5)] RX10 (by decide) rfl (Nat.le_of_ble_eq_true rfl) rfl ?_
  intro p e s m args below meth c hC
  unfold P10_shift at hO
  refine r_iload_n hC 1 dX10_shift_0 rfl rfl ?_
  refine r_callSi hC [.int p1] (T6_isShelf  hO) yv6_isShelf ml10_83 ⟨Nat.le_of_ble_eq_true rfl, Nat.le_of_ble_eq_true rfl⟩ rfl rfl (Nat.le_of_ble_eq_true rfl) dX10_shift_1 (fun r1 μ2 hO => ?_)
  rcases hO with ⟨hr, hO⟩ | ⟨hr, hO⟩
  · refine r_topEq hr ?_
    obtain ⟨hO, hm⟩ := hO
    refine r_memEq hm ?_
    refine r_if_eq hC 14 dX10_shift_4 (by decide) (fun h => absurd h (by decide)) (fun _ => ?_)
    refine r_iload_n hC 3 dX10_shift_7 rfl rfl ?_
    refine r_callSi hC [.int p3] (T6_isShelf  hO) yv6_isShelf ml10_83 ⟨Nat.le_of_ble_eq_true rfl, Nat.le_of_ble_eq_true rfl⟩ rfl rfl (Nat.le_of_ble_eq_true rfl) dX10_shift_8 (fun r3 μ4 hO => ?_)
    rcases hO with ⟨hr, hO⟩ | ⟨hr, hO⟩
    · refine r_topEq hr ?_
      obtain ⟨hO, hm⟩ := hO
      refine r_memEq hm ?_
      refine r_if_ne hC 16 dX10_shift_11 (by decide) (fun _ => ?_) (fun h => absurd h (by decide))
      refine r_aload_n hC 0 dX10_shift_16 rfl rfl ?_
      refine r_getR hC 65 fl10_67 ob10 rfl dX10_shift_17 ?_
      refine r_iload_n hC 1 dX10_shift_20 rfl rfl ?_
      refine r_callVi hC [.int p1] (T6_isEmpty  hO) yv6_isEmpty ml10_87 sh10_7 rfl ⟨Nat.le_of_ble_eq_true rfl, Nat.le_of_ble_eq_true rfl⟩ rfl rfl (Nat.le_of_ble_eq_true rfl) dX10_shift_21 (fun r5 μ6 hO => ?_)
      rcases hO with ⟨hr, hO⟩ | ⟨hr, hO⟩
      · refine r_topEq hr ?_
        obtain ⟨hO, hm⟩ := hO
        refine r_memEq hm ?_
        refine r_if_ne hC 38 dX10_shift_24 (by decide) (fun _ => ?_) (fun h => absurd h (by decide))
        refine r_bipush hC (-11) dX10_shift_38 (by decide) ?_
        exact r_iret hC rfl dX10_shift_40 hO
      · refine r_topEq hr ?_
        obtain ⟨hO, hm⟩ := hO
        refine r_memEq hm ?_
        refine r_if_ne hC 38 dX10_shift_24 (by decide) (fun h => absurd (by decide) h) (fun _ => ?_)
        refine r_aload_n hC 0 dX10_shift_27 rfl rfl ?_
        refine r_getR hC 65 fl10_67 ob10 rfl dX10_shift_28 ?_
        refine r_iload_n hC 3 dX10_shift_31 rfl rfl ?_
        refine r_callVi hC [.int p3] (T6_isEmpty  hO) yv6_isEmpty ml10_87 sh10_7 rfl ⟨Nat.le_of_ble_eq_true rfl, Nat.le_of_ble_eq_true rfl⟩ rfl rfl (Nat.le_of_ble_eq_true rfl) dX10_shift_32 (fun r7 μ8 hO => ?_)
        rcases hO with ⟨hr, hO⟩ | ⟨hr, hO⟩
        · refine r_topEq hr ?_
          obtain ⟨hO, hm⟩ := hO
          refine r_memEq hm ?_
          refine r_if_eq hC 41 dX10_shift_35 (by decide) (fun h => absurd h (by decide)) (fun _ => ?_)
          refine r_bipush hC (-11) dX10_shift_38 (by decide) ?_
          exact r_iret hC rfl dX10_shift_40 hO
        · refine r_topEq hr ?_
          obtain ⟨hO, hm⟩ := hO
          refine r_memEq hm ?_
          refine r_if_eq hC 41 dX10_shift_35 (by decide) (fun _ => ?_) (fun h => absurd (by decide) h)
          refine r_aload_n hC 0 dX10_shift_41 rfl rfl ?_
          refine r_getR hC 65 fl10_67 ob10 rfl dX10_shift_42 ?_
          refine r_iload_n hC 1 dX10_shift_45 rfl rfl ?_
          refine r_callVi hC [.int p1] (T6_holdsRow  hO) yv6_holdsRow ml10_322 sh10_7 rfl ⟨Nat.le_of_ble_eq_true rfl, Nat.le_of_ble_eq_true rfl⟩ rfl rfl (Nat.le_of_ble_eq_true rfl) dX10_shift_46 (fun r9 μ10 hO => ?_)
          rcases hO with ⟨hr, hO⟩ | ⟨hr, hO⟩
          · refine r_topEq hr ?_
            obtain ⟨hO, hm⟩ := hO
            refine r_memEq hm ?_
            refine r_if_eq hC 71 dX10_shift_49 (by decide) (fun h => absurd h (by decide)) (fun _ => ?_)
            refine r_aload_n hC 0 dX10_shift_52 rfl rfl ?_
            refine r_getR hC 65 fl10_67 ob10 rfl dX10_shift_53 ?_
            refine r_iload_n hC 3 dX10_shift_56 rfl rfl ?_
            refine r_aload_n hC 0 dX10_shift_57 rfl rfl ?_
            refine r_getR hC 65 fl10_67 ob10 rfl dX10_shift_58 ?_
            refine r_iload_n hC 1 dX10_shift_61 rfl rfl ?_
            refine r_callVi hC [.int p1] (T6_sortOf  hO) yv6_sortOf ml10_325 sh10_7 rfl ⟨Nat.le_of_ble_eq_true rfl, Nat.le_of_ble_eq_true rfl⟩ rfl rfl (Nat.le_of_ble_eq_true rfl) dX10_shift_62 (fun r11 μ12 hO => ?_)
            obtain ⟨hO, hm⟩ := hO
            refine r_memEq hm ?_
            refine r_callVi hC [.int p3, .int r11] (T6_holdsRowOf  hO) yv6_holdsRowOf ml10_90 sh10_7 rfl ⟨Nat.le_of_ble_eq_true rfl, Nat.le_of_ble_eq_true rfl⟩ rfl rfl (Nat.le_of_ble_eq_true rfl) dX10_shift_65 (fun r13 μ14 hO => ?_)
            rcases hO with ⟨hr, hO⟩ | ⟨hr, hO⟩
            · refine r_topEq hr ?_
              obtain ⟨hO, hm⟩ := hO
              refine r_memEq hm ?_
              refine r_if_ne hC 74 dX10_shift_68 (by decide) (fun _ => ?_) (fun h => absurd h (by decide))
              refine r_iload hC 5 dX10_shift_74 rfl ?_
              refine r_if_lt hC 110 dX10_shift_76 (by decide) (fun h15 => ?_) (fun h15 => ?_)
              · have hO := hO.1 h15
                refine r_bipush hC (-13) dX10_shift_110 (by decide) ?_
                exact r_iret hC rfl dX10_shift_112 hO
              · have hO := hO.2 h15
                refine r_aload_n hC 0 dX10_shift_79 rfl rfl ?_
                refine r_getR hC 65 fl10_67 ob10 rfl dX10_shift_80 ?_
                refine r_iload_n hC 1 dX10_shift_83 rfl rfl ?_
                refine r_iload_n hC 2 dX10_shift_84 rfl rfl ?_
                refine r_i2l hC dX10_shift_85 ?_
                refine r_iload hC 5 dX10_shift_86 rfl ?_
                refine r_callVi hC [.int p1, .long (Int32.toInt64 p2), .int p5] (T6_hasPlaces  hO) yv6_hasPlaces ml10_100 sh10_7 rfl ⟨Nat.le_of_ble_eq_true rfl, Nat.le_of_ble_eq_true rfl⟩ rfl rfl (Nat.le_of_ble_eq_true rfl) dX10_shift_88 (fun r16 μ17 hO => ?_)
                rcases hO with ⟨hr, hO⟩ | ⟨hr, hO⟩
                · refine r_topEq hr ?_
                  obtain ⟨hO, hm⟩ := hO
                  refine r_memEq hm ?_
                  refine r_if_eq hC 110 dX10_shift_91 (by decide) (fun h => absurd h (by decide)) (fun _ => ?_)
                  refine r_aload_n hC 0 dX10_shift_94 rfl rfl ?_
                  refine r_getR hC 65 fl10_67 ob10 rfl dX10_shift_95 ?_
                  refine r_iload_n hC 3 dX10_shift_98 rfl rfl ?_
                  refine r_iload hC 4 dX10_shift_99 rfl ?_
                  refine r_i2l hC dX10_shift_101 ?_
                  refine r_iload hC 5 dX10_shift_102 rfl ?_
                  refine r_callVi hC [.int p3, .long (Int32.toInt64 p4), .int p5] (T6_hasPlaces  hO) yv6_hasPlaces ml10_100 sh10_7 rfl ⟨Nat.le_of_ble_eq_true rfl, Nat.le_of_ble_eq_true rfl⟩ rfl rfl (Nat.le_of_ble_eq_true rfl) dX10_shift_104 (fun r18 μ19 hO => ?_)
                  rcases hO with ⟨hr, hO⟩ | ⟨hr, hO⟩
                  · refine r_topEq hr ?_
                    obtain ⟨hO, hm⟩ := hO
                    refine r_memEq hm ?_
                    refine r_if_ne hC 113 dX10_shift_107 (by decide) (fun _ => ?_) (fun h => absurd h (by decide))
                    refine r_aload_n hC 0 dX10_shift_113 rfl rfl ?_
                    refine r_getR hC 65 fl10_67 ob10 rfl dX10_shift_114 ?_
                    refine r_iload_n hC 1 dX10_shift_117 rfl rfl ?_
                    refine r_iload_n hC 2 dX10_shift_118 rfl rfl ?_
                    refine r_iload_n hC 3 dX10_shift_119 rfl rfl ?_
                    refine r_iload hC 4 dX10_shift_120 rfl ?_
                    refine r_iload hC 5 dX10_shift_122 rfl ?_
                    refine r_callVv hC [.int p1, .int p2, .int p3, .int p4, .int p5] (T6_copy  hO) yv6_copy ml10_328 sh10_7 rfl ⟨Nat.le_of_ble_eq_true rfl, Nat.le_of_ble_eq_true rfl⟩ rfl rfl (Nat.le_of_ble_eq_true rfl) dX10_shift_124 (fun μ20 hO => ?_)
                    refine r_iload hC 5 dX10_shift_127 rfl ?_
                    exact r_iret hC rfl dX10_shift_129 hO
                  · refine r_topEq hr ?_
                    obtain ⟨hO, hm⟩ := hO
                    refine r_memEq hm ?_
                    refine r_if_ne hC 113 dX10_shift_107 (by decide) (fun h => absurd (by decide) h) (fun _ => ?_)
                    refine r_bipush hC (-13) dX10_shift_110 (by decide) ?_
                    exact r_iret hC rfl dX10_shift_112 hO
                · refine r_topEq hr ?_
                  obtain ⟨hO, hm⟩ := hO
                  refine r_memEq hm ?_
                  refine r_if_eq hC 110 dX10_shift_91 (by decide) (fun _ => ?_) (fun h => absurd (by decide) h)
                  refine r_bipush hC (-13) dX10_shift_110 (by decide) ?_
                  exact r_iret hC rfl dX10_shift_112 hO
            · refine r_topEq hr ?_
              obtain ⟨hO, hm⟩ := hO
              refine r_memEq hm ?_
              refine r_if_ne hC 74 dX10_shift_68 (by decide) (fun h => absurd (by decide) h) (fun _ => ?_)
              refine r_bipush hC (-12) dX10_shift_71 (by decide) ?_
              exact r_iret hC rfl dX10_shift_73 hO
          · refine r_topEq hr ?_
            obtain ⟨hO, hm⟩ := hO
            refine r_memEq hm ?_
            refine r_if_eq hC 71 dX10_shift_49 (by decide) (fun _ => ?_) (fun h => absurd (by decide) h)
            refine r_bipush hC (-12) dX10_shift_71 (by decide) ?_
            exact r_iret hC rfl dX10_shift_73 hO
    · refine r_topEq hr ?_
      obtain ⟨hO, hm⟩ := hO
      refine r_memEq hm ?_
      refine r_if_ne hC 16 dX10_shift_11 (by decide) (fun h => absurd (by decide) h) (fun _ => ?_)
      refine r_iconst hC (-1) dX10_shift_14 (by decide) ?_
      exact r_iret hC rfl dX10_shift_15 hO
  · refine r_topEq hr ?_
    obtain ⟨hO, hm⟩ := hO
    refine r_memEq hm ?_
    refine r_if_eq hC 14 dX10_shift_4 (by decide) (fun _ => ?_) (fun h => absurd (by decide) h)
    refine r_iconst hC (-1) dX10_shift_14 (by decide) ?_
    exact r_iret hC rfl dX10_shift_15 hO
set_option maxHeartbeats 4000000 in
set_option maxRecDepth 100000 in
theorem T10_taken {l : Launch} {G : mw_G} {p1 : Int32} {p2 : Int32} {μ : mw_M} {Q : Int32 → Prop}  (hO : P10_taken p1 p2 μ Q) : mw_Mi l G kdX yX10_taken cX10_taken 4 (some .int) 2 43 [.ref (mw_a G 0), .int p1, .int p2] μ (mw_pq μ Q) := by
  refine mw_enter [(0, .ref (mw_a G 0)), (1, .int p1), (2, .int p2)] RX10 (by decide) rfl (Nat.le_of_ble_eq_true rfl) rfl ?_
  intro p e s m args below meth c hC
  unfold P10_taken at hO
  refine r_iload_n hC 1 dX10_taken_0 rfl rfl ?_
  refine r_callSi hC [.int p1] (T6_isShelf  hO) yv6_isShelf ml10_83 ⟨Nat.le_of_ble_eq_true rfl, Nat.le_of_ble_eq_true rfl⟩ rfl rfl (Nat.le_of_ble_eq_true rfl) dX10_taken_1 (fun r1 μ2 hO => ?_)
  rcases hO with ⟨hr, hO⟩ | ⟨hr, hO⟩
  · refine r_topEq hr ?_
    obtain ⟨hO, hm⟩ := hO
    refine r_memEq hm ?_
    refine r_if_eq hC 14 dX10_taken_4 (by decide) (fun h => absurd h (by decide)) (fun _ => ?_)
    refine r_iload_n hC 2 dX10_taken_7 rfl rfl ?_
    refine r_callSi hC [.int p2] (T0_isKind  hO) yv0_isKind ml10_281 ⟨Nat.le_of_ble_eq_true rfl, Nat.le_of_ble_eq_true rfl⟩ rfl rfl (Nat.le_of_ble_eq_true rfl) dX10_taken_8 (fun r3 μ4 hO => ?_)
    rcases hO with ⟨hr, hO⟩ | ⟨hr, hO⟩
    · refine r_topEq hr ?_
      obtain ⟨hO, hm⟩ := hO
      refine r_memEq hm ?_
      refine r_if_ne hC 16 dX10_taken_11 (by decide) (fun _ => ?_) (fun h => absurd h (by decide))
      refine r_aload_n hC 0 dX10_taken_16 rfl rfl ?_
      refine r_getR hC 65 fl10_67 ob10 rfl dX10_taken_17 ?_
      refine r_iload_n hC 1 dX10_taken_20 rfl rfl ?_
      refine r_callVi hC [.int p1] (T6_isEmpty  hO) yv6_isEmpty ml10_87 sh10_7 rfl ⟨Nat.le_of_ble_eq_true rfl, Nat.le_of_ble_eq_true rfl⟩ rfl rfl (Nat.le_of_ble_eq_true rfl) dX10_taken_21 (fun r5 μ6 hO => ?_)
      rcases hO with ⟨hr, hO⟩ | ⟨hr, hO⟩
      · refine r_topEq hr ?_
        obtain ⟨hO, hm⟩ := hO
        refine r_memEq hm ?_
        refine r_if_eq hC 30 dX10_taken_24 (by decide) (fun h => absurd h (by decide)) (fun _ => ?_)
        refine r_bipush hC (-11) dX10_taken_27 (by decide) ?_
        exact r_iret hC rfl dX10_taken_29 ⟨hO, rfl⟩
      · refine r_topEq hr ?_
        obtain ⟨hO, hm⟩ := hO
        refine r_memEq hm ?_
        refine r_if_eq hC 30 dX10_taken_24 (by decide) (fun _ => ?_) (fun h => absurd (by decide) h)
        refine r_aload_n hC 0 dX10_taken_30 rfl rfl ?_
        refine r_getR hC 65 fl10_67 ob10 rfl dX10_taken_31 ?_
        refine r_iload_n hC 1 dX10_taken_34 rfl rfl ?_
        refine r_callVi hC [.int p1] (T6_holdsRow  hO) yv6_holdsRow ml10_322 sh10_7 rfl ⟨Nat.le_of_ble_eq_true rfl, Nat.le_of_ble_eq_true rfl⟩ rfl rfl (Nat.le_of_ble_eq_true rfl) dX10_taken_35 (fun r7 μ8 hO => ?_)
        rcases hO with ⟨hr, hO⟩ | ⟨hr, hO⟩
        · refine r_topEq hr ?_
          obtain ⟨hO, hm⟩ := hO
          refine r_memEq hm ?_
          refine r_if_eq hC 44 dX10_taken_38 (by decide) (fun h => absurd h (by decide)) (fun _ => ?_)
          refine r_bipush hC (-12) dX10_taken_41 (by decide) ?_
          exact r_iret hC rfl dX10_taken_43 ⟨hO, rfl⟩
        · refine r_topEq hr ?_
          obtain ⟨hO, hm⟩ := hO
          refine r_memEq hm ?_
          refine r_if_eq hC 44 dX10_taken_38 (by decide) (fun _ => ?_) (fun h => absurd (by decide) h)
          refine r_aload_n hC 0 dX10_taken_44 rfl rfl ?_
          refine r_getR hC 62 fl10_60 ob10 rfl dX10_taken_45 ?_
          refine r_aload_n hC 0 dX10_taken_48 rfl rfl ?_
          refine r_getR hC 65 fl10_67 ob10 rfl dX10_taken_49 ?_
          refine r_iload_n hC 1 dX10_taken_52 rfl rfl ?_
          refine r_callVi hC [.int p1] (T6_loadOn  hO) yv6_loadOn ml10_331 sh10_7 rfl ⟨Nat.le_of_ble_eq_true rfl, Nat.le_of_ble_eq_true rfl⟩ rfl rfl (Nat.le_of_ble_eq_true rfl) dX10_taken_53 (fun r9 μ10 hO => ?_)
          obtain ⟨hO, hm⟩ := hO
          refine r_memEq hm ?_
          refine r_callVi hC [.int r9] (T0_kindOf  hO) yv0_kindOf ml10_334 sh10_6 rfl ⟨Nat.le_of_ble_eq_true rfl, Nat.le_of_ble_eq_true rfl⟩ rfl rfl (Nat.le_of_ble_eq_true rfl) dX10_taken_56 (fun r11 μ12 hO => ?_)
          obtain ⟨hO, hm⟩ := hO
          refine r_memEq hm ?_
          refine r_istore_n hC [(3, .int r11), (0, .ref (mw_a G 0)), (1, .int p1), (2, .int p2)] dX10_taken_59 rfl (by decide) rfl ?_
          refine r_iload_n hC 0 dX10_taken_60 rfl rfl ?_
          refine r_iload_n hC 3 dX10_taken_61 rfl rfl ?_
          refine r_callSi hC [.int r11, .int p2] (T0_isUnder  hO) yv0_isUnder ml10_337 ⟨Nat.le_of_ble_eq_true rfl, Nat.le_of_ble_eq_true rfl⟩ rfl rfl (Nat.le_of_ble_eq_true rfl) dX10_taken_62 (fun r13 μ14 hO => ?_)
          rcases hO with ⟨hr, hO⟩ | ⟨hr, hO⟩
          · refine r_topEq hr ?_
            obtain ⟨hO, hm⟩ := hO
            refine r_memEq hm ?_
            refine r_if_eq hC 72 dX10_taken_65 (by decide) (fun h => absurd h (by decide)) (fun _ => ?_)
            refine r_iload_n hC 0 dX10_taken_68 rfl rfl ?_
            refine r_goto hC 74 dX10_taken_69 (by decide) ?_
            exact r_iret hC rfl dX10_taken_74 ⟨hO, rfl⟩
          · refine r_topEq hr ?_
            obtain ⟨hO, hm⟩ := hO
            refine r_memEq hm ?_
            refine r_if_eq hC 72 dX10_taken_65 (by decide) (fun _ => ?_) (fun h => absurd (by decide) h)
            refine r_bipush hC (-12) dX10_taken_72 (by decide) ?_
            exact r_iret hC rfl dX10_taken_74 ⟨hO, rfl⟩
    · refine r_topEq hr ?_
      obtain ⟨hO, hm⟩ := hO
      refine r_memEq hm ?_
      refine r_if_ne hC 16 dX10_taken_11 (by decide) (fun h => absurd (by decide) h) (fun _ => ?_)
      refine r_iconst hC (-1) dX10_taken_14 (by decide) ?_
      exact r_iret hC rfl dX10_taken_15 ⟨hO, rfl⟩
  · refine r_topEq hr ?_
    obtain ⟨hO, hm⟩ := hO
    refine r_memEq hm ?_
    refine r_if_eq hC 14 dX10_taken_4 (by decide) (fun _ => ?_) (fun h => absurd (by decide) h)
    refine r_iconst hC (-1) dX10_taken_14 (by decide) ?_
    exact r_iret hC rfl dX10_taken_15 ⟨hO, rfl⟩
set_option maxHeartbeats 4000000 in
set_option maxRecDepth 100000 in
theorem T10_count {l : Launch} {G : mw_G} {p1 : Int32} {μ : mw_M} {Q : Int32 → Prop}  (hO : P10_count p1 μ Q) : mw_Mi l G kdX yX10_count cX10_count 2 (some .int) 1 20 [.ref (mw_a G 0), .int p1] μ (mw_pq μ Q) := by
  refine mw_enter [(0, .ref (mw_a G 0)), (1, .int p1)] RX10 (by decide) rfl (Nat.le_of_ble_eq_true rfl) rfl ?_
  intro p e s m args below meth c hC
  unfold P10_count at hO
  refine r_iload_n hC 1 dX10_count_0 rfl rfl ?_
  by_cases h1 : p1 = 0
  · have hO := hO.1 h1
    refine r_tin hC 44 dX10_count_1 (by rw [h1]; decide) (by rw [h1]; decide) (by rw [h1] <;> rfl) (by decide) ?_
    refine r_aload_n hC 0 dX10_count_44 rfl rfl ?_
    refine r_getR hC 1 fl10_10 ob10 rfl dX10_count_45 ?_
    refine r_getI hC fl10_340 sh10_0 rfl dX10_count_48 ?_
    exact r_iret hC rfl dX10_count_51 ⟨hO, rfl⟩
  by_cases h2 : p1 = 1
  · have hO := hO.2.1 h2
    refine r_tin hC 52 dX10_count_1 (by rw [h2]; decide) (by rw [h2]; decide) (by rw [h2] <;> rfl) (by decide) ?_
    refine r_aload_n hC 0 dX10_count_52 rfl rfl ?_
    refine r_getR hC 11 fl10_28 ob10 rfl dX10_count_53 ?_
    refine r_getI hC fl10_341 sh10_2 rfl dX10_count_56 ?_
    exact r_iret hC rfl dX10_count_59 ⟨hO, rfl⟩
  by_cases h3 : p1 = 2
  · have hO := hO.2.2.1 h3
    refine r_tin hC 60 dX10_count_1 (by rw [h3]; decide) (by rw [h3]; decide) (by rw [h3] <;> rfl) (by decide) ?_
    refine r_aload_n hC 0 dX10_count_60 rfl rfl ?_
    refine r_getR hC 15 fl10_35 ob10 rfl dX10_count_61 ?_
    refine r_getI hC fl10_257 sh10_3 rfl dX10_count_64 ?_
    exact r_iret hC rfl dX10_count_67 ⟨hO, rfl⟩
  by_cases h4 : p1 = 3
  · have hO := hO.2.2.2.1 h4
    refine r_tin hC 68 dX10_count_1 (by rw [h4]; decide) (by rw [h4]; decide) (by rw [h4] <;> rfl) (by decide) ?_
    refine r_aload_n hC 0 dX10_count_68 rfl rfl ?_
    refine r_getR hC 15 fl10_35 ob10 rfl dX10_count_69 ?_
    refine r_getR hC 16 fl10_161 sh10_3 rfl dX10_count_72 ?_
    refine r_getI hC fl10_344 sh4_0 rfl dX10_count_75 ?_
    exact r_iret hC rfl dX10_count_78 ⟨hO, rfl⟩
  by_cases h5 : p1 = 4
  · have hO := hO.2.2.2.2.1 h5
    refine r_tin hC 79 dX10_count_1 (by rw [h5]; decide) (by rw [h5]; decide) (by rw [h5] <;> rfl) (by decide) ?_
    refine r_aload_n hC 0 dX10_count_79 rfl rfl ?_
    refine r_getR hC 6 fl10_21 ob10 rfl dX10_count_80 ?_
    refine r_callVi hC [] (T1_undoable  hO) yv1_undoable ml10_269 sh10_1 rfl ⟨Nat.le_of_ble_eq_true rfl, Nat.le_of_ble_eq_true rfl⟩ rfl rfl (Nat.le_of_ble_eq_true rfl) dX10_count_83 (fun r6 μ7 hO => ?_)
    obtain ⟨hO, hm⟩ := hO
    refine r_memEq hm ?_
    exact r_iret hC rfl dX10_count_86 ⟨hO, rfl⟩
  by_cases h8 : p1 = 5
  · have hO := hO.2.2.2.2.2.1 h8
    refine r_tin hC 87 dX10_count_1 (by rw [h8]; decide) (by rw [h8]; decide) (by rw [h8] <;> rfl) (by decide) ?_
    refine r_aload_n hC 0 dX10_count_87 rfl rfl ?_
    refine r_getR hC 62 fl10_60 ob10 rfl dX10_count_88 ?_
    refine r_getI hC fl10_345 sh10_6 rfl dX10_count_91 ?_
    exact r_iret hC rfl dX10_count_94 ⟨hO, rfl⟩
  by_cases h9 : p1 = 6
  · have hO := hO.2.2.2.2.2.2.1 h9
    refine r_tin hC 95 dX10_count_1 (by rw [h9]; decide) (by rw [h9]; decide) (by rw [h9] <;> rfl) (by decide) ?_
    refine r_aload_n hC 0 dX10_count_95 rfl rfl ?_
    refine r_getR hC 62 fl10_60 ob10 rfl dX10_count_96 ?_
    refine r_getI hC fl10_346 sh10_6 rfl dX10_count_99 ?_
    exact r_iret hC rfl dX10_count_102 ⟨hO, rfl⟩
  have hO := hO.2.2.2.2.2.2.2 h1 h2 h3 h4 h5 h8 h9
  refine r_tdef hC 103 dX10_count_1 (by decide) rfl (fun k hk => match k, hk with | 0, _ => Or.inr (mw_ne h1 rfl) | 1, _ => Or.inr (mw_ne h2 rfl) | 2, _ => Or.inr (mw_ne h3 rfl) | 3, _ => Or.inr (mw_ne h4 rfl) | 4, _ => Or.inr (mw_ne h5 rfl) | 5, _ => Or.inr (mw_ne h8 rfl) | 6, _ => Or.inr (mw_ne h9 rfl) | k + 7, h => absurd h (by show ¬ k + 7 < 7; omega)) ?_
  refine r_iconst hC (-1) dX10_count_103 (by decide) ?_
  exact r_iret hC rfl dX10_count_104 ⟨hO, rfl⟩
