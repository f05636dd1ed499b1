set_option maxHeartbeats 4000000 in
set_option maxRecDepth 100000 in
theorem T3_worth {l : Launch} {G : mw_G} {b : Nat} {d1 : Nat} {μ : mw_M} {Q : Int32 → mw_M → Prop} (hb : kdX[b]? = some (.inl (3, dsX3 b))) (hd1 : kdX[d1]? = some (.inr (0, 9, 0, 0))) (hO : P3_worth b d1 μ Q) : mw_Mi l G kdX yX3_worth cX3_worth 5 (some .int) 2 44 [.ref (mw_a G b), .ref (mw_a G d1)] μ (Q) := by
  refine mw_enter [(0, .ref (mw_a G b)), (1, .ref (mw_a G d1))] RX3 (by decide) rfl (Nat.le_of_ble_eq_true rfl) rfl ?_
  intro p e s m args below meth c hC
  unfold P3_worth at hO
  refine r_aload_n hC 0 dX3_worth_0 rfl rfl ?_
  refine r_iconst hC 0 dX3_worth_1 (by decide) ?_
  refine r_putI hC fl3_22 hb rfl rfl rfl dX3_worth_2 ?_
  refine r_nmM (fun μ1 hμ1 => ?_)
  have hO := hO μ1 hμ1
  refine r_iconst hC 0 dX3_worth_5 (by decide) ?_
  refine r_istore_n hC [(2, .int 0), (0, .ref (mw_a G b)), (1, .ref (mw_a G d1))] dX3_worth_6 rfl (by decide) rfl ?_
  refine r_iconst hC 0 dX3_worth_7 (by decide) ?_
  refine r_istore_n hC [(3, .int 0), (2, .int 0), (0, .ref (mw_a G b)), (1, .ref (mw_a G d1))] dX3_worth_8 rfl (by decide) rfl ?_
  have hLn5 : ∀   (n5 : Nat) (v2 : Int32) (v3 : Int32) (μ4 : mw_M), L3_worth_9 b d1 Q n5 v2 v3 μ4 → mw_W p l e (mw_rm 2 44) s m args below meth c G kdX 5 (MQ below (va_Qi (Q) (mw_B G kdX) (mw_A G kdX)) args s 0 0 (mw_A G kdX)) 9 [(3, .int v2), (2, .int v3), (0, .ref (mw_a G b)), (1, .ref (mw_a G d1))] [] μ4 := by
    intro   n5
    induction n5 with
    | zero => intro v2 v3 μ4 hO; exact False.elim hO
    | succ n5 ihn5 =>
      intro v2 v3 μ4 hO
      refine r_iload_n hC 0 dX3_worth_9 rfl rfl ?_
      refine r_aload_n hC 2 dX3_worth_10 rfl rfl ?_
      refine r_getI hC fl3_18 hb rfl dX3_worth_11 ?_
      refine r_icmp_ge hC 143 dX3_worth_14 (by decide) (fun h6 => ?_) (fun h6 => ?_)
      · have hO := hO.1 h6
        refine r_aload_n hC 2 dX3_worth_143 rfl rfl ?_
        refine r_callVi hC [] (T3_pop hb hO) yv3_pop ml3_25 hb rfl ⟨Nat.le_of_ble_eq_true rfl, Nat.le_of_ble_eq_true rfl⟩ rfl rfl (Nat.le_of_ble_eq_true rfl) dX3_worth_144 (fun r7 μ8 hO => ?_)
        exact r_iret hC rfl dX3_worth_147 hO
      · have hO := hO.2 h6
        refine r_aload_n hC 2 dX3_worth_17 rfl rfl ?_
        refine r_getR hC (b + 1) fl3_11 hb rfl dX3_worth_18 ?_
        refine r_iload_n hC 0 dX3_worth_21 rfl rfl ?_
        obtain ⟨g9, hO⟩ := hO
        refine r_iald hC (sh3_0 hb) g9 v2.toNatClampNeg rfl dX3_worth_22 ?_
        refine r_nmI (fun x10 hx10 => ?_)
        have hO := hO x10 hx10
        refine r_istore hC [(4, .int x10), (3, .int v2), (2, .int v3), (0, .ref (mw_a G b)), (1, .ref (mw_a G d1))] dX3_worth_23 (by decide) rfl ?_
        refine r_iload_n hC 2 dX3_worth_25 rfl rfl ?_
        refine r_if_eq hC 46 dX3_worth_26 (by decide) (fun h11 => ?_) (fun h11 => ?_)
        · have hO := hO.1 h11
          refine r_iload hC 0 dX3_worth_46 rfl ?_
          refine r_sipush hC 10059 dX3_worth_48 (by decide) ?_
          refine r_icmp_ne hC 59 dX3_worth_51 (by decide) (fun h12 => ?_) (fun h12 => ?_)
          · have hO := hO.2 h12
            refine r_iload hC 0 dX3_worth_59 rfl ?_
            refine r_sipush hC 10063 dX3_worth_61 (by decide) ?_
            refine r_icmp_ne hC 83 dX3_worth_64 (by decide) (fun h13 => ?_) (fun h13 => ?_)
            · have hO := hO.2 h13
              refine r_iload hC 0 dX3_worth_83 rfl ?_
              refine r_if_ge hC 114 dX3_worth_85 (by decide) (fun h14 => ?_) (fun h14 => ?_)
              · have hO := hO.1 h14
                refine r_iload hC 0 dX3_worth_114 rfl ?_
                refine r_sipush hC 10000 dX3_worth_116 (by decide) ?_
                refine r_icmp_ge hC 131 dX3_worth_119 (by decide) (fun h15 => ?_) (fun h15 => ?_)
                · have hO := hO.1 h15
                  refine r_aload_n hC 3 dX3_worth_131 rfl rfl ?_
                  refine r_iload hC 0 dX3_worth_132 rfl ?_
                  refine r_callVv hC [.int x10] (T3_workOut hb hO) yv3_workOut ml3_33 hb rfl ⟨Nat.le_of_ble_eq_true rfl, Nat.le_of_ble_eq_true rfl⟩ rfl rfl (Nat.le_of_ble_eq_true rfl) dX3_worth_134 (fun μ16 hO => ?_)
                  obtain ⟨x17, hx17⟩ : ∃ y : Int32, y = v2 + 1 := ⟨_, rfl⟩
                  have hO := hO x17 hx17
                  refine r_iinc hC x17 1 [(3, .int x17), (4, .int x10), (2, .int v3), (0, .ref (mw_a G b)), (1, .ref (mw_a G d1))] dX3_worth_137 rfl (by rw [hx17]; rfl) (by decide) rfl ?_
                  refine r_goto hC 9 dX3_worth_140 (by decide) ?_
                  refine r_lv hC [(3, .int x17), (2, .int v3), (0, .ref (mw_a G b)), (1, .ref (mw_a G d1))] [0, 2, 3, 4] rfl ?_
                  exact ihn5 x17 v3 μ16 hO
                · have hO := hO.2 h15
                  refine r_aload_n hC 3 dX3_worth_122 rfl rfl ?_
                  refine r_iload hC 0 dX3_worth_123 rfl ?_
                  refine r_callVv hC [.int x10] (T3_push hb hO) yv3_push ml3_29 hb rfl ⟨Nat.le_of_ble_eq_true rfl, Nat.le_of_ble_eq_true rfl⟩ rfl rfl (Nat.le_of_ble_eq_true rfl) dX3_worth_125 (fun μ18 hO => ?_)
                  refine r_goto hC 137 dX3_worth_128 (by decide) ?_
                  obtain ⟨x19, hx19⟩ : ∃ y : Int32, y = v2 + 1 := ⟨_, rfl⟩
                  have hO := hO x19 hx19
                  refine r_iinc hC x19 1 [(3, .int x19), (4, .int x10), (2, .int v3), (0, .ref (mw_a G b)), (1, .ref (mw_a G d1))] dX3_worth_137 rfl (by rw [hx19]; rfl) (by decide) rfl ?_
                  refine r_goto hC 9 dX3_worth_140 (by decide) ?_
                  refine r_lv hC [(3, .int x19), (2, .int v3), (0, .ref (mw_a G b)), (1, .ref (mw_a G d1))] [0, 2, 3, 4] rfl ?_
                  exact ihn5 x19 v3 μ18 hO
              · have hO := hO.2 h14
                refine r_aload_n hC 3 dX3_worth_88 rfl rfl ?_
                refine r_iconst hC (-1) dX3_worth_89 (by decide) ?_
                refine r_iload hC 0 dX3_worth_90 rfl ?_
                refine r_isub hC dX3_worth_92 ?_
                refine r_aload_n hC 4 dX3_worth_93 rfl rfl ?_
                refine r_alen hC hd1 dX3_worth_94 ?_
                refine r_icmp_ge hC 107 dX3_worth_95 (by decide) (fun h20 => ?_) (fun h20 => ?_)
                · have hO := hO.1 h20
                  refine r_iconst hC 0 dX3_worth_107 (by decide) ?_
                  refine r_callVv hC [.int 0] (T3_push hb hO) yv3_push ml3_29 hb rfl ⟨Nat.le_of_ble_eq_true rfl, Nat.le_of_ble_eq_true rfl⟩ rfl rfl (Nat.le_of_ble_eq_true rfl) dX3_worth_108 (fun μ21 hO => ?_)
                  refine r_goto hC 137 dX3_worth_111 (by decide) ?_
                  obtain ⟨x22, hx22⟩ : ∃ y : Int32, y = v2 + 1 := ⟨_, rfl⟩
                  have hO := hO x22 hx22
                  refine r_iinc hC x22 1 [(3, .int x22), (4, .int x10), (2, .int v3), (0, .ref (mw_a G b)), (1, .ref (mw_a G d1))] dX3_worth_137 rfl (by rw [hx22]; rfl) (by decide) rfl ?_
                  refine r_goto hC 9 dX3_worth_140 (by decide) ?_
                  refine r_lv hC [(3, .int x22), (2, .int v3), (0, .ref (mw_a G b)), (1, .ref (mw_a G d1))] [0, 2, 3, 4] rfl ?_
                  exact ihn5 x22 v3 μ21 hO
                · have hO := hO.2 h20
                  refine r_aload_n hC 4 dX3_worth_98 rfl rfl ?_
                  refine r_iconst hC (-1) dX3_worth_99 (by decide) ?_
                  refine r_iload hC 0 dX3_worth_100 rfl ?_
                  refine r_isub hC dX3_worth_102 ?_
                  obtain ⟨g23, hO⟩ := hO
                  refine r_iald hC hd1 g23 (((-1) - x10).toNatClampNeg) rfl dX3_worth_103 ?_
                  refine r_goto hC 108 dX3_worth_104 (by decide) ?_
                  refine r_callVv hC [.int (μ4.1 d1 (((-1) - x10).toNatClampNeg))] (T3_push hb hO) yv3_push ml3_29 hb rfl ⟨Nat.le_of_ble_eq_true rfl, Nat.le_of_ble_eq_true rfl⟩ rfl rfl (Nat.le_of_ble_eq_true rfl) dX3_worth_108 (fun μ24 hO => ?_)
                  refine r_goto hC 137 dX3_worth_111 (by decide) ?_
                  obtain ⟨x25, hx25⟩ : ∃ y : Int32, y = v2 + 1 := ⟨_, rfl⟩
                  have hO := hO x25 hx25
                  refine r_iinc hC x25 1 [(3, .int x25), (4, .int x10), (2, .int v3), (0, .ref (mw_a G b)), (1, .ref (mw_a G d1))] dX3_worth_137 rfl (by rw [hx25]; rfl) (by decide) rfl ?_
                  refine r_goto hC 9 dX3_worth_140 (by decide) ?_
                  refine r_lv hC [(3, .int x25), (2, .int v3), (0, .ref (mw_a G b)), (1, .ref (mw_a G d1))] [0, 2, 3, 4] rfl ?_
                  exact ihn5 x25 v3 μ24 hO
            · have hO := hO.1 h13
              refine r_aload_n hC 3 dX3_worth_67 rfl rfl ?_
              refine r_callVi hC [] (T3_pop hb hO) yv3_pop ml3_25 hb rfl ⟨Nat.le_of_ble_eq_true rfl, Nat.le_of_ble_eq_true rfl⟩ rfl rfl (Nat.le_of_ble_eq_true rfl) dX3_worth_68 (fun r26 μ27 hO => ?_)
              refine r_if_ne hC 78 dX3_worth_71 (by decide) (fun h28 => ?_) (fun h28 => ?_)
              · have hO := hO.2 h28
                refine r_iconst hC 0 dX3_worth_78 (by decide) ?_
                refine r_istore_n hC [(2, .int 0), (4, .int x10), (3, .int v2), (0, .ref (mw_a G b)), (1, .ref (mw_a G d1))] dX3_worth_79 rfl (by decide) rfl ?_
                refine r_goto hC 137 dX3_worth_80 (by decide) ?_
                obtain ⟨x29, hx29⟩ : ∃ y : Int32, y = v2 + 1 := ⟨_, rfl⟩
                have hO := hO x29 hx29
                refine r_iinc hC x29 2 [(3, .int x29), (2, .int 0), (4, .int x10), (0, .ref (mw_a G b)), (1, .ref (mw_a G d1))] dX3_worth_137 rfl (by rw [hx29]; rfl) (by decide) rfl ?_
                refine r_goto hC 9 dX3_worth_140 (by decide) ?_
                refine r_lv hC [(3, .int x29), (2, .int 0), (0, .ref (mw_a G b)), (1, .ref (mw_a G d1))] [0, 1, 3, 4] rfl ?_
                exact ihn5 x29 0 μ27 hO
              · have hO := hO.1 h28
                refine r_iconst hC 1 dX3_worth_74 (by decide) ?_
                refine r_goto hC 79 dX3_worth_75 (by decide) ?_
                refine r_istore_n hC [(2, .int 1), (4, .int x10), (3, .int v2), (0, .ref (mw_a G b)), (1, .ref (mw_a G d1))] dX3_worth_79 rfl (by decide) rfl ?_
                refine r_goto hC 137 dX3_worth_80 (by decide) ?_
                obtain ⟨x30, hx30⟩ : ∃ y : Int32, y = v2 + 1 := ⟨_, rfl⟩
                have hO := hO x30 hx30
                refine r_iinc hC x30 2 [(3, .int x30), (2, .int 1), (4, .int x10), (0, .ref (mw_a G b)), (1, .ref (mw_a G d1))] dX3_worth_137 rfl (by rw [hx30]; rfl) (by decide) rfl ?_
                refine r_goto hC 9 dX3_worth_140 (by decide) ?_
                refine r_lv hC [(3, .int x30), (2, .int 1), (0, .ref (mw_a G b)), (1, .ref (mw_a G d1))] [0, 1, 3, 4] rfl ?_
                exact ihn5 x30 1 μ27 hO
          · have hO := hO.1 h12
            refine r_aload_n hC 3 dX3_worth_54 rfl rfl ?_
            refine r_callVi hC [] (T3_pop hb hO) yv3_pop ml3_25 hb rfl ⟨Nat.le_of_ble_eq_true rfl, Nat.le_of_ble_eq_true rfl⟩ rfl rfl (Nat.le_of_ble_eq_true rfl) dX3_worth_55 (fun r31 μ32 hO => ?_)
            exact r_iret hC rfl dX3_worth_58 hO
        · have hO := hO.2 h11
          refine r_iload hC 0 dX3_worth_29 rfl ?_
          refine r_sipush hC 10059 dX3_worth_31 (by decide) ?_
          refine r_icmp_eq hC 41 dX3_worth_34 (by decide) (fun h33 => ?_) (fun h33 => ?_)
          · have hO := hO.1 h33
            refine r_iconst hC 0 dX3_worth_41 (by decide) ?_
            refine r_istore_n hC [(2, .int 0), (4, .int x10), (3, .int v2), (0, .ref (mw_a G b)), (1, .ref (mw_a G d1))] dX3_worth_42 rfl (by decide) rfl ?_
            refine r_goto hC 137 dX3_worth_43 (by decide) ?_
            obtain ⟨x34, hx34⟩ : ∃ y : Int32, y = v2 + 1 := ⟨_, rfl⟩
            have hO := hO x34 hx34
            refine r_iinc hC x34 2 [(3, .int x34), (2, .int 0), (4, .int x10), (0, .ref (mw_a G b)), (1, .ref (mw_a G d1))] dX3_worth_137 rfl (by rw [hx34]; rfl) (by decide) rfl ?_
            refine r_goto hC 9 dX3_worth_140 (by decide) ?_
            refine r_lv hC [(3, .int x34), (2, .int 0), (0, .ref (mw_a G b)), (1, .ref (mw_a G d1))] [0, 1, 3, 4] rfl ?_
            exact ihn5 x34 0 μ4 hO
          · have hO := hO.2 h33
            refine r_iconst hC 1 dX3_worth_37 (by decide) ?_
            refine r_goto hC 42 dX3_worth_38 (by decide) ?_
            refine r_istore_n hC [(2, .int 1), (4, .int x10), (3, .int v2), (0, .ref (mw_a G b)), (1, .ref (mw_a G d1))] dX3_worth_42 rfl (by decide) rfl ?_
            refine r_goto hC 137 dX3_worth_43 (by decide) ?_
            obtain ⟨x35, hx35⟩ : ∃ y : Int32, y = v2 + 1 := ⟨_, rfl⟩
            have hO := hO x35 hx35
            refine r_iinc hC x35 2 [(3, .int x35), (2, .int 1), (4, .int x10), (0, .ref (mw_a G b)), (1, .ref (mw_a G d1))] dX3_worth_137 rfl (by rw [hx35]; rfl) (by decide) rfl ?_
            refine r_goto hC 9 dX3_worth_140 (by decide) ?_
            refine r_lv hC [(3, .int x35), (2, .int 1), (0, .ref (mw_a G b)), (1, .ref (mw_a G d1))] [0, 1, 3, 4] rfl ?_
            exact ihn5 x35 1 μ4 hO
  obtain ⟨n5, hO⟩ := hO
  refine hLn5   n5 _ _ _ hO
set_option maxHeartbeats 4000000 in
set_option maxRecDepth 100000 in
theorem T4_areFull {l : Launch} {G : mw_G}  {μ : mw_M} {QT : Prop} {QF : Prop}  (hO : P4_areFull μ QT QF) : mw_Mi l G kdX yX4_areFull cX4_areFull 1 (some .boolean) 0 0 [.ref (mw_a G 15)] μ (mw_bq (mw_pv μ QT) (mw_pv μ QF)) := by
  refine mw_enter [(0, .ref (mw_a G 15))] RX4 (by decide) rfl (Nat.le_of_ble_eq_true rfl) rfl ?_
  intro p e s m args below meth c hC
  unfold P4_areFull at hO
  refine r_aload_n hC 0 dX4_areFull_0 rfl rfl ?_
  refine r_getI hC fl4_33 ob4 rfl dX4_areFull_1 ?_
  refine r_iconst hC 4 dX4_areFull_4 (by decide) ?_
  refine r_icmp_lt hC 12 dX4_areFull_5 (by decide) (fun h1 => ?_) (fun h1 => ?_)
  · have hO := hO.1 h1
    refine r_iconst hC 0 dX4_areFull_12 (by decide) ?_
    exact r_zret hC rfl (by decide) dX4_areFull_13 (Or.inr ⟨rfl, hO, rfl⟩)
  · have hO := hO.2 h1
    refine r_iconst hC 1 dX4_areFull_8 (by decide) ?_
    refine r_goto hC 13 dX4_areFull_9 (by decide) ?_
    exact r_zret hC rfl (by decide) dX4_areFull_13 (Or.inl ⟨rfl, hO, rfl⟩)
set_option maxHeartbeats 4000000 in
set_option maxRecDepth 100000 in
theorem T4_has {l : Launch} {G : mw_G} {p1 : Int32} {μ : mw_M} {QT : Prop} {QF : Prop}  (hO : P4_has p1 μ QT QF) : mw_Mi l G kdX yX4_has cX4_has 2 (some .boolean) 0 0 [.ref (mw_a G 15), .int p1] μ (mw_bq (mw_pv μ QT) (mw_pv μ QF)) := by
  refine mw_enter [(0, .ref (mw_a G 15)), (1, .int p1)] RX4 (by decide) rfl (Nat.le_of_ble_eq_true rfl) rfl ?_
  intro p e s m args below meth c hC
  unfold P4_has at hO
  refine r_iload_n hC 1 dX4_has_0 rfl rfl ?_
  refine r_if_lt hC 16 dX4_has_1 (by decide) (fun h1 => ?_) (fun h1 => ?_)
  · have hO := hO.1 h1
    refine r_iconst hC 0 dX4_has_16 (by decide) ?_
    exact r_zret hC rfl (by decide) dX4_has_17 (Or.inr ⟨rfl, hO, rfl⟩)
  · have hO := hO.2 h1
    refine r_iload_n hC 1 dX4_has_4 rfl rfl ?_
    refine r_aload_n hC 0 dX4_has_5 rfl rfl ?_
    refine r_getI hC fl4_33 ob4 rfl dX4_has_6 ?_
    refine r_icmp_ge hC 16 dX4_has_9 (by decide) (fun h2 => ?_) (fun h2 => ?_)
    · have hO := hO.1 h2
      refine r_iconst hC 0 dX4_has_16 (by decide) ?_
      exact r_zret hC rfl (by decide) dX4_has_17 (Or.inr ⟨rfl, hO, rfl⟩)
    · have hO := hO.2 h2
      refine r_iconst hC 1 dX4_has_12 (by decide) ?_
      refine r_goto hC 17 dX4_has_13 (by decide) ?_
      exact r_zret hC rfl (by decide) dX4_has_17 (Or.inl ⟨rfl, hO, rfl⟩)
set_option maxHeartbeats 4000000 in
set_option maxRecDepth 100000 in
theorem T7_here {l : Launch} {G : mw_G}  {μ : mw_M} {Q : Int32 → Prop}  (hO : P7_here μ Q) : mw_Mi l G kdX yX7_here cX7_here 1 (some .int) 0 0 [.ref (mw_a G 16)] μ (mw_pq μ Q) := by
  refine mw_enter [(0, .ref (mw_a G 16))] RX7 (by decide) rfl (Nat.le_of_ble_eq_true rfl) rfl ?_
  intro p e s m args below meth c hC
  unfold P7_here at hO
  refine r_aload_n hC 0 dX7_here_0 rfl rfl ?_
  refine r_getI hC fl7_26 ob7 rfl dX7_here_1 ?_
  refine r_aload_n hC 0 dX7_here_4 rfl rfl ?_
  refine r_getI hC fl7_13 ob7 rfl dX7_here_5 ?_
  refine r_icmp_ge hC 32 dX7_here_8 (by decide) (fun h1 => ?_) (fun h1 => ?_)
  · have hO := hO.1 h1
    refine r_iconst hC 0 dX7_here_32 (by decide) ?_
    exact r_iret hC rfl dX7_here_33 ⟨hO, rfl⟩
  · have hO := hO.2 h1
    refine r_aload_n hC 0 dX7_here_11 rfl rfl ?_
    refine r_getI hC fl7_26 ob7 rfl dX7_here_12 ?_
    refine r_bipush hC 120 dX7_here_15 (by decide) ?_
    refine r_icmp_ge hC 32 dX7_here_17 (by decide) (fun h2 => ?_) (fun h2 => ?_)
    · have hO := hO.1 h2
      refine r_iconst hC 0 dX7_here_32 (by decide) ?_
      exact r_iret hC rfl dX7_here_33 ⟨hO, rfl⟩
    · have hO := hO.2 h2
      refine r_aload_n hC 0 dX7_here_20 rfl rfl ?_
      refine r_getR hC 17 fl7_9 ob7 rfl dX7_here_21 ?_
      refine r_aload_n hC 0 dX7_here_24 rfl rfl ?_
      refine r_getI hC fl7_26 ob7 rfl dX7_here_25 ?_
      obtain ⟨g3, hO⟩ := hO
      refine r_iald hC sh7_0 g3 ((μ.1 16 2).toNatClampNeg) rfl dX7_here_28 ?_
      refine r_goto hC 33 dX7_here_29 (by decide) ?_
      exact r_iret hC rfl dX7_here_33 ⟨hO, rfl⟩
set_option maxHeartbeats 4000000 in
set_option maxRecDepth 100000 in
theorem T7_binds {l : Launch} {G : mw_G} {p1 : Int32} {p2 : Int32} {μ : mw_M} {QT : Prop} {QF : Prop}  (hO : P7_binds p1 p2 QT QF) : mw_Mi l G kdX yX7_binds cX7_binds 2 (some .boolean) 0 0 [.int p1, .int p2] μ (mw_bq (mw_pv μ QT) (mw_pv μ QF)) := by
  refine mw_enter [(0, .int p1), (1, .int p2)] RX7 (by decide) rfl (Nat.le_of_ble_eq_true rfl) rfl ?_
  intro p e s m args below meth c hC
  unfold P7_binds at hO
  refine r_iload_n hC 1 dX7_binds_0 rfl rfl ?_
  by_cases h1 : p2 = 0
  · have hO := hO.1 h1
    refine r_tin hC 32 dX7_binds_1 (by rw [h1]; decide) (by rw [h1]; decide) (by rw [h1] <;> rfl) (by decide) ?_
    refine r_iload_n hC 0 dX7_binds_32 rfl rfl ?_
    refine r_bipush hC 124 dX7_binds_33 (by decide) ?_
    refine r_icmp_ne hC 42 dX7_binds_35 (by decide) (fun h2 => ?_) (fun h2 => ?_)
    · have hO := hO.2 h2
      refine r_iconst hC 0 dX7_binds_42 (by decide) ?_
      exact r_zret hC rfl (by decide) dX7_binds_43 (Or.inr ⟨rfl, hO, rfl⟩)
    · have hO := hO.1 h2
      refine r_iconst hC 1 dX7_binds_38 (by decide) ?_
      refine r_goto hC 43 dX7_binds_39 (by decide) ?_
      exact r_zret hC rfl (by decide) dX7_binds_43 (Or.inl ⟨rfl, hO, rfl⟩)
  by_cases h3 : p2 = 1
  · have hO := hO.2.1 h3
    refine r_tin hC 44 dX7_binds_1 (by rw [h3]; decide) (by rw [h3]; decide) (by rw [h3] <;> rfl) (by decide) ?_
    refine r_iload_n hC 0 dX7_binds_44 rfl rfl ?_
    refine r_bipush hC 38 dX7_binds_45 (by decide) ?_
    refine r_icmp_ne hC 54 dX7_binds_47 (by decide) (fun h4 => ?_) (fun h4 => ?_)
    · have hO := hO.2 h4
      refine r_iconst hC 0 dX7_binds_54 (by decide) ?_
      exact r_zret hC rfl (by decide) dX7_binds_55 (Or.inr ⟨rfl, hO, rfl⟩)
    · have hO := hO.1 h4
      refine r_iconst hC 1 dX7_binds_50 (by decide) ?_
      refine r_goto hC 55 dX7_binds_51 (by decide) ?_
      exact r_zret hC rfl (by decide) dX7_binds_55 (Or.inl ⟨rfl, hO, rfl⟩)
  by_cases h5 : p2 = 2
  · have hO := hO.2.2.1 h5
    refine r_tin hC 56 dX7_binds_1 (by rw [h5]; decide) (by rw [h5]; decide) (by rw [h5] <;> rfl) (by decide) ?_
    refine r_iload_n hC 0 dX7_binds_56 rfl rfl ?_
    refine r_bipush hC 60 dX7_binds_57 (by decide) ?_
    refine r_icmp_eq hC 74 dX7_binds_59 (by decide) (fun h6 => ?_) (fun h6 => ?_)
    · have hO := hO.1 h6
      refine r_iconst hC 1 dX7_binds_74 (by decide) ?_
      refine r_goto hC 79 dX7_binds_75 (by decide) ?_
      exact r_zret hC rfl (by decide) dX7_binds_79 (Or.inl ⟨rfl, hO, rfl⟩)
    · have hO := hO.2 h6
      refine r_iload_n hC 0 dX7_binds_62 rfl rfl ?_
      refine r_bipush hC 61 dX7_binds_63 (by decide) ?_
      refine r_icmp_eq hC 74 dX7_binds_65 (by decide) (fun h7 => ?_) (fun h7 => ?_)
      · have hO := hO.1 h7
        refine r_iconst hC 1 dX7_binds_74 (by decide) ?_
        refine r_goto hC 79 dX7_binds_75 (by decide) ?_
        exact r_zret hC rfl (by decide) dX7_binds_79 (Or.inl ⟨rfl, hO, rfl⟩)
      · have hO := hO.2 h7
        refine r_iload_n hC 0 dX7_binds_68 rfl rfl ?_
        refine r_bipush hC 62 dX7_binds_69 (by decide) ?_
        refine r_icmp_ne hC 78 dX7_binds_71 (by decide) (fun h8 => ?_) (fun h8 => ?_)
        · have hO := hO.2 h8
          refine r_iconst hC 0 dX7_binds_78 (by decide) ?_
          exact r_zret hC rfl (by decide) dX7_binds_79 (Or.inr ⟨rfl, hO, rfl⟩)
        · have hO := hO.1 h8
          refine r_iconst hC 1 dX7_binds_74 (by decide) ?_
          refine r_goto hC 79 dX7_binds_75 (by decide) ?_
          exact r_zret hC rfl (by decide) dX7_binds_79 (Or.inl ⟨rfl, hO, rfl⟩)
  by_cases h9 : p2 = 3
  · have hO := hO.2.2.2.1 h9
    refine r_tin hC 80 dX7_binds_1 (by rw [h9]; decide) (by rw [h9]; decide) (by rw [h9] <;> rfl) (by decide) ?_
    refine r_iload_n hC 0 dX7_binds_80 rfl rfl ?_
    refine r_bipush hC 43 dX7_binds_81 (by decide) ?_
    refine r_icmp_eq hC 92 dX7_binds_83 (by decide) (fun h10 => ?_) (fun h10 => ?_)
    · have hO := hO.1 h10
      refine r_iconst hC 1 dX7_binds_92 (by decide) ?_
      refine r_goto hC 97 dX7_binds_93 (by decide) ?_
      exact r_zret hC rfl (by decide) dX7_binds_97 (Or.inl ⟨rfl, hO, rfl⟩)
    · have hO := hO.2 h10
      refine r_iload_n hC 0 dX7_binds_86 rfl rfl ?_
      refine r_bipush hC 45 dX7_binds_87 (by decide) ?_
      refine r_icmp_ne hC 96 dX7_binds_89 (by decide) (fun h11 => ?_) (fun h11 => ?_)
      · have hO := hO.2 h11
        refine r_iconst hC 0 dX7_binds_96 (by decide) ?_
        exact r_zret hC rfl (by decide) dX7_binds_97 (Or.inr ⟨rfl, hO, rfl⟩)
      · have hO := hO.1 h11
        refine r_iconst hC 1 dX7_binds_92 (by decide) ?_
        refine r_goto hC 97 dX7_binds_93 (by decide) ?_
        exact r_zret hC rfl (by decide) dX7_binds_97 (Or.inl ⟨rfl, hO, rfl⟩)
  have hO := hO.2.2.2.2 h1 h3 h5 h9
  refine r_tdef hC 98 dX7_binds_1 (by decide) rfl (fun k hk => match k, hk with | 0, _ => Or.inr (mw_ne h1 rfl) | 1, _ => Or.inr (mw_ne h3 rfl) | 2, _ => Or.inr (mw_ne h5 rfl) | 3, _ => Or.inr (mw_ne h9 rfl) | k + 4, h => absurd h (by show ¬ k + 4 < 4; omega)) ?_
  refine r_iload_n hC 0 dX7_binds_98 rfl rfl ?_
  refine r_bipush hC 42 dX7_binds_99 (by decide) ?_
  refine r_icmp_eq hC 116 dX7_binds_101 (by decide) (fun h12 => ?_) (fun h12 => ?_)
  · have hO := hO.1 h12
    refine r_iconst hC 1 dX7_binds_116 (by decide) ?_
    refine r_goto hC 121 dX7_binds_117 (by decide) ?_
    exact r_zret hC rfl (by decide) dX7_binds_121 (Or.inl ⟨rfl, hO, rfl⟩)
  · have hO := hO.2 h12
    refine r_iload_n hC 0 dX7_binds_104 rfl rfl ?_
    refine r_bipush hC 47 dX7_binds_105 (by decide) ?_
    refine r_icmp_eq hC 116 dX7_binds_107 (by decide) (fun h13 => ?_) (fun h13 => ?_)
    · have hO := hO.1 h13
      refine r_iconst hC 1 dX7_binds_116 (by decide) ?_
      refine r_goto hC 121 dX7_binds_117 (by decide) ?_
      exact r_zret hC rfl (by decide) dX7_binds_121 (Or.inl ⟨rfl, hO, rfl⟩)
    · have hO := hO.2 h13
      refine r_iload_n hC 0 dX7_binds_110 rfl rfl ?_
      refine r_bipush hC 37 dX7_binds_111 (by decide) ?_
      refine r_icmp_ne hC 120 dX7_binds_113 (by decide) (fun h14 => ?_) (fun h14 => ?_)
      · have hO := hO.2 h14
        refine r_iconst hC 0 dX7_binds_120 (by decide) ?_
        exact r_zret hC rfl (by decide) dX7_binds_121 (Or.inr ⟨rfl, hO, rfl⟩)
      · have hO := hO.1 h14
        refine r_iconst hC 1 dX7_binds_116 (by decide) ?_
        refine r_goto hC 121 dX7_binds_117 (by decide) ?_
        exact r_zret hC rfl (by decide) dX7_binds_121 (Or.inl ⟨rfl, hO, rfl⟩)
set_option maxHeartbeats 4000000 in
set_option maxRecDepth 100000 in
theorem T7_isDigit {l : Launch} {G : mw_G} {p1 : Int32} {μ : mw_M} {QT : Prop} {QF : Prop}  (hO : P7_isDigit p1 QT QF) : mw_Mi l G kdX yX7_isDigit cX7_isDigit 1 (some .boolean) 0 0 [.int p1] μ (mw_bq (mw_pv μ QT) (mw_pv μ QF)) := by
  refine mw_enter [(0, .int p1)] RX7 (by decide) rfl (Nat.le_of_ble_eq_true rfl) rfl ?_
  intro p e s m args below meth c hC
  unfold P7_isDigit at hO
  refine r_iload_n hC 0 dX7_isDigit_0 rfl rfl ?_
  refine r_bipush hC 48 dX7_isDigit_1 (by decide) ?_
  refine r_icmp_lt hC 16 dX7_isDigit_3 (by decide) (fun h1 => ?_) (fun h1 => ?_)
  · have hO := hO.1 h1
    refine r_iconst hC 0 dX7_isDigit_16 (by decide) ?_
    exact r_zret hC rfl (by decide) dX7_isDigit_17 (Or.inr ⟨rfl, hO, rfl⟩)
  · have hO := hO.2 h1
    refine r_iload_n hC 0 dX7_isDigit_6 rfl rfl ?_
    refine r_bipush hC 57 dX7_isDigit_7 (by decide) ?_
    refine r_icmp_gt hC 16 dX7_isDigit_9 (by decide) (fun h2 => ?_) (fun h2 => ?_)
    · have hO := hO.1 h2
      refine r_iconst hC 0 dX7_isDigit_16 (by decide) ?_
      exact r_zret hC rfl (by decide) dX7_isDigit_17 (Or.inr ⟨rfl, hO, rfl⟩)
    · have hO := hO.2 h2
      refine r_iconst hC 1 dX7_isDigit_12 (by decide) ?_
      refine r_goto hC 17 dX7_isDigit_13 (by decide) ?_
      exact r_zret hC rfl (by decide) dX7_isDigit_17 (Or.inl ⟨rfl, hO, rfl⟩)
set_option maxHeartbeats 4000000 in
set_option maxRecDepth 100000 in
theorem T7_numberIsRead {l : Launch} {G : mw_G}  {μ : mw_M} {QT : mw_M → Prop} {QF : mw_M → Prop}  (hO : P7_numberIsRead μ QT QF) : mw_Mi l G kdX yX7_numberIsRead cX7_numberIsRead 3 (some .boolean) 1 21 [.ref (mw_a G 16)] μ (mw_bq QT QF) := by
  refine mw_enter [(0, .ref (mw_a G 16))] RX7 (by decide) rfl (Nat.le_of_ble_eq_true rfl) rfl ?_
  intro p e s m args below meth c hC
  unfold P7_numberIsRead at hO
  refine r_iconst hC 0 dX7_numberIsRead_0 (by decide) ?_
  refine r_istore_n hC [(1, .int 0), (0, .ref (mw_a G 16))] dX7_numberIsRead_1 rfl (by decide) rfl ?_
  refine r_iconst hC 0 dX7_numberIsRead_2 (by decide) ?_
  refine r_istore_n hC [(2, .int 0), (1, .int 0), (0, .ref (mw_a G 16))] dX7_numberIsRead_3 rfl (by decide) rfl ?_
  have hLn4 : ∀  (K1 : Int32 → Int32 → mw_M → Prop) (hK1 : ∀ (v1 : Int32) (v2 : Int32) (μ3 : mw_M), K1 v1 v2 μ3 → mw_W p l e (mw_rm 1 21) s m args below meth c G kdX 3 (MQ below (va_Qi (mw_bq QT QF) (mw_B G kdX) (mw_A G kdX)) args s 0 0 (mw_A G kdX)) 48 [(2, .int v1), (1, .int v2), (0, .ref (mw_a G 16))] [] μ3) (n4 : Nat) (v1 : Int32) (v2 : Int32) (μ3 : mw_M), L7_numberIsRead_4 QT QF K1 n4 v1 v2 μ3 → mw_W p l e (mw_rm 1 21) s m args below meth c G kdX 3 (MQ below (va_Qi (mw_bq QT QF) (mw_B G kdX) (mw_A G kdX)) args s 0 0 (mw_A G kdX)) 4 [(2, .int v1), (1, .int v2), (0, .ref (mw_a G 16))] [] μ3 := by
    intro  K1 hK1 n4
    induction n4 with
    | zero => intro v1 v2 μ3 hO; exact False.elim hO
    | succ n4 ihn4 =>
      intro v1 v2 μ3 hO
      refine r_iload_n hC 0 dX7_numberIsRead_4 rfl rfl ?_
      refine r_iconst hC 4 dX7_numberIsRead_5 (by decide) ?_
      refine r_icmp_ge hC 48 dX7_numberIsRead_6 (by decide) (fun h5 => ?_) (fun h5 => ?_)
      · have hO := hO.1 h5
        refine r_lv hC [(2, .int v1), (1, .int v2), (0, .ref (mw_a G 16))] [0, 1, 2] rfl ?_
        exact hK1 v1 v2 μ3 hO
      · have hO := hO.2 h5
        refine r_aload_n hC 2 dX7_numberIsRead_9 rfl rfl ?_
        refine r_callVi hC [] (T7_here  hO) yv7_here ml7_49 ob7 rfl ⟨Nat.le_of_ble_eq_true rfl, Nat.le_of_ble_eq_true rfl⟩ rfl rfl (Nat.le_of_ble_eq_true rfl) dX7_numberIsRead_10 (fun r6 μ7 hO => ?_)
        obtain ⟨hO, hm⟩ := hO
        refine r_memEq hm ?_
        refine r_callSi hC [.int r6] (T7_isDigit  hO) yv7_isDigit ml7_56 ⟨Nat.le_of_ble_eq_true rfl, Nat.le_of_ble_eq_true rfl⟩ rfl rfl (Nat.le_of_ble_eq_true rfl) dX7_numberIsRead_13 (fun r8 μ9 hO => ?_)
        rcases hO with ⟨hr, hO⟩ | ⟨hr, hO⟩
        · refine r_topEq hr ?_
          obtain ⟨hO, hm⟩ := hO
          refine r_memEq hm ?_
          refine r_if_eq hC 48 dX7_numberIsRead_16 (by decide) (fun h => absurd h (by decide)) (fun _ => ?_)
          refine r_iload_n hC 1 dX7_numberIsRead_19 rfl rfl ?_
          refine r_bipush hC 10 dX7_numberIsRead_20 (by decide) ?_
          refine r_imul hC dX7_numberIsRead_22 ?_
          refine r_aload_n hC 2 dX7_numberIsRead_23 rfl rfl ?_
          refine r_callVi hC [] (T7_here  hO) yv7_here ml7_49 ob7 rfl ⟨Nat.le_of_ble_eq_true rfl, Nat.le_of_ble_eq_true rfl⟩ rfl rfl (Nat.le_of_ble_eq_true rfl) dX7_numberIsRead_24 (fun r10 μ11 hO => ?_)
          obtain ⟨hO, hm⟩ := hO
          refine r_memEq hm ?_
          refine r_iadd hC dX7_numberIsRead_27 ?_
          refine r_bipush hC 48 dX7_numberIsRead_28 (by decide) ?_
          refine r_isub hC dX7_numberIsRead_30 ?_
          refine r_nmI (fun x12 hx12 => ?_)
          have hO := hO x12 hx12
          refine r_istore_n hC [(1, .int x12), (2, .int v1), (0, .ref (mw_a G 16))] dX7_numberIsRead_31 rfl (by decide) rfl ?_
          refine r_aload_n hC 2 dX7_numberIsRead_32 rfl rfl ?_
          refine r_dup hC dX7_numberIsRead_33 rfl ?_
          refine r_getI hC fl7_26 ob7 rfl dX7_numberIsRead_34 ?_
          refine r_iconst hC 1 dX7_numberIsRead_37 (by decide) ?_
          refine r_iadd hC dX7_numberIsRead_38 ?_
          refine r_putI hC fl7_26 ob7 rfl rfl rfl dX7_numberIsRead_39 ?_
          refine r_nmM (fun μ13 hμ13 => ?_)
          have hO := hO μ13 hμ13
          obtain ⟨x14, hx14⟩ : ∃ y : Int32, y = v1 + 1 := ⟨_, rfl⟩
          have hO := hO x14 hx14
          refine r_iinc hC x14 1 [(2, .int x14), (1, .int x12), (0, .ref (mw_a G 16))] dX7_numberIsRead_42 rfl (by rw [hx14]; rfl) (by decide) rfl ?_
          refine r_goto hC 4 dX7_numberIsRead_45 (by decide) ?_
          refine r_lv hC [(2, .int x14), (1, .int x12), (0, .ref (mw_a G 16))] [0, 1, 2] rfl ?_
          exact ihn4 x14 x12 μ13 hO
        · refine r_topEq hr ?_
          obtain ⟨hO, hm⟩ := hO
          refine r_memEq hm ?_
          refine r_if_eq hC 48 dX7_numberIsRead_16 (by decide) (fun _ => ?_) (fun h => absurd (by decide) h)
          refine r_lv hC [(2, .int v1), (1, .int v2), (0, .ref (mw_a G 16))] [0, 1, 2] rfl ?_
          exact hK1 v1 v2 μ3 hO
  obtain ⟨n4, hO⟩ := hO
  refine hLn4  _ (fun v1 v2 μ3 hO => ?_) n4 _ _ _ hO
  refine r_aload_n hC 2 dX7_numberIsRead_48 rfl rfl ?_
  obtain ⟨g15, hO⟩ := hO
  refine r_getV hC fl7_17 ob7 rfl g15.1 dX7_numberIsRead_49 ?_
  refine r_iload_n hC 1 dX7_numberIsRead_52 rfl rfl ?_
  refine r_callVv hC [.int v2] (T3_add g15.2 hO) yv3_add ml7_37 g15.2 rfl ⟨Nat.le_of_ble_eq_true rfl, Nat.le_of_ble_eq_true rfl⟩ rfl rfl (Nat.le_of_ble_eq_true rfl) dX7_numberIsRead_53 (fun μ16 hO => ?_)
  refine r_iconst hC 1 dX7_numberIsRead_56 (by decide) ?_
  exact r_zret hC rfl (by decide) dX7_numberIsRead_57 (Or.inl ⟨rfl, hO⟩)
set_option maxHeartbeats 4000000 in
set_option maxRecDepth 100000 in
theorem T7_isHere {l : Launch} {G : mw_G} {p1 : Int32} {μ : mw_M} {QT : Prop} {QF : Prop}  (hO : P7_isHere p1 μ QT QF) : mw_Mi l G kdX yX7_isHere cX7_isHere 2 (some .boolean) 0 0 [.ref (mw_a G 16), .int p1] μ (mw_bq (mw_pv μ QT) (mw_pv μ QF)) := by
  refine mw_enter [(0, .ref (mw_a G 16)), (1, .int p1)] RX7 (by decide) rfl (Nat.le_of_ble_eq_true rfl) rfl ?_
  intro p e s m args below meth c hC
  unfold P7_isHere at hO
  refine r_aload_n hC 0 dX7_isHere_0 rfl rfl ?_
  refine r_getI hC fl7_26 ob7 rfl dX7_isHere_1 ?_
  refine r_aload_n hC 0 dX7_isHere_4 rfl rfl ?_
  refine r_getI hC fl7_13 ob7 rfl dX7_isHere_5 ?_
  refine r_icmp_ge hC 37 dX7_isHere_8 (by decide) (fun h1 => ?_) (fun h1 => ?_)
  · have hO := hO.1 h1
    refine r_iconst hC 0 dX7_isHere_37 (by decide) ?_
    exact r_zret hC rfl (by decide) dX7_isHere_38 (Or.inr ⟨rfl, hO, rfl⟩)
  · have hO := hO.2 h1
    refine r_aload_n hC 0 dX7_isHere_11 rfl rfl ?_
    refine r_getI hC fl7_26 ob7 rfl dX7_isHere_12 ?_
    refine r_bipush hC 120 dX7_isHere_15 (by decide) ?_
    refine r_icmp_ge hC 37 dX7_isHere_17 (by decide) (fun h2 => ?_) (fun h2 => ?_)
    · have hO := hO.1 h2
      refine r_iconst hC 0 dX7_isHere_37 (by decide) ?_
      exact r_zret hC rfl (by decide) dX7_isHere_38 (Or.inr ⟨rfl, hO, rfl⟩)
    · have hO := hO.2 h2
      refine r_aload_n hC 0 dX7_isHere_20 rfl rfl ?_
      refine r_getR hC 17 fl7_9 ob7 rfl dX7_isHere_21 ?_
      refine r_aload_n hC 0 dX7_isHere_24 rfl rfl ?_
      refine r_getI hC fl7_26 ob7 rfl dX7_isHere_25 ?_
      obtain ⟨g3, hO⟩ := hO
      refine r_iald hC sh7_0 g3 ((μ.1 16 2).toNatClampNeg) rfl dX7_isHere_28 ?_
      refine r_iload_n hC 1 dX7_isHere_29 rfl rfl ?_
      refine r_icmp_ne hC 37 dX7_isHere_30 (by decide) (fun h4 => ?_) (fun h4 => ?_)
      · have hO := hO.2 h4
        refine r_iconst hC 0 dX7_isHere_37 (by decide) ?_
        exact r_zret hC rfl (by decide) dX7_isHere_38 (Or.inr ⟨rfl, hO, rfl⟩)
      · have hO := hO.1 h4
        refine r_iconst hC 1 dX7_isHere_33 (by decide) ?_
        refine r_goto hC 38 dX7_isHere_34 (by decide) ?_
        exact r_zret hC rfl (by decide) dX7_isHere_38 (Or.inl ⟨rfl, hO, rfl⟩)
set_option maxHeartbeats 4000000 in
set_option maxRecDepth 100000 in
theorem T7_isRead_s {l : Launch} {G : mw_G} {fr lo : Nat} (hfr : 2 ≤ fr) (hlo : 43 ≤ lo) {c1 : Int32 → Int32 → mw_M → (mw_M → Prop) → (mw_M → Prop) → Prop} {c2 : Int32 → mw_M → (mw_M → Prop) → (mw_M → Prop) → Prop} (hc1 : ∀ (p1 : Int32) (p2 : Int32) (μ : mw_M) (QT : mw_M → Prop) (QF : mw_M → Prop), c1 p1 p2 μ QT QF → mw_Mi l G kdX yX7_isRead cX7_isRead 6 (some .boolean) fr lo [.ref (mw_a G 16), .int p1, .int p2] μ (mw_bq QT QF)) (hc2 : ∀ (p1 : Int32) (μ : mw_M) (QT : mw_M → Prop) (QF : mw_M → Prop), c2 p1 μ QT QF → mw_Mi l G kdX yX7_operandIsRead cX7_operandIsRead 4 (some .boolean) fr lo [.ref (mw_a G 16), .int p1] μ (mw_bq QT QF)) {p1 : Int32} {p2 : Int32} {μ : mw_M} {QT : mw_M → Prop} {QF : mw_M → Prop}  (hO : S7_isRead c1 c2 p1 p2 μ QT QF) : mw_Mi l G kdX yX7_isRead cX7_isRead 6 (some .boolean) (fr + 1) (lo + 25) [.ref (mw_a G 16), .int p1, .int p2] μ (mw_bq QT QF) := by
  refine mw_enter [(0, .ref (mw_a G 16)), (1, .int p1), (2, .int p2)] RX7 (by decide) rfl (Nat.le_of_ble_eq_true rfl) rfl ?_
  intro p e s m args below meth c hC
  unfold S7_isRead at hO
  refine r_iload_n hC 1 dX7_isRead_0 rfl rfl ?_
  refine r_iconst hC 5 dX7_isRead_1 (by decide) ?_
  refine r_icmp_lt hC 11 dX7_isRead_2 (by decide) (fun h1 => ?_) (fun h1 => ?_)
  · have hO := hO.1 h1
    refine r_aload_n hC 0 dX7_isRead_11 rfl rfl ?_
    refine r_iload_n hC 1 dX7_isRead_12 rfl rfl ?_
    refine r_iconst hC 1 dX7_isRead_13 (by decide) ?_
    refine r_iadd hC dX7_isRead_14 ?_
    refine r_iload_n hC 2 dX7_isRead_15 rfl rfl ?_
    refine r_callVi hC [.int (p1 + 1), .int p2] (hc1 _ _ _ _ _ hO) yv7_isRead ml7_41 ob7 rfl (by constructor <;> (simp only [mw_rm]; omega)) rfl rfl (Nat.le_of_ble_eq_true rfl) dX7_isRead_16 (fun r2 μ3 hO => ?_)
    rcases hO with ⟨hr, hO⟩ | ⟨hr, hO⟩
    · refine r_topEq hr ?_
      refine r_if_ne hC 24 dX7_isRead_19 (by decide) (fun _ => ?_) (fun h => absurd h (by decide))
      refine r_iload_n hC 1 dX7_isRead_24 rfl rfl ?_
      refine r_iconst hC 2 dX7_isRead_25 (by decide) ?_
      refine r_icmp_ne hC 33 dX7_isRead_26 (by decide) (fun h4 => ?_) (fun h4 => ?_)
      · have hO := hO.2 h4
        refine r_bipush hC 120 dX7_isRead_33 (by decide) ?_
        refine r_istore_n hC [(3, .int 120), (0, .ref (mw_a G 16)), (1, .int p1), (2, .int p2)] dX7_isRead_35 rfl (by decide) rfl ?_
        refine r_iconst hC 0 dX7_isRead_36 (by decide) ?_
        refine r_istore hC [(4, .int 0), (3, .int 120), (0, .ref (mw_a G 16)), (1, .int p1), (2, .int p2)] dX7_isRead_37 (by decide) rfl ?_
        have hLn8 : ∀ (k6 : Int32)  (n8 : Nat) (v5 : Int32) (μ7 : mw_M), L7_isRead_39 c1 c2 k6 p1 p2 QT QF n8 v5 μ7 → mw_W p l e (mw_rm (fr + 1) (lo + 25)) s m args below meth c G kdX 6 (MQ below (va_Qi (mw_bq QT QF) (mw_B G kdX) (mw_A G kdX)) args s 0 0 (mw_A G kdX)) 39 [(4, .int v5), (3, .int k6), (0, .ref (mw_a G 16)), (1, .int p1), (2, .int p2)] [] μ7 := by
          intro k6  n8
          induction n8 with
          | zero => intro v5 μ7 hO; exact False.elim hO
          | succ n8 ihn8 =>
            intro v5 μ7 hO
            refine r_iload hC 0 dX7_isRead_39 rfl ?_
            refine r_iload_n hC 1 dX7_isRead_41 rfl rfl ?_
            refine r_icmp_ge hC 104 dX7_isRead_42 (by decide) (fun h9 => ?_) (fun h9 => ?_)
            · have hO := hO.1 h9
              refine r_iconst hC 1 dX7_isRead_104 (by decide) ?_
              exact r_zret hC rfl (by decide) dX7_isRead_105 (Or.inl ⟨rfl, hO⟩)
            · have hO := hO.2 h9
              refine r_aload_n hC 2 dX7_isRead_45 rfl rfl ?_
              refine r_callVi hC [] (T7_here  hO) yv7_here ml7_49 ob7 rfl (by constructor <;> (simp only [mw_rm]; omega)) rfl rfl (Nat.le_of_ble_eq_true rfl) dX7_isRead_46 (fun r10 μ11 hO => ?_)
              obtain ⟨hO, hm⟩ := hO
              refine r_memEq hm ?_
              refine r_iload_n hC 3 dX7_isRead_49 rfl rfl ?_
              refine r_callSi hC [.int r10, .int p1] (T7_binds  hO) yv7_binds ml7_53 (by constructor <;> (simp only [mw_rm]; omega)) rfl rfl (Nat.le_of_ble_eq_true rfl) dX7_isRead_50 (fun r12 μ13 hO => ?_)
              rcases hO with ⟨hr, hO⟩ | ⟨hr, hO⟩
              · refine r_topEq hr ?_
                obtain ⟨hO, hm⟩ := hO
                refine r_memEq hm ?_
                refine r_if_eq hC 104 dX7_isRead_53 (by decide) (fun h => absurd h (by decide)) (fun _ => ?_)
                refine r_aload_n hC 2 dX7_isRead_56 rfl rfl ?_
                refine r_callVi hC [] (T7_here  hO) yv7_here ml7_49 ob7 rfl (by constructor <;> (simp only [mw_rm]; omega)) rfl rfl (Nat.le_of_ble_eq_true rfl) dX7_isRead_57 (fun r14 μ15 hO => ?_)
                obtain ⟨hO, hm⟩ := hO
                refine r_memEq hm ?_
                refine r_istore hC [(5, .int r14), (4, .int v5), (3, .int k6), (0, .ref (mw_a G 16)), (1, .int p1), (2, .int p2)] dX7_isRead_60 (by decide) rfl ?_
                refine r_aload_n hC 3 dX7_isRead_62 rfl rfl ?_
                refine r_dup hC dX7_isRead_63 rfl ?_
                refine r_getI hC fl7_26 ob7 rfl dX7_isRead_64 ?_
                refine r_iconst hC 1 dX7_isRead_67 (by decide) ?_
                refine r_iadd hC dX7_isRead_68 ?_
                refine r_putI hC fl7_26 ob7 rfl rfl rfl dX7_isRead_69 ?_
                refine r_nmM (fun μ16 hμ16 => ?_)
                have hO := hO μ16 hμ16
                refine r_aload_n hC 3 dX7_isRead_72 rfl rfl ?_
                refine r_iload_n hC 4 dX7_isRead_73 rfl rfl ?_
                refine r_iconst hC 1 dX7_isRead_74 (by decide) ?_
                refine r_iadd hC dX7_isRead_75 ?_
                refine r_iload_n hC 5 dX7_isRead_76 rfl rfl ?_
                refine r_callVi hC [.int (p1 + 1), .int p2] (hc1 _ _ _ _ _ hO) yv7_isRead ml7_41 ob7 rfl (by constructor <;> (simp only [mw_rm]; omega)) rfl rfl (Nat.le_of_ble_eq_true rfl) dX7_isRead_77 (fun r17 μ18 hO => ?_)
                rcases hO with ⟨hr, hO⟩ | ⟨hr, hO⟩
                · refine r_topEq hr ?_
                  refine r_if_ne hC 85 dX7_isRead_80 (by decide) (fun _ => ?_) (fun h => absurd h (by decide))
                  refine r_aload_n hC 3 dX7_isRead_85 rfl rfl ?_
                  obtain ⟨g19, hO⟩ := hO
                  refine r_getV hC fl7_17 ob7 rfl g19.1 dX7_isRead_86 ?_
                  refine r_sipush hC 10000 dX7_isRead_89 (by decide) ?_
                  refine r_iload hC 0 dX7_isRead_92 rfl ?_
                  refine r_iadd hC dX7_isRead_94 ?_
                  refine r_callVv hC [.int (10000 + r14)] (T3_add g19.2 hO) yv3_add ml7_37 g19.2 rfl (by constructor <;> (simp only [mw_rm]; omega)) rfl rfl (Nat.le_of_ble_eq_true rfl) dX7_isRead_95 (fun μ20 hO => ?_)
                  obtain ⟨x21, hx21⟩ : ∃ y : Int32, y = v5 + 1 := ⟨_, rfl⟩
                  have hO := hO x21 hx21
                  refine r_iinc hC x21 1 [(4, .int x21), (5, .int r14), (3, .int k6), (0, .ref (mw_a G 16)), (1, .int p1), (2, .int p2)] dX7_isRead_98 rfl (by rw [hx21]; rfl) (by decide) rfl ?_
                  refine r_goto hC 39 dX7_isRead_101 (by decide) ?_
                  refine r_lv hC [(4, .int x21), (3, .int k6), (0, .ref (mw_a G 16)), (1, .int p1), (2, .int p2)] [0, 2, 3, 4, 5] rfl ?_
                  exact ihn8 x21 μ20 hO
                · refine r_topEq hr ?_
                  refine r_if_ne hC 85 dX7_isRead_80 (by decide) (fun h => absurd (by decide) h) (fun _ => ?_)
                  refine r_iconst hC 0 dX7_isRead_83 (by decide) ?_
                  exact r_zret hC rfl (by decide) dX7_isRead_84 (Or.inr ⟨rfl, hO⟩)
              · refine r_topEq hr ?_
                obtain ⟨hO, hm⟩ := hO
                refine r_memEq hm ?_
                refine r_if_eq hC 104 dX7_isRead_53 (by decide) (fun _ => ?_) (fun h => absurd (by decide) h)
                refine r_iconst hC 1 dX7_isRead_104 (by decide) ?_
                exact r_zret hC rfl (by decide) dX7_isRead_105 (Or.inl ⟨rfl, hO⟩)
        obtain ⟨n8, hO⟩ := hO
        refine hLn8 120  n8 _ _ hO
      · have hO := hO.1 h4
        refine r_iconst hC 1 dX7_isRead_29 (by decide) ?_
        refine r_goto hC 35 dX7_isRead_30 (by decide) ?_
        refine r_istore_n hC [(3, .int 1), (0, .ref (mw_a G 16)), (1, .int p1), (2, .int p2)] dX7_isRead_35 rfl (by decide) rfl ?_
        refine r_iconst hC 0 dX7_isRead_36 (by decide) ?_
        refine r_istore hC [(4, .int 0), (3, .int 1), (0, .ref (mw_a G 16)), (1, .int p1), (2, .int p2)] dX7_isRead_37 (by decide) rfl ?_
        have hLn25 : ∀ (k23 : Int32)  (n25 : Nat) (v22 : Int32) (μ24 : mw_M), L7_isRead_39 c1 c2 k23 p1 p2 QT QF n25 v22 μ24 → mw_W p l e (mw_rm (fr + 1) (lo + 25)) s m args below meth c G kdX 6 (MQ below (va_Qi (mw_bq QT QF) (mw_B G kdX) (mw_A G kdX)) args s 0 0 (mw_A G kdX)) 39 [(4, .int v22), (3, .int k23), (0, .ref (mw_a G 16)), (1, .int p1), (2, .int p2)] [] μ24 := by
          intro k23  n25
          induction n25 with
          | zero => intro v22 μ24 hO; exact False.elim hO
          | succ n25 ihn25 =>
            intro v22 μ24 hO
            refine r_iload hC 0 dX7_isRead_39 rfl ?_
            refine r_iload_n hC 1 dX7_isRead_41 rfl rfl ?_
            refine r_icmp_ge hC 104 dX7_isRead_42 (by decide) (fun h26 => ?_) (fun h26 => ?_)
            · have hO := hO.1 h26
              refine r_iconst hC 1 dX7_isRead_104 (by decide) ?_
              exact r_zret hC rfl (by decide) dX7_isRead_105 (Or.inl ⟨rfl, hO⟩)
            · have hO := hO.2 h26
              refine r_aload_n hC 2 dX7_isRead_45 rfl rfl ?_
              refine r_callVi hC [] (T7_here  hO) yv7_here ml7_49 ob7 rfl (by constructor <;> (simp only [mw_rm]; omega)) rfl rfl (Nat.le_of_ble_eq_true rfl) dX7_isRead_46 (fun r27 μ28 hO => ?_)
              obtain ⟨hO, hm⟩ := hO
              refine r_memEq hm ?_
              refine r_iload_n hC 3 dX7_isRead_49 rfl rfl ?_
              refine r_callSi hC [.int r27, .int p1] (T7_binds  hO) yv7_binds ml7_53 (by constructor <;> (simp only [mw_rm]; omega)) rfl rfl (Nat.le_of_ble_eq_true rfl) dX7_isRead_50 (fun r29 μ30 hO => ?_)
              rcases hO with ⟨hr, hO⟩ | ⟨hr, hO⟩
              · refine r_topEq hr ?_
                obtain ⟨hO, hm⟩ := hO
                refine r_memEq hm ?_
                refine r_if_eq hC 104 dX7_isRead_53 (by decide) (fun h => absurd h (by decide)) (fun _ => ?_)
                refine r_aload_n hC 2 dX7_isRead_56 rfl rfl ?_
                refine r_callVi hC [] (T7_here  hO) yv7_here ml7_49 ob7 rfl (by constructor <;> (simp only [mw_rm]; omega)) rfl rfl (Nat.le_of_ble_eq_true rfl) dX7_isRead_57 (fun r31 μ32 hO => ?_)
                obtain ⟨hO, hm⟩ := hO
                refine r_memEq hm ?_
                refine r_istore hC [(5, .int r31), (4, .int v22), (3, .int k23), (0, .ref (mw_a G 16)), (1, .int p1), (2, .int p2)] dX7_isRead_60 (by decide) rfl ?_
                refine r_aload_n hC 3 dX7_isRead_62 rfl rfl ?_
                refine r_dup hC dX7_isRead_63 rfl ?_
                refine r_getI hC fl7_26 ob7 rfl dX7_isRead_64 ?_
                refine r_iconst hC 1 dX7_isRead_67 (by decide) ?_
                refine r_iadd hC dX7_isRead_68 ?_
                refine r_putI hC fl7_26 ob7 rfl rfl rfl dX7_isRead_69 ?_
                refine r_nmM (fun μ33 hμ33 => ?_)
                have hO := hO μ33 hμ33
                refine r_aload_n hC 3 dX7_isRead_72 rfl rfl ?_
                refine r_iload_n hC 4 dX7_isRead_73 rfl rfl ?_
                refine r_iconst hC 1 dX7_isRead_74 (by decide) ?_
                refine r_iadd hC dX7_isRead_75 ?_
                refine r_iload_n hC 5 dX7_isRead_76 rfl rfl ?_
                refine r_callVi hC [.int (p1 + 1), .int p2] (hc1 _ _ _ _ _ hO) yv7_isRead ml7_41 ob7 rfl (by constructor <;> (simp only [mw_rm]; omega)) rfl rfl (Nat.le_of_ble_eq_true rfl) dX7_isRead_77 (fun r34 μ35 hO => ?_)
                rcases hO with ⟨hr, hO⟩ | ⟨hr, hO⟩
                · refine r_topEq hr ?_
                  refine r_if_ne hC 85 dX7_isRead_80 (by decide) (fun _ => ?_) (fun h => absurd h (by decide))
                  refine r_aload_n hC 3 dX7_isRead_85 rfl rfl ?_
                  obtain ⟨g36, hO⟩ := hO
                  refine r_getV hC fl7_17 ob7 rfl g36.1 dX7_isRead_86 ?_
                  refine r_sipush hC 10000 dX7_isRead_89 (by decide) ?_
                  refine r_iload hC 0 dX7_isRead_92 rfl ?_
                  refine r_iadd hC dX7_isRead_94 ?_
                  refine r_callVv hC [.int (10000 + r31)] (T3_add g36.2 hO) yv3_add ml7_37 g36.2 rfl (by constructor <;> (simp only [mw_rm]; omega)) rfl rfl (Nat.le_of_ble_eq_true rfl) dX7_isRead_95 (fun μ37 hO => ?_)
                  obtain ⟨x38, hx38⟩ : ∃ y : Int32, y = v22 + 1 := ⟨_, rfl⟩
                  have hO := hO x38 hx38
                  refine r_iinc hC x38 1 [(4, .int x38), (5, .int r31), (3, .int k23), (0, .ref (mw_a G 16)), (1, .int p1), (2, .int p2)] dX7_isRead_98 rfl (by rw [hx38]; rfl) (by decide) rfl ?_
                  refine r_goto hC 39 dX7_isRead_101 (by decide) ?_
                  refine r_lv hC [(4, .int x38), (3, .int k23), (0, .ref (mw_a G 16)), (1, .int p1), (2, .int p2)] [0, 2, 3, 4, 5] rfl ?_
                  exact ihn25 x38 μ37 hO
                · refine r_topEq hr ?_
                  refine r_if_ne hC 85 dX7_isRead_80 (by decide) (fun h => absurd (by decide) h) (fun _ => ?_)
                  refine r_iconst hC 0 dX7_isRead_83 (by decide) ?_
                  exact r_zret hC rfl (by decide) dX7_isRead_84 (Or.inr ⟨rfl, hO⟩)
              · refine r_topEq hr ?_
                obtain ⟨hO, hm⟩ := hO
                refine r_memEq hm ?_
                refine r_if_eq hC 104 dX7_isRead_53 (by decide) (fun _ => ?_) (fun h => absurd (by decide) h)
                refine r_iconst hC 1 dX7_isRead_104 (by decide) ?_
                exact r_zret hC rfl (by decide) dX7_isRead_105 (Or.inl ⟨rfl, hO⟩)
        obtain ⟨n25, hO⟩ := hO
        refine hLn25 1  n25 _ _ hO
    · refine r_topEq hr ?_
      refine r_if_ne hC 24 dX7_isRead_19 (by decide) (fun h => absurd (by decide) h) (fun _ => ?_)
      refine r_iconst hC 0 dX7_isRead_22 (by decide) ?_
      exact r_zret hC rfl (by decide) dX7_isRead_23 (Or.inr ⟨rfl, hO⟩)
  · have hO := hO.2 h1
    refine r_aload_n hC 0 dX7_isRead_5 rfl rfl ?_
    refine r_iload_n hC 2 dX7_isRead_6 rfl rfl ?_
    refine r_callVi hC [.int p2] (hc2 _ _ _ _ hO) yv7_operandIsRead ml7_45 ob7 rfl (by constructor <;> (simp only [mw_rm]; omega)) rfl rfl (Nat.le_of_ble_eq_true rfl) dX7_isRead_7 (fun r39 μ40 hO => ?_)
    rcases hO with ⟨hr, hO⟩ | ⟨hr, hO⟩
    · refine r_topEq hr ?_
      exact r_zret hC rfl (by decide) dX7_isRead_10 (Or.inl ⟨rfl, hO⟩)
    · refine r_topEq hr ?_
      exact r_zret hC rfl (by decide) dX7_isRead_10 (Or.inr ⟨rfl, hO⟩)
set_option maxHeartbeats 4000000 in
set_option maxRecDepth 100000 in
theorem T7_operandIsRead_s {l : Launch} {G : mw_G} {fr lo : Nat} (hfr : 2 ≤ fr) (hlo : 43 ≤ lo) {c3 : Int32 → mw_M → (mw_M → Prop) → (mw_M → Prop) → Prop} {c4 : Int32 → Int32 → mw_M → (mw_M → Prop) → (mw_M → Prop) → Prop} (hc3 : ∀ (p1 : Int32) (μ : mw_M) (QT : mw_M → Prop) (QF : mw_M → Prop), c3 p1 μ QT QF → mw_Mi l G kdX yX7_bracketIsRead cX7_bracketIsRead 2 (some .boolean) fr lo [.ref (mw_a G 16), .int p1] μ (mw_bq QT QF)) (hc4 : ∀ (p1 : Int32) (p2 : Int32) (μ : mw_M) (QT : mw_M → Prop) (QF : mw_M → Prop), c4 p1 p2 μ QT QF → mw_Mi l G kdX yX7_signedIsRead cX7_signedIsRead 3 (some .boolean) fr lo [.ref (mw_a G 16), .int p1, .int p2] μ (mw_bq QT QF)) {p1 : Int32} {μ : mw_M} {QT : mw_M → Prop} {QF : mw_M → Prop}  (hO : S7_operandIsRead c3 c4 p1 μ QT QF) : mw_Mi l G kdX yX7_operandIsRead cX7_operandIsRead 4 (some .boolean) (fr + 1) (lo + 25) [.ref (mw_a G 16), .int p1] μ (mw_bq QT QF) := by
  refine mw_enter [(0, .ref (mw_a G 16)), (1, .int p1)] RX7 (by decide) rfl (Nat.le_of_ble_eq_true rfl) rfl ?_
  intro p e s m args below meth c hC
  unfold S7_operandIsRead at hO
  refine r_aload_n hC 0 dX7_operandIsRead_0 rfl rfl ?_
  refine r_callVi hC [] (T7_here  hO) yv7_here ml7_49 ob7 rfl (by constructor <;> (simp only [mw_rm]; omega)) rfl rfl (Nat.le_of_ble_eq_true rfl) dX7_operandIsRead_1 (fun r1 μ2 hO => ?_)
  obtain ⟨hO, hm⟩ := hO
  refine r_memEq hm ?_
  refine r_istore_n hC [(2, .int r1), (0, .ref (mw_a G 16)), (1, .int p1)] dX7_operandIsRead_4 rfl (by decide) rfl ?_
  refine r_iload_n hC 0 dX7_operandIsRead_5 rfl rfl ?_
  refine r_callSi hC [.int r1] (T7_isDigit  hO) yv7_isDigit ml7_56 (by constructor <;> (simp only [mw_rm]; omega)) rfl rfl (Nat.le_of_ble_eq_true rfl) dX7_operandIsRead_6 (fun r3 μ4 hO => ?_)
  rcases hO with ⟨hr, hO⟩ | ⟨hr, hO⟩
  · refine r_topEq hr ?_
    obtain ⟨hO, hm⟩ := hO
    refine r_memEq hm ?_
    refine r_if_eq hC 17 dX7_operandIsRead_9 (by decide) (fun h => absurd h (by decide)) (fun _ => ?_)
    refine r_aload_n hC 1 dX7_operandIsRead_12 rfl rfl ?_
    refine r_callVi hC [] (T7_numberIsRead  hO) yv7_numberIsRead ml7_59 ob7 rfl (by constructor <;> (simp only [mw_rm]; omega)) rfl rfl (Nat.le_of_ble_eq_true rfl) dX7_operandIsRead_13 (fun r5 μ6 hO => ?_)
    rcases hO with ⟨hr, hO⟩ | ⟨hr, hO⟩
    · refine r_topEq hr ?_
      exact r_zret hC rfl (by decide) dX7_operandIsRead_16 (Or.inl ⟨rfl, hO⟩)
    · refine r_topEq hr ?_
      exact r_zret hC rfl (by decide) dX7_operandIsRead_16 (Or.inr ⟨rfl, hO⟩)
  · refine r_topEq hr ?_
    obtain ⟨hO, hm⟩ := hO
    refine r_memEq hm ?_
    refine r_if_eq hC 17 dX7_operandIsRead_9 (by decide) (fun _ => ?_) (fun h => absurd (by decide) h)
    refine r_iload_n hC 0 dX7_operandIsRead_17 rfl rfl ?_
    refine r_callSi hC [.int r1] (T3_nameOf  hO) yv3_nameOf ml7_62 (by constructor <;> (simp only [mw_rm]; omega)) rfl rfl (Nat.le_of_ble_eq_true rfl) dX7_operandIsRead_18 (fun r7 μ8 hO => ?_)
    obtain ⟨hO, hm⟩ := hO
    refine r_memEq hm ?_
    refine r_istore_n hC [(3, .int r7), (2, .int r1), (0, .ref (mw_a G 16)), (1, .int p1)] dX7_operandIsRead_21 rfl (by decide) rfl ?_
    refine r_iload_n hC 0 dX7_operandIsRead_22 rfl rfl ?_
    refine r_if_lt hC 48 dX7_operandIsRead_23 (by decide) (fun h9 => ?_) (fun h9 => ?_)
    · have hO := hO.1 h9
      refine r_iload_n hC 1 dX7_operandIsRead_48 rfl rfl ?_
      refine r_bipush hC 40 dX7_operandIsRead_49 (by decide) ?_
      refine r_icmp_eq hC 66 dX7_operandIsRead_51 (by decide) (fun h10 => ?_) (fun h10 => ?_)
      · have hO := hO.1 h10
        refine r_iload_n hC 3 dX7_operandIsRead_66 rfl rfl ?_
        refine r_bipush hC 6 dX7_operandIsRead_67 (by decide) ?_
        refine r_icmp_lt hC 74 dX7_operandIsRead_69 (by decide) (fun h11 => ?_) (fun h11 => ?_)
        · have hO := hO.1 h11
          refine r_aload_n hC 2 dX7_operandIsRead_74 rfl rfl ?_
          refine r_dup hC dX7_operandIsRead_75 rfl ?_
          refine r_getI hC fl7_26 ob7 rfl dX7_operandIsRead_76 ?_
          refine r_iconst hC 1 dX7_operandIsRead_79 (by decide) ?_
          refine r_iadd hC dX7_operandIsRead_80 ?_
          refine r_putI hC fl7_26 ob7 rfl rfl rfl dX7_operandIsRead_81 ?_
          refine r_nmM (fun μ12 hμ12 => ?_)
          have hO := hO μ12 hμ12
          refine r_iload_n hC 1 dX7_operandIsRead_84 rfl rfl ?_
          refine r_bipush hC 40 dX7_operandIsRead_85 (by decide) ?_
          refine r_icmp_ne hC 100 dX7_operandIsRead_87 (by decide) (fun h13 => ?_) (fun h13 => ?_)
          · have hO := hO.2 h13
            refine r_aload_n hC 2 dX7_operandIsRead_100 rfl rfl ?_
            refine r_iload_n hC 1 dX7_operandIsRead_101 rfl rfl ?_
            refine r_iload_n hC 3 dX7_operandIsRead_102 rfl rfl ?_
            refine r_iconst hC 1 dX7_operandIsRead_103 (by decide) ?_
            refine r_iadd hC dX7_operandIsRead_104 ?_
            refine r_callVi hC [.int r1, .int (p1 + 1)] (hc4 _ _ _ _ _ hO) yv7_signedIsRead ml7_69 ob7 rfl (by constructor <;> (simp only [mw_rm]; omega)) rfl rfl (Nat.le_of_ble_eq_true rfl) dX7_operandIsRead_105 (fun r14 μ15 hO => ?_)
            rcases hO with ⟨hr, hO⟩ | ⟨hr, hO⟩
            · refine r_topEq hr ?_
              exact r_zret hC rfl (by decide) dX7_operandIsRead_108 (Or.inl ⟨rfl, hO⟩)
            · refine r_topEq hr ?_
              exact r_zret hC rfl (by decide) dX7_operandIsRead_108 (Or.inr ⟨rfl, hO⟩)
          · have hO := hO.1 h13
            refine r_aload_n hC 2 dX7_operandIsRead_90 rfl rfl ?_
            refine r_iload_n hC 3 dX7_operandIsRead_91 rfl rfl ?_
            refine r_iconst hC 1 dX7_operandIsRead_92 (by decide) ?_
            refine r_iadd hC dX7_operandIsRead_93 ?_
            refine r_callVi hC [.int (p1 + 1)] (hc3 _ _ _ _ hO) yv7_bracketIsRead ml7_66 ob7 rfl (by constructor <;> (simp only [mw_rm]; omega)) rfl rfl (Nat.le_of_ble_eq_true rfl) dX7_operandIsRead_94 (fun r16 μ17 hO => ?_)
            rcases hO with ⟨hr, hO⟩ | ⟨hr, hO⟩
            · refine r_topEq hr ?_
              refine r_goto hC 108 dX7_operandIsRead_97 (by decide) ?_
              exact r_zret hC rfl (by decide) dX7_operandIsRead_108 (Or.inl ⟨rfl, hO⟩)
            · refine r_topEq hr ?_
              refine r_goto hC 108 dX7_operandIsRead_97 (by decide) ?_
              exact r_zret hC rfl (by decide) dX7_operandIsRead_108 (Or.inr ⟨rfl, hO⟩)
        · have hO := hO.2 h11
          refine r_iconst hC 0 dX7_operandIsRead_72 (by decide) ?_
          exact r_zret hC rfl (by decide) dX7_operandIsRead_73 (Or.inr ⟨rfl, hO⟩)
      · have hO := hO.2 h10
        refine r_iload_n hC 1 dX7_operandIsRead_54 rfl rfl ?_
        refine r_bipush hC 33 dX7_operandIsRead_55 (by decide) ?_
        refine r_icmp_eq hC 66 dX7_operandIsRead_57 (by decide) (fun h18 => ?_) (fun h18 => ?_)
        · have hO := hO.1 h18
          refine r_iload_n hC 3 dX7_operandIsRead_66 rfl rfl ?_
          refine r_bipush hC 6 dX7_operandIsRead_67 (by decide) ?_
          refine r_icmp_lt hC 74 dX7_operandIsRead_69 (by decide) (fun h19 => ?_) (fun h19 => ?_)
          · have hO := hO.1 h19
            refine r_aload_n hC 2 dX7_operandIsRead_74 rfl rfl ?_
            refine r_dup hC dX7_operandIsRead_75 rfl ?_
            refine r_getI hC fl7_26 ob7 rfl dX7_operandIsRead_76 ?_
            refine r_iconst hC 1 dX7_operandIsRead_79 (by decide) ?_
            refine r_iadd hC dX7_operandIsRead_80 ?_
            refine r_putI hC fl7_26 ob7 rfl rfl rfl dX7_operandIsRead_81 ?_
            refine r_nmM (fun μ20 hμ20 => ?_)
            have hO := hO μ20 hμ20
            refine r_iload_n hC 1 dX7_operandIsRead_84 rfl rfl ?_
            refine r_bipush hC 40 dX7_operandIsRead_85 (by decide) ?_
            refine r_icmp_ne hC 100 dX7_operandIsRead_87 (by decide) (fun h21 => ?_) (fun h21 => ?_)
            · have hO := hO.2 h21
              refine r_aload_n hC 2 dX7_operandIsRead_100 rfl rfl ?_
              refine r_iload_n hC 1 dX7_operandIsRead_101 rfl rfl ?_
              refine r_iload_n hC 3 dX7_operandIsRead_102 rfl rfl ?_
              refine r_iconst hC 1 dX7_operandIsRead_103 (by decide) ?_
              refine r_iadd hC dX7_operandIsRead_104 ?_
              refine r_callVi hC [.int r1, .int (p1 + 1)] (hc4 _ _ _ _ _ hO) yv7_signedIsRead ml7_69 ob7 rfl (by constructor <;> (simp only [mw_rm]; omega)) rfl rfl (Nat.le_of_ble_eq_true rfl) dX7_operandIsRead_105 (fun r22 μ23 hO => ?_)
              rcases hO with ⟨hr, hO⟩ | ⟨hr, hO⟩
              · refine r_topEq hr ?_
                exact r_zret hC rfl (by decide) dX7_operandIsRead_108 (Or.inl ⟨rfl, hO⟩)
              · refine r_topEq hr ?_
                exact r_zret hC rfl (by decide) dX7_operandIsRead_108 (Or.inr ⟨rfl, hO⟩)
            · have hO := hO.1 h21
              refine r_aload_n hC 2 dX7_operandIsRead_90 rfl rfl ?_
              refine r_iload_n hC 3 dX7_operandIsRead_91 rfl rfl ?_
              refine r_iconst hC 1 dX7_operandIsRead_92 (by decide) ?_
              refine r_iadd hC dX7_operandIsRead_93 ?_
              refine r_callVi hC [.int (p1 + 1)] (hc3 _ _ _ _ hO) yv7_bracketIsRead ml7_66 ob7 rfl (by constructor <;> (simp only [mw_rm]; omega)) rfl rfl (Nat.le_of_ble_eq_true rfl) dX7_operandIsRead_94 (fun r24 μ25 hO => ?_)
              rcases hO with ⟨hr, hO⟩ | ⟨hr, hO⟩
              · refine r_topEq hr ?_
                refine r_goto hC 108 dX7_operandIsRead_97 (by decide) ?_
                exact r_zret hC rfl (by decide) dX7_operandIsRead_108 (Or.inl ⟨rfl, hO⟩)
              · refine r_topEq hr ?_
                refine r_goto hC 108 dX7_operandIsRead_97 (by decide) ?_
                exact r_zret hC rfl (by decide) dX7_operandIsRead_108 (Or.inr ⟨rfl, hO⟩)
          · have hO := hO.2 h19
            refine r_iconst hC 0 dX7_operandIsRead_72 (by decide) ?_
            exact r_zret hC rfl (by decide) dX7_operandIsRead_73 (Or.inr ⟨rfl, hO⟩)
        · have hO := hO.2 h18
          refine r_iload_n hC 1 dX7_operandIsRead_60 rfl rfl ?_
          refine r_bipush hC 45 dX7_operandIsRead_61 (by decide) ?_
          refine r_icmp_ne hC 72 dX7_operandIsRead_63 (by decide) (fun h26 => ?_) (fun h26 => ?_)
          · have hO := hO.2 h26
            refine r_iconst hC 0 dX7_operandIsRead_72 (by decide) ?_
            exact r_zret hC rfl (by decide) dX7_operandIsRead_73 (Or.inr ⟨rfl, hO⟩)
          · have hO := hO.1 h26
            refine r_iload_n hC 3 dX7_operandIsRead_66 rfl rfl ?_
            refine r_bipush hC 6 dX7_operandIsRead_67 (by decide) ?_
            refine r_icmp_lt hC 74 dX7_operandIsRead_69 (by decide) (fun h27 => ?_) (fun h27 => ?_)
            · have hO := hO.1 h27
              refine r_aload_n hC 2 dX7_operandIsRead_74 rfl rfl ?_
              refine r_dup hC dX7_operandIsRead_75 rfl ?_
              refine r_getI hC fl7_26 ob7 rfl dX7_operandIsRead_76 ?_
              refine r_iconst hC 1 dX7_operandIsRead_79 (by decide) ?_
              refine r_iadd hC dX7_operandIsRead_80 ?_
              refine r_putI hC fl7_26 ob7 rfl rfl rfl dX7_operandIsRead_81 ?_
              refine r_nmM (fun μ28 hμ28 => ?_)
              have hO := hO μ28 hμ28
              refine r_iload_n hC 1 dX7_operandIsRead_84 rfl rfl ?_
              refine r_bipush hC 40 dX7_operandIsRead_85 (by decide) ?_
              refine r_icmp_ne hC 100 dX7_operandIsRead_87 (by decide) (fun h29 => ?_) (fun h29 => ?_)
              · have hO := hO.2 h29
                refine r_aload_n hC 2 dX7_operandIsRead_100 rfl rfl ?_
                refine r_iload_n hC 1 dX7_operandIsRead_101 rfl rfl ?_
                refine r_iload_n hC 3 dX7_operandIsRead_102 rfl rfl ?_
                refine r_iconst hC 1 dX7_operandIsRead_103 (by decide) ?_
                refine r_iadd hC dX7_operandIsRead_104 ?_
                refine r_callVi hC [.int r1, .int (p1 + 1)] (hc4 _ _ _ _ _ hO) yv7_signedIsRead ml7_69 ob7 rfl (by constructor <;> (simp only [mw_rm]; omega)) rfl rfl (Nat.le_of_ble_eq_true rfl) dX7_operandIsRead_105 (fun r30 μ31 hO => ?_)
                rcases hO with ⟨hr, hO⟩ | ⟨hr, hO⟩
                · refine r_topEq hr ?_
                  exact r_zret hC rfl (by decide) dX7_operandIsRead_108 (Or.inl ⟨rfl, hO⟩)
                · refine r_topEq hr ?_
                  exact r_zret hC rfl (by decide) dX7_operandIsRead_108 (Or.inr ⟨rfl, hO⟩)
              · have hO := hO.1 h29
                refine r_aload_n hC 2 dX7_operandIsRead_90 rfl rfl ?_
                refine r_iload_n hC 3 dX7_operandIsRead_91 rfl rfl ?_
                refine r_iconst hC 1 dX7_operandIsRead_92 (by decide) ?_
                refine r_iadd hC dX7_operandIsRead_93 ?_
                refine r_callVi hC [.int (p1 + 1)] (hc3 _ _ _ _ hO) yv7_bracketIsRead ml7_66 ob7 rfl (by constructor <;> (simp only [mw_rm]; omega)) rfl rfl (Nat.le_of_ble_eq_true rfl) dX7_operandIsRead_94 (fun r32 μ33 hO => ?_)
                rcases hO with ⟨hr, hO⟩ | ⟨hr, hO⟩
                · refine r_topEq hr ?_
                  refine r_goto hC 108 dX7_operandIsRead_97 (by decide) ?_
                  exact r_zret hC rfl (by decide) dX7_operandIsRead_108 (Or.inl ⟨rfl, hO⟩)
                · refine r_topEq hr ?_
                  refine r_goto hC 108 dX7_operandIsRead_97 (by decide) ?_
                  exact r_zret hC rfl (by decide) dX7_operandIsRead_108 (Or.inr ⟨rfl, hO⟩)
            · have hO := hO.2 h27
              refine r_iconst hC 0 dX7_operandIsRead_72 (by decide) ?_
              exact r_zret hC rfl (by decide) dX7_operandIsRead_73 (Or.inr ⟨rfl, hO⟩)
    · have hO := hO.2 h9
      refine r_aload_n hC 2 dX7_operandIsRead_26 rfl rfl ?_
      refine r_dup hC dX7_operandIsRead_27 rfl ?_
      refine r_getI hC fl7_26 ob7 rfl dX7_operandIsRead_28 ?_
      refine r_iconst hC 1 dX7_operandIsRead_31 (by decide) ?_
      refine r_iadd hC dX7_operandIsRead_32 ?_
      refine r_putI hC fl7_26 ob7 rfl rfl rfl dX7_operandIsRead_33 ?_
      refine r_nmM (fun μ34 hμ34 => ?_)
      have hO := hO μ34 hμ34
      refine r_aload_n hC 2 dX7_operandIsRead_36 rfl rfl ?_
      obtain ⟨g35, hO⟩ := hO
      refine r_getV hC fl7_17 ob7 rfl g35.1 dX7_operandIsRead_37 ?_
      refine r_iconst hC (-1) dX7_operandIsRead_40 (by decide) ?_
      refine r_iload_n hC 0 dX7_operandIsRead_41 rfl rfl ?_
      refine r_isub hC dX7_operandIsRead_42 ?_
      refine r_callVv hC [.int ((-1) - r7)] (T3_add g35.2 hO) yv3_add ml7_37 g35.2 rfl (by constructor <;> (simp only [mw_rm]; omega)) rfl rfl (Nat.le_of_ble_eq_true rfl) dX7_operandIsRead_43 (fun μ36 hO => ?_)
      refine r_iconst hC 1 dX7_operandIsRead_46 (by decide) ?_
      exact r_zret hC rfl (by decide) dX7_operandIsRead_47 (Or.inl ⟨rfl, hO⟩)
set_option maxHeartbeats 4000000 in
set_option maxRecDepth 100000 in
theorem T7_bracketIsRead_s {l : Launch} {G : mw_G} {fr lo : Nat} (hfr : 2 ≤ fr) (hlo : 43 ≤ lo) {c1 : Int32 → Int32 → mw_M → (mw_M → Prop) → (mw_M → Prop) → Prop} (hc1 : ∀ (p1 : Int32) (p2 : Int32) (μ : mw_M) (QT : mw_M → Prop) (QF : mw_M → Prop), c1 p1 p2 μ QT QF → mw_Mi l G kdX yX7_isRead cX7_isRead 6 (some .boolean) fr lo [.ref (mw_a G 16), .int p1, .int p2] μ (mw_bq QT QF)) {p1 : Int32} {μ : mw_M} {QT : mw_M → Prop} {QF : mw_M → Prop}  (hO : S7_bracketIsRead c1 p1 μ QT QF) : mw_Mi l G kdX yX7_bracketIsRead cX7_bracketIsRead 2 (some .boolean) (fr + 1) (lo + 25) [.ref (mw_a G 16), .int p1] μ (mw_bq QT QF) := by
  refine mw_enter [(0, .ref (mw_a G 16)), (1, .int p1)] RX7 (by decide) rfl (Nat.le_of_ble_eq_true rfl) rfl ?_
  intro p e s m args below meth c hC
  unfold S7_bracketIsRead at hO
  refine r_aload_n hC 0 dX7_bracketIsRead_0 rfl rfl ?_
  refine r_iconst hC 0 dX7_bracketIsRead_1 (by decide) ?_
  refine r_iload_n hC 1 dX7_bracketIsRead_2 rfl rfl ?_
  refine r_callVi hC [.int 0, .int p1] (hc1 _ _ _ _ _ hO) yv7_isRead ml7_41 ob7 rfl (by constructor <;> (simp only [mw_rm]; omega)) rfl rfl (Nat.le_of_ble_eq_true rfl) dX7_bracketIsRead_3 (fun r1 μ2 hO => ?_)
  rcases hO with ⟨hr, hO⟩ | ⟨hr, hO⟩
  · refine r_topEq hr ?_
    refine r_if_eq hC 18 dX7_bracketIsRead_6 (by decide) (fun h => absurd h (by decide)) (fun _ => ?_)
    refine r_aload_n hC 0 dX7_bracketIsRead_9 rfl rfl ?_
    refine r_bipush hC 41 dX7_bracketIsRead_10 (by decide) ?_
    refine r_callVi hC [.int 41] (T7_isHere  hO) yv7_isHere ml7_33 ob7 rfl (by constructor <;> (simp only [mw_rm]; omega)) rfl rfl (Nat.le_of_ble_eq_true rfl) dX7_bracketIsRead_12 (fun r3 μ4 hO => ?_)
    rcases hO with ⟨hr, hO⟩ | ⟨hr, hO⟩
    · refine r_topEq hr ?_
      obtain ⟨hO, hm⟩ := hO
      refine r_memEq hm ?_
      refine r_if_ne hC 20 dX7_bracketIsRead_15 (by decide) (fun _ => ?_) (fun h => absurd h (by decide))
      refine r_aload_n hC 0 dX7_bracketIsRead_20 rfl rfl ?_
      refine r_dup hC dX7_bracketIsRead_21 rfl ?_
      refine r_getI hC fl7_26 ob7 rfl dX7_bracketIsRead_22 ?_
      refine r_iconst hC 1 dX7_bracketIsRead_25 (by decide) ?_
      refine r_iadd hC dX7_bracketIsRead_26 ?_
      refine r_putI hC fl7_26 ob7 rfl rfl rfl dX7_bracketIsRead_27 ?_
      refine r_nmM (fun μ5 hμ5 => ?_)
      have hO := hO μ5 hμ5
      refine r_iconst hC 1 dX7_bracketIsRead_30 (by decide) ?_
      exact r_zret hC rfl (by decide) dX7_bracketIsRead_31 (Or.inl ⟨rfl, hO⟩)
    · refine r_topEq hr ?_
      obtain ⟨hO, hm⟩ := hO
      refine r_memEq hm ?_
      refine r_if_ne hC 20 dX7_bracketIsRead_15 (by decide) (fun h => absurd (by decide) h) (fun _ => ?_)
      refine r_iconst hC 0 dX7_bracketIsRead_18 (by decide) ?_
      exact r_zret hC rfl (by decide) dX7_bracketIsRead_19 (Or.inr ⟨rfl, hO⟩)
  · refine r_topEq hr ?_
    refine r_if_eq hC 18 dX7_bracketIsRead_6 (by decide) (fun _ => ?_) (fun h => absurd (by decide) h)
    refine r_iconst hC 0 dX7_bracketIsRead_18 (by decide) ?_
    exact r_zret hC rfl (by decide) dX7_bracketIsRead_19 (Or.inr ⟨rfl, hO⟩)
set_option maxHeartbeats 4000000 in
set_option maxRecDepth 100000 in
theorem T7_signedIsRead_s {l : Launch} {G : mw_G} {fr lo : Nat} (hfr : 2 ≤ fr) (hlo : 43 ≤ lo) {c2 : Int32 → mw_M → (mw_M → Prop) → (mw_M → Prop) → Prop} (hc2 : ∀ (p1 : Int32) (μ : mw_M) (QT : mw_M → Prop) (QF : mw_M → Prop), c2 p1 μ QT QF → mw_Mi l G kdX yX7_operandIsRead cX7_operandIsRead 4 (some .boolean) fr lo [.ref (mw_a G 16), .int p1] μ (mw_bq QT QF)) {p1 : Int32} {p2 : Int32} {μ : mw_M} {QT : mw_M → Prop} {QF : mw_M → Prop}  (hO : S7_signedIsRead c2 p1 p2 μ QT QF) : mw_Mi l G kdX yX7_signedIsRead cX7_signedIsRead 3 (some .boolean) (fr + 1) (lo + 25) [.ref (mw_a G 16), .int p1, .int p2] μ (mw_bq QT QF) := by
  refine mw_enter [(0, .ref (mw_a G 16)), (1, .int p1), (2, .int p2)] RX7 (by decide) rfl (Nat.le_of_ble_eq_true rfl) rfl ?_
  intro p e s m args below meth c hC
  unfold S7_signedIsRead at hO
  refine r_aload_n hC 0 dX7_signedIsRead_0 rfl rfl ?_
  refine r_iload_n hC 2 dX7_signedIsRead_1 rfl rfl ?_
  refine r_callVi hC [.int p2] (hc2 _ _ _ _ hO) yv7_operandIsRead ml7_45 ob7 rfl (by constructor <;> (simp only [mw_rm]; omega)) rfl rfl (Nat.le_of_ble_eq_true rfl) dX7_signedIsRead_2 (fun r1 μ2 hO => ?_)
  rcases hO with ⟨hr, hO⟩ | ⟨hr, hO⟩
  · refine r_topEq hr ?_
    refine r_if_ne hC 10 dX7_signedIsRead_5 (by decide) (fun _ => ?_) (fun h => absurd h (by decide))
    refine r_aload_n hC 0 dX7_signedIsRead_10 rfl rfl ?_
    obtain ⟨g3, hO⟩ := hO
    refine r_getV hC fl7_17 ob7 rfl g3.1 dX7_signedIsRead_11 ?_
    refine r_iload_n hC 1 dX7_signedIsRead_14 rfl rfl ?_
    refine r_bipush hC 33 dX7_signedIsRead_15 (by decide) ?_
    refine r_icmp_ne hC 26 dX7_signedIsRead_17 (by decide) (fun h4 => ?_) (fun h4 => ?_)
    · have hO := hO.2 h4
      refine r_sipush hC 10126 dX7_signedIsRead_26 (by decide) ?_
      refine r_callVv hC [.int 10126] (T3_add g3.2 hO) yv3_add ml7_37 g3.2 rfl (by constructor <;> (simp only [mw_rm]; omega)) rfl rfl (Nat.le_of_ble_eq_true rfl) dX7_signedIsRead_29 (fun μ5 hO => ?_)
      refine r_iconst hC 1 dX7_signedIsRead_32 (by decide) ?_
      exact r_zret hC rfl (by decide) dX7_signedIsRead_33 (Or.inl ⟨rfl, hO⟩)
    · have hO := hO.1 h4
      refine r_sipush hC 10033 dX7_signedIsRead_20 (by decide) ?_
      refine r_goto hC 29 dX7_signedIsRead_23 (by decide) ?_
      refine r_callVv hC [.int 10033] (T3_add g3.2 hO) yv3_add ml7_37 g3.2 rfl (by constructor <;> (simp only [mw_rm]; omega)) rfl rfl (Nat.le_of_ble_eq_true rfl) dX7_signedIsRead_29 (fun μ6 hO => ?_)
      refine r_iconst hC 1 dX7_signedIsRead_32 (by decide) ?_
      exact r_zret hC rfl (by decide) dX7_signedIsRead_33 (Or.inl ⟨rfl, hO⟩)
  · refine r_topEq hr ?_
    refine r_if_ne hC 10 dX7_signedIsRead_5 (by decide) (fun h => absurd (by decide) h) (fun _ => ?_)
    refine r_iconst hC 0 dX7_signedIsRead_8 (by decide) ?_
    exact r_zret hC rfl (by decide) dX7_signedIsRead_9 (Or.inr ⟨rfl, hO⟩)
set_option maxHeartbeats 4000000 in
theorem TG0 {l : Launch} {G : mw_G} (n : Nat) : (∀ (p1 : Int32) (p2 : Int32) (μ : mw_M) (QT : mw_M → Prop) (QF : mw_M → Prop), (G0 n).1 p1 p2 μ QT QF → mw_Mi l G kdX yX7_isRead cX7_isRead 6 (some .boolean) (n + 2) (n * 25 + 43) [.ref (mw_a G 16), .int p1, .int p2] μ (mw_bq QT QF)) ∧ (∀ (p1 : Int32) (μ : mw_M) (QT : mw_M → Prop) (QF : mw_M → Prop), (G0 n).2.1 p1 μ QT QF → mw_Mi l G kdX yX7_operandIsRead cX7_operandIsRead 4 (some .boolean) (n + 2) (n * 25 + 43) [.ref (mw_a G 16), .int p1] μ (mw_bq QT QF)) ∧ (∀ (p1 : Int32) (μ : mw_M) (QT : mw_M → Prop) (QF : mw_M → Prop), (G0 n).2.2.1 p1 μ QT QF → mw_Mi l G kdX yX7_bracketIsRead cX7_bracketIsRead 2 (some .boolean) (n + 2) (n * 25 + 43) [.ref (mw_a G 16), .int p1] μ (mw_bq QT QF)) ∧ (∀ (p1 : Int32) (p2 : Int32) (μ : mw_M) (QT : mw_M → Prop) (QF : mw_M → Prop), (G0 n).2.2.2 p1 p2 μ QT QF → mw_Mi l G kdX yX7_signedIsRead cX7_signedIsRead 3 (some .boolean) (n + 2) (n * 25 + 43) [.ref (mw_a G 16), .int p1, .int p2] μ (mw_bq QT QF)) := by
  induction n with
  | zero => exact ⟨fun _ _ _ _ _ hO => False.elim hO, fun _ _ _ _ hO => False.elim hO, fun _ _ _ _ hO => False.elim hO, fun _ _ _ _ _ hO => False.elim hO⟩
  | succ n ih =>
    exact ⟨(fun p1 p2 μ QT QF hO => by
      have h := T7_isRead_s (l := l) (G := G) (fr := n + 2) (lo := n * 25 + 43) (by omega) (by omega) (ih.1) (ih.2.1) hO
      rw [show n + 1 + 2 = n + 2 + 1 by omega, show (n + 1) * 25 + 43 = n * 25 + 43 + 25 by omega]
      exact h), (fun p1 μ QT QF hO => by
      have h := T7_operandIsRead_s (l := l) (G := G) (fr := n + 2) (lo := n * 25 + 43) (by omega) (by omega) (ih.2.2.1) (ih.2.2.2) hO
      rw [show n + 1 + 2 = n + 2 + 1 by omega, show (n + 1) * 25 + 43 = n * 25 + 43 + 25 by omega]
      exact h), (fun p1 μ QT QF hO => by
      have h := T7_bracketIsRead_s (l := l) (G := G) (fr := n + 2) (lo := n * 25 + 43) (by omega) (by omega) (ih.1) hO
      rw [show n + 1 + 2 = n + 2 + 1 by omega, show (n + 1) * 25 + 43 = n * 25 + 43 + 25 by omega]
      exact h), (fun p1 p2 μ QT QF hO => by
      have h := T7_signedIsRead_s (l := l) (G := G) (fr := n + 2) (lo := n * 25 + 43) (by omega) (by omega) (ih.2.1) hO
      rw [show n + 1 + 2 = n + 2 + 1 by omega, show (n + 1) * 25 + 43 = n * 25 + 43 + 25 by omega]
      exact h)⟩
theorem T7_isRead {l : Launch} {G : mw_G} {p1 : Int32} {p2 : Int32} {μ : mw_M} {QT : mw_M → Prop} {QF : mw_M → Prop} (hO : P7_isRead p1 p2 μ QT QF) : mw_Mi l G kdX yX7_isRead cX7_isRead 6 (some .boolean) 66 1643 [.ref (mw_a G 16), .int p1, .int p2] μ (mw_bq QT QF) := (TG0 (l := l) (G := G) 64).1 _ _ _ _ _ hO
theorem T7_operandIsRead {l : Launch} {G : mw_G} {p1 : Int32} {μ : mw_M} {QT : mw_M → Prop} {QF : mw_M → Prop} (hO : P7_operandIsRead p1 μ QT QF) : mw_Mi l G kdX yX7_operandIsRead cX7_operandIsRead 4 (some .boolean) 66 1643 [.ref (mw_a G 16), .int p1] μ (mw_bq QT QF) := (TG0 (l := l) (G := G) 64).2.1 _ _ _ _ hO
theorem T7_bracketIsRead {l : Launch} {G : mw_G} {p1 : Int32} {μ : mw_M} {QT : mw_M → Prop} {QF : mw_M → Prop} (hO : P7_bracketIsRead p1 μ QT QF) : mw_Mi l G kdX yX7_bracketIsRead cX7_bracketIsRead 2 (some .boolean) 66 1643 [.ref (mw_a G 16), .int p1] μ (mw_bq QT QF) := (TG0 (l := l) (G := G) 64).2.2.1 _ _ _ _ hO
theorem T7_signedIsRead {l : Launch} {G : mw_G} {p1 : Int32} {p2 : Int32} {μ : mw_M} {QT : mw_M → Prop} {QF : mw_M → Prop} (hO : P7_signedIsRead p1 p2 μ QT QF) : mw_Mi l G kdX yX7_signedIsRead cX7_signedIsRead 3 (some .boolean) 66 1643 [.ref (mw_a G 16), .int p1, .int p2] μ (mw_bq QT QF) := (TG0 (l := l) (G := G) 64).2.2.2 _ _ _ _ _ hO
set_option maxHeartbeats 4000000 in
set_option maxRecDepth 100000 in
theorem T7_lineIsRead {l : Launch} {G : mw_G}  {μ : mw_M} {QT : mw_M → Prop} {QF : mw_M → Prop}  (hO : P7_lineIsRead μ QT QF) : mw_Mi l G kdX yX7_lineIsRead cX7_lineIsRead 1 (some .boolean) 67 1668 [.ref (mw_a G 16)] μ (mw_bq QT QF) := by
  refine mw_enter [(0, .ref (mw_a G 16))] RX7 (by decide) rfl (Nat.le_of_ble_eq_true rfl) rfl ?_
  intro p e s m args below meth c hC
  unfold P7_lineIsRead at hO
  refine r_aload_n hC 0 dX7_lineIsRead_0 rfl rfl ?_
  refine r_iconst hC 0 dX7_lineIsRead_1 (by decide) ?_
  refine r_iconst hC 0 dX7_lineIsRead_2 (by decide) ?_
  refine r_callVi hC [.int 0, .int 0] (T7_isRead  hO) yv7_isRead ml7_41 ob7 rfl ⟨Nat.le_of_ble_eq_true rfl, Nat.le_of_ble_eq_true rfl⟩ rfl rfl (Nat.le_of_ble_eq_true rfl) dX7_lineIsRead_3 (fun r1 μ2 hO => ?_)
  rcases hO with ⟨hr, hO⟩ | ⟨hr, hO⟩
  · refine r_topEq hr ?_
    refine r_if_ne hC 11 dX7_lineIsRead_6 (by decide) (fun _ => ?_) (fun h => absurd h (by decide))
    refine r_aload_n hC 0 dX7_lineIsRead_11 rfl rfl ?_
    refine r_bipush hC 63 dX7_lineIsRead_12 (by decide) ?_
    refine r_callVi hC [.int 63] (T7_isHere  hO) yv7_isHere ml7_33 ob7 rfl ⟨Nat.le_of_ble_eq_true rfl, Nat.le_of_ble_eq_true rfl⟩ rfl rfl (Nat.le_of_ble_eq_true rfl) dX7_lineIsRead_14 (fun r3 μ4 hO => ?_)
    rcases hO with ⟨hr, hO⟩ | ⟨hr, hO⟩
    · refine r_topEq hr ?_
      obtain ⟨hO, hm⟩ := hO
      refine r_memEq hm ?_
      refine r_if_ne hC 22 dX7_lineIsRead_17 (by decide) (fun _ => ?_) (fun h => absurd h (by decide))
      refine r_aload_n hC 0 dX7_lineIsRead_22 rfl rfl ?_
      obtain ⟨g5, hO⟩ := hO
      refine r_getV hC fl7_17 ob7 rfl g5.1 dX7_lineIsRead_23 ?_
      refine r_sipush hC 10063 dX7_lineIsRead_26 (by decide) ?_
      refine r_callVv hC [.int 10063] (T3_add g5.2 hO) yv3_add ml7_37 g5.2 rfl ⟨Nat.le_of_ble_eq_true rfl, Nat.le_of_ble_eq_true rfl⟩ rfl rfl (Nat.le_of_ble_eq_true rfl) dX7_lineIsRead_29 (fun μ6 hO => ?_)
      refine r_aload_n hC 0 dX7_lineIsRead_32 rfl rfl ?_
      refine r_dup hC dX7_lineIsRead_33 rfl ?_
      refine r_getI hC fl7_26 ob7 rfl dX7_lineIsRead_34 ?_
      refine r_iconst hC 1 dX7_lineIsRead_37 (by decide) ?_
      refine r_iadd hC dX7_lineIsRead_38 ?_
      refine r_putI hC fl7_26 ob7 rfl rfl rfl dX7_lineIsRead_39 ?_
      refine r_nmM (fun μ7 hμ7 => ?_)
      have hO := hO μ7 hμ7
      refine r_aload_n hC 0 dX7_lineIsRead_42 rfl rfl ?_
      refine r_iconst hC 0 dX7_lineIsRead_43 (by decide) ?_
      refine r_iconst hC 0 dX7_lineIsRead_44 (by decide) ?_
      refine r_callVi hC [.int 0, .int 0] (T7_isRead  hO) yv7_isRead ml7_41 ob7 rfl ⟨Nat.le_of_ble_eq_true rfl, Nat.le_of_ble_eq_true rfl⟩ rfl rfl (Nat.le_of_ble_eq_true rfl) dX7_lineIsRead_45 (fun r8 μ9 hO => ?_)
      rcases hO with ⟨hr, hO⟩ | ⟨hr, hO⟩
      · refine r_topEq hr ?_
        exact r_zret hC rfl (by decide) dX7_lineIsRead_48 (Or.inl ⟨rfl, hO⟩)
      · refine r_topEq hr ?_
        exact r_zret hC rfl (by decide) dX7_lineIsRead_48 (Or.inr ⟨rfl, hO⟩)
    · refine r_topEq hr ?_
      obtain ⟨hO, hm⟩ := hO
      refine r_memEq hm ?_
      refine r_if_ne hC 22 dX7_lineIsRead_17 (by decide) (fun h => absurd (by decide) h) (fun _ => ?_)
      refine r_iconst hC 1 dX7_lineIsRead_20 (by decide) ?_
      exact r_zret hC rfl (by decide) dX7_lineIsRead_21 (Or.inl ⟨rfl, hO⟩)
  · refine r_topEq hr ?_
    refine r_if_ne hC 11 dX7_lineIsRead_6 (by decide) (fun h => absurd (by decide) h) (fun _ => ?_)
    refine r_iconst hC 0 dX7_lineIsRead_9 (by decide) ?_
    exact r_zret hC rfl (by decide) dX7_lineIsRead_10 (Or.inr ⟨rfl, hO⟩)
set_option maxHeartbeats 4000000 in
set_option maxRecDepth 100000 in
theorem T7_isReadInto {l : Launch} {G : mw_G} {d1 : Nat} {μ : mw_M} {QT : mw_M → Prop} {QF : mw_M → Prop} (hd1 : kdX[d1]? = some (.inl (3, dsX3 d1))) (hO : P7_isReadInto d1 μ QT QF) : mw_Mi l G kdX yX7_isReadInto cX7_isReadInto 3 (some .boolean) 68 1688 [.ref (mw_a G 16), .ref (mw_a G d1)] μ (mw_bq QT QF) := by
  refine mw_enter [(0, .ref (mw_a G 16)), (1, .ref (mw_a G d1))] RX7 (by decide) rfl (Nat.le_of_ble_eq_true rfl) rfl ?_
  intro p e s m args below meth c hC
  unfold P7_isReadInto at hO
  refine r_aload_n hC 0 dX7_isReadInto_0 rfl rfl ?_
  refine r_aload_n hC 1 dX7_isReadInto_1 rfl rfl ?_
  refine r_putV hC fl7_17 ob7 rfl (law_pos hd1) (fun _ => rfl) (fun _ => rfl) dX7_isReadInto_2 ?_
  refine r_nmM (fun μ1 hμ1 => ?_)
  have hO := hO μ1 hμ1
  refine r_aload_n hC 0 dX7_isReadInto_5 rfl rfl ?_
  obtain ⟨g2, hO⟩ := hO
  refine r_getV hC fl7_17 ob7 rfl g2.1 dX7_isReadInto_6 ?_
  refine r_callVv hC [] (T3_empty g2.2 hO) yv3_empty ml7_21 g2.2 rfl ⟨Nat.le_of_ble_eq_true rfl, Nat.le_of_ble_eq_true rfl⟩ rfl rfl (Nat.le_of_ble_eq_true rfl) dX7_isReadInto_9 (fun μ3 hO => ?_)
  refine r_aload_n hC 0 dX7_isReadInto_12 rfl rfl ?_
  refine r_iconst hC 0 dX7_isReadInto_13 (by decide) ?_
  refine r_putI hC fl7_26 ob7 rfl rfl rfl dX7_isReadInto_14 ?_
  refine r_nmM (fun μ4 hμ4 => ?_)
  have hO := hO μ4 hμ4
  refine r_iconst hC 0 dX7_isReadInto_17 (by decide) ?_
  refine r_istore_n hC [(2, .int 0), (0, .ref (mw_a G 16)), (1, .ref (mw_a G d1))] dX7_isReadInto_18 rfl (by decide) rfl ?_
  have hLn7 : ∀   (n7 : Nat) (v5 : Int32) (μ6 : mw_M), L7_isReadInto_19 d1 QT QF n7 v5 μ6 → mw_W p l e (mw_rm 68 1688) s m args below meth c G kdX 3 (MQ below (va_Qi (mw_bq QT QF) (mw_B G kdX) (mw_A G kdX)) args s 0 0 (mw_A G kdX)) 19 [(2, .int v5), (0, .ref (mw_a G 16)), (1, .ref (mw_a G d1))] [] μ6 := by
    intro   n7
    induction n7 with
    | zero => intro v5 μ6 hO; exact False.elim hO
    | succ n7 ihn7 =>
      intro v5 μ6 hO
      refine r_iload_n hC 0 dX7_isReadInto_19 rfl rfl ?_
      refine r_bipush hC 120 dX7_isReadInto_20 (by decide) ?_
      refine r_icmp_ge hC 82 dX7_isReadInto_22 (by decide) (fun h8 => ?_) (fun h8 => ?_)
      · have hO := hO.1 h8
        refine r_iconst hC 0 dX7_isReadInto_82 (by decide) ?_
        exact r_zret hC rfl (by decide) dX7_isReadInto_83 (Or.inr ⟨rfl, hO⟩)
      · have hO := hO.2 h8
        refine r_aload_n hC 1 dX7_isReadInto_25 rfl rfl ?_
        refine r_callVi hC [] (T7_lineIsRead  hO) yv7_lineIsRead ml7_29 ob7 rfl ⟨Nat.le_of_ble_eq_true rfl, Nat.le_of_ble_eq_true rfl⟩ rfl rfl (Nat.le_of_ble_eq_true rfl) dX7_isReadInto_26 (fun r9 μ10 hO => ?_)
        rcases hO with ⟨hr, hO⟩ | ⟨hr, hO⟩
        · refine r_topEq hr ?_
          refine r_if_eq hC 82 dX7_isReadInto_29 (by decide) (fun h => absurd h (by decide)) (fun _ => ?_)
          refine r_aload_n hC 1 dX7_isReadInto_32 rfl rfl ?_
          refine r_getI hC fl7_26 ob7 rfl dX7_isReadInto_33 ?_
          refine r_aload_n hC 1 dX7_isReadInto_36 rfl rfl ?_
          refine r_getI hC fl7_13 ob7 rfl dX7_isReadInto_37 ?_
          refine r_icmp_lt hC 45 dX7_isReadInto_40 (by decide) (fun h11 => ?_) (fun h11 => ?_)
          · have hO := hO.1 h11
            refine r_aload_n hC 1 dX7_isReadInto_45 rfl rfl ?_
            refine r_bipush hC 59 dX7_isReadInto_46 (by decide) ?_
            refine r_callVi hC [.int 59] (T7_isHere  hO) yv7_isHere ml7_33 ob7 rfl ⟨Nat.le_of_ble_eq_true rfl, Nat.le_of_ble_eq_true rfl⟩ rfl rfl (Nat.le_of_ble_eq_true rfl) dX7_isReadInto_48 (fun r12 μ13 hO => ?_)
            rcases hO with ⟨hr, hO⟩ | ⟨hr, hO⟩
            · refine r_topEq hr ?_
              obtain ⟨hO, hm⟩ := hO
              refine r_memEq hm ?_
              refine r_if_ne hC 56 dX7_isReadInto_51 (by decide) (fun _ => ?_) (fun h => absurd h (by decide))
              refine r_aload_n hC 1 dX7_isReadInto_56 rfl rfl ?_
              obtain ⟨g14, hO⟩ := hO
              refine r_getV hC fl7_17 ob7 rfl g14.1 dX7_isReadInto_57 ?_
              refine r_sipush hC 10059 dX7_isReadInto_60 (by decide) ?_
              refine r_callVv hC [.int 10059] (T3_add g14.2 hO) yv3_add ml7_37 g14.2 rfl ⟨Nat.le_of_ble_eq_true rfl, Nat.le_of_ble_eq_true rfl⟩ rfl rfl (Nat.le_of_ble_eq_true rfl) dX7_isReadInto_63 (fun μ15 hO => ?_)
              refine r_aload_n hC 1 dX7_isReadInto_66 rfl rfl ?_
              refine r_dup hC dX7_isReadInto_67 rfl ?_
              refine r_getI hC fl7_26 ob7 rfl dX7_isReadInto_68 ?_
              refine r_iconst hC 1 dX7_isReadInto_71 (by decide) ?_
              refine r_iadd hC dX7_isReadInto_72 ?_
              refine r_putI hC fl7_26 ob7 rfl rfl rfl dX7_isReadInto_73 ?_
              refine r_nmM (fun μ16 hμ16 => ?_)
              have hO := hO μ16 hμ16
              obtain ⟨x17, hx17⟩ : ∃ y : Int32, y = v5 + 1 := ⟨_, rfl⟩
              have hO := hO x17 hx17
              refine r_iinc hC x17 0 [(2, .int x17), (0, .ref (mw_a G 16)), (1, .ref (mw_a G d1))] dX7_isReadInto_76 rfl (by rw [hx17]; rfl) (by decide) rfl ?_
              refine r_goto hC 19 dX7_isReadInto_79 (by decide) ?_
              refine r_lv hC [(2, .int x17), (0, .ref (mw_a G 16)), (1, .ref (mw_a G d1))] [0, 1, 2] rfl ?_
              exact ihn7 x17 μ16 hO
            · refine r_topEq hr ?_
              obtain ⟨hO, hm⟩ := hO
              refine r_memEq hm ?_
              refine r_if_ne hC 56 dX7_isReadInto_51 (by decide) (fun h => absurd (by decide) h) (fun _ => ?_)
              refine r_iconst hC 0 dX7_isReadInto_54 (by decide) ?_
              exact r_zret hC rfl (by decide) dX7_isReadInto_55 (Or.inr ⟨rfl, hO⟩)
          · have hO := hO.2 h11
            refine r_iconst hC 1 dX7_isReadInto_43 (by decide) ?_
            exact r_zret hC rfl (by decide) dX7_isReadInto_44 (Or.inl ⟨rfl, hO⟩)
        · refine r_topEq hr ?_
          refine r_if_eq hC 82 dX7_isReadInto_29 (by decide) (fun _ => ?_) (fun h => absurd (by decide) h)
          refine r_iconst hC 0 dX7_isReadInto_82 (by decide) ?_
          exact r_zret hC rfl (by decide) dX7_isReadInto_83 (Or.inr ⟨rfl, hO⟩)
  obtain ⟨n7, hO⟩ := hO
  refine hLn7   n7 _ _ hO
set_option maxHeartbeats 4000000 in
set_option maxRecDepth 100000 in
theorem T7_empty {l : Launch} {G : mw_G}  {μ : mw_M} {Q : mw_M → Prop}  (hO : P7_empty μ Q) : mw_Mv l G kdX yX7_empty cX7_empty 1 none 0 0 [.ref (mw_a G 16)] μ (Q) := by
  refine mw_enter [(0, .ref (mw_a G 16))] RX7 (by decide) rfl (Nat.le_of_ble_eq_true rfl) rfl ?_
  intro p e s m args below meth c hC
  unfold P7_empty at hO
  refine r_aload_n hC 0 dX7_empty_0 rfl rfl ?_
  refine r_iconst hC 0 dX7_empty_1 (by decide) ?_
  refine r_putI hC fl7_13 ob7 rfl rfl rfl dX7_empty_2 ?_
  refine r_nmM (fun μ1 hμ1 => ?_)
  have hO := hO μ1 hμ1
  exact r_vret hC rfl dX7_empty_5 hO
set_option maxHeartbeats 4000000 in
set_option maxRecDepth 100000 in
theorem T7_faultPlace {l : Launch} {G : mw_G}  {μ : mw_M} {Q : Int32 → Prop}  (hO : P7_faultPlace μ Q) : mw_Mi l G kdX yX7_faultPlace cX7_faultPlace 1 (some .int) 0 0 [.ref (mw_a G 16)] μ (mw_pq μ Q) := by
  refine mw_enter [(0, .ref (mw_a G 16))] RX7 (by decide) rfl (Nat.le_of_ble_eq_true rfl) rfl ?_
  intro p e s m args below meth c hC
  unfold P7_faultPlace at hO
  refine r_aload_n hC 0 dX7_faultPlace_0 rfl rfl ?_
  refine r_getI hC fl7_26 ob7 rfl dX7_faultPlace_1 ?_
  exact r_iret hC rfl dX7_faultPlace_4 ⟨hO, rfl⟩
set_option maxHeartbeats 4000000 in
set_option maxRecDepth 100000 in
theorem T4_makeFromTape {l : Launch} {G : mw_G}  {μ : mw_M} {Q : Int32 → mw_M → Prop}  (hO : P4_makeFromTape μ Q) : mw_Mi l G kdX yX4_makeFromTape cX4_makeFromTape 2 (some .int) 69 1710 [.ref (mw_a G 15)] μ (Q) := by
  refine mw_enter [(0, .ref (mw_a G 15))] RX4 (by decide) rfl (Nat.le_of_ble_eq_true rfl) rfl ?_
  intro p e s m args below meth c hC
  unfold P4_makeFromTape at hO
  refine r_aload_n hC 0 dX4_makeFromTape_0 rfl rfl ?_
  refine r_getI hC fl4_33 ob4 rfl dX4_makeFromTape_1 ?_
  refine r_iconst hC 4 dX4_makeFromTape_4 (by decide) ?_
  refine r_icmp_lt hC 11 dX4_makeFromTape_5 (by decide) (fun h1 => ?_) (fun h1 => ?_)
  · have hO := hO.1 h1
    refine r_aload_n hC 0 dX4_makeFromTape_11 rfl rfl ?_
    refine r_getR hC 16 fl4_12 ob4 rfl dX4_makeFromTape_12 ?_
    refine r_aload_n hC 0 dX4_makeFromTape_15 rfl rfl ?_
    refine r_getR hC 18 fl4_24 ob4 rfl dX4_makeFromTape_16 ?_
    refine r_aload_n hC 0 dX4_makeFromTape_19 rfl rfl ?_
    refine r_getI hC fl4_33 ob4 rfl dX4_makeFromTape_20 ?_
    obtain ⟨g2, hO⟩ := hO
    refine r_aald hC sh4_1 (by decide) g2 ((μ.1 15 3).toNatClampNeg) rfl (20 + 3 * ((μ.1 15 3).toNatClampNeg)) rfl dX4_makeFromTape_23 ?_
    refine r_callVi hC [.ref (mw_a G (20 + 3 * ((μ.1 15 3).toNatClampNeg)))] (T7_isReadInto (el4_1 (vp_lt g2)) hO) yv7_isReadInto ml4_36 sh4_0 rfl ⟨Nat.le_of_ble_eq_true rfl, Nat.le_of_ble_eq_true rfl⟩ rfl rfl (Nat.le_of_ble_eq_true rfl) dX4_makeFromTape_24 (fun r3 μ4 hO => ?_)
    rcases hO with ⟨hr, hO⟩ | ⟨hr, hO⟩
    · refine r_topEq hr ?_
      refine r_istore_n hC [(1, .int 1), (0, .ref (mw_a G 15))] dX4_makeFromTape_27 rfl (by decide) rfl ?_
      refine r_aload_n hC 1 dX4_makeFromTape_28 rfl rfl ?_
      refine r_getR hC 16 fl4_12 ob4 rfl dX4_makeFromTape_29 ?_
      refine r_callVv hC [] (T7_empty  hO) yv7_empty ml4_40 sh4_0 rfl ⟨Nat.le_of_ble_eq_true rfl, Nat.le_of_ble_eq_true rfl⟩ rfl rfl (Nat.le_of_ble_eq_true rfl) dX4_makeFromTape_32 (fun μ5 hO => ?_)
      refine r_iload_n hC 0 dX4_makeFromTape_35 rfl rfl ?_
      refine r_if_ne hC 50 dX4_makeFromTape_36 (by decide) (fun _ => ?_) (fun h => absurd h (by decide))
      refine r_aload_n hC 1 dX4_makeFromTape_50 rfl rfl ?_
      refine r_dup hC dX4_makeFromTape_51 rfl ?_
      refine r_getI hC fl4_33 ob4 rfl dX4_makeFromTape_52 ?_
      refine r_iconst hC 1 dX4_makeFromTape_55 (by decide) ?_
      refine r_iadd hC dX4_makeFromTape_56 ?_
      refine r_putI hC fl4_33 ob4 rfl rfl rfl dX4_makeFromTape_57 ?_
      refine r_nmM (fun μ6 hμ6 => ?_)
      have hO := hO μ6 hμ6
      refine r_aload_n hC 1 dX4_makeFromTape_60 rfl rfl ?_
      refine r_getI hC fl4_33 ob4 rfl dX4_makeFromTape_61 ?_
      refine r_iconst hC 1 dX4_makeFromTape_64 (by decide) ?_
      refine r_isub hC dX4_makeFromTape_65 ?_
      exact r_iret hC rfl dX4_makeFromTape_66 hO
    · refine r_topEq hr ?_
      refine r_istore_n hC [(1, .int 0), (0, .ref (mw_a G 15))] dX4_makeFromTape_27 rfl (by decide) rfl ?_
      refine r_aload_n hC 1 dX4_makeFromTape_28 rfl rfl ?_
      refine r_getR hC 16 fl4_12 ob4 rfl dX4_makeFromTape_29 ?_
      refine r_callVv hC [] (T7_empty  hO) yv7_empty ml4_40 sh4_0 rfl ⟨Nat.le_of_ble_eq_true rfl, Nat.le_of_ble_eq_true rfl⟩ rfl rfl (Nat.le_of_ble_eq_true rfl) dX4_makeFromTape_32 (fun μ7 hO => ?_)
      refine r_iload_n hC 0 dX4_makeFromTape_35 rfl rfl ?_
      refine r_if_ne hC 50 dX4_makeFromTape_36 (by decide) (fun h => absurd (by decide) h) (fun _ => ?_)
      refine r_bipush hC (-100) dX4_makeFromTape_39 (by decide) ?_
      refine r_aload_n hC 1 dX4_makeFromTape_41 rfl rfl ?_
      refine r_getR hC 16 fl4_12 ob4 rfl dX4_makeFromTape_42 ?_
      refine r_callVi hC [] (T7_faultPlace  hO) yv7_faultPlace ml4_43 sh4_0 rfl ⟨Nat.le_of_ble_eq_true rfl, Nat.le_of_ble_eq_true rfl⟩ rfl rfl (Nat.le_of_ble_eq_true rfl) dX4_makeFromTape_45 (fun r8 μ9 hO => ?_)
      obtain ⟨hO, hm⟩ := hO
      refine r_memEq hm ?_
      refine r_isub hC dX4_makeFromTape_48 ?_
      exact r_iret hC rfl dX4_makeFromTape_49 hO
  · have hO := hO.2 h1
    refine r_bipush hC (-3) dX4_makeFromTape_8 (by decide) ?_
    exact r_iret hC rfl dX4_makeFromTape_10 hO
set_option maxHeartbeats 4000000 in
set_option maxRecDepth 100000 in
theorem T4_giveWater {l : Launch} {G : mw_G} {p1 : Int32} {μ : mw_M} {Q : Int32 → mw_M → Prop}  (hO : P4_giveWater p1 μ Q) : mw_Mi l G kdX yX4_giveWater cX4_giveWater 3 (some .int) 0 0 [.ref (mw_a G 15), .int p1] μ (Q) := by
  refine mw_enter [(0, .ref (mw_a G 15)), (1, .int p1)] RX4 (by decide) rfl (Nat.le_of_ble_eq_true rfl) rfl ?_
  intro p e s m args below meth c hC
  unfold P4_giveWater at hO
  refine r_aload_n hC 0 dX4_giveWater_0 rfl rfl ?_
  refine r_getI hC fl4_29 ob4 rfl dX4_giveWater_1 ?_
  refine r_nmI (fun x1 hx1 => ?_)
  have hO := hO x1 hx1
  refine r_istore_n hC [(2, .int x1), (0, .ref (mw_a G 15)), (1, .int p1)] dX4_giveWater_4 rfl (by decide) rfl ?_
  refine r_aload_n hC 1 dX4_giveWater_5 rfl rfl ?_
  refine r_iload_n hC 2 dX4_giveWater_6 rfl rfl ?_
  refine r_putI hC fl4_29 ob4 rfl rfl rfl dX4_giveWater_7 ?_
  refine r_nmM (fun μ2 hμ2 => ?_)
  have hO := hO μ2 hμ2
  refine r_iload_n hC 0 dX4_giveWater_10 rfl rfl ?_
  exact r_iret hC rfl dX4_giveWater_11 hO
set_option maxHeartbeats 4000000 in
set_option maxRecDepth 100000 in
theorem T4_name {l : Launch} {G : mw_G} {p1 : Int32} {p2 : Int32} {p3 : Int32} {p4 : Int32} {p5 : Int32} {p6 : Int32} {p7 : Int32} {μ : mw_M} {Q : mw_M → Prop}  (hO : P4_name p1 p2 p3 p4 p5 p6 p7 μ Q) : mw_Mv l G kdX yX4_name cX4_name 8 none 0 0 [.ref (mw_a G 15), .int p1, .int p2, .int p3, .int p4, .int p5, .int p6, .int p7] μ (Q) := by
  refine mw_enter [(0, .ref (mw_a G 15)), (1, .int p1), (2, .int p2), (3, .int p3), (4, .int p4), (5, .int p5), (6, .int p6), (7, .int p7)] RX4 (by decide) rfl (Nat.le_of_ble_eq_true rfl) rfl ?_
  intro p e s m args below meth c hC
  unfold P4_name at hO
  refine r_aload_n hC 0 dX4_name_0 rfl rfl ?_
  refine r_getR hC 19 fl4_20 ob4 rfl dX4_name_1 ?_
  refine r_iconst hC 0 dX4_name_4 (by decide) ?_
  refine r_iload_n hC 1 dX4_name_5 rfl rfl ?_
  refine r_iast hC sh4_2 (vpc (by decide) : vp_in 0 9) 0 (by decide) dX4_name_6 ?_
  refine r_nmM (fun μ1 hμ1 => ?_)
  have hO := hO μ1 hμ1
  refine r_aload_n hC 0 dX4_name_7 rfl rfl ?_
  refine r_getR hC 19 fl4_20 ob4 rfl dX4_name_8 ?_
  refine r_iconst hC 1 dX4_name_11 (by decide) ?_
  refine r_iload_n hC 2 dX4_name_12 rfl rfl ?_
  refine r_iast hC sh4_2 (vpc (by decide) : vp_in 1 9) 1 (by decide) dX4_name_13 ?_
  refine r_nmM (fun μ2 hμ2 => ?_)
  have hO := hO μ2 hμ2
  refine r_aload_n hC 0 dX4_name_14 rfl rfl ?_
  refine r_getR hC 19 fl4_20 ob4 rfl dX4_name_15 ?_
  refine r_iconst hC 2 dX4_name_18 (by decide) ?_
  refine r_iload_n hC 3 dX4_name_19 rfl rfl ?_
  refine r_iast hC sh4_2 (vpc (by decide) : vp_in 2 9) 2 (by decide) dX4_name_20 ?_
  refine r_nmM (fun μ3 hμ3 => ?_)
  have hO := hO μ3 hμ3
  refine r_aload_n hC 0 dX4_name_21 rfl rfl ?_
  refine r_getR hC 19 fl4_20 ob4 rfl dX4_name_22 ?_
  refine r_iconst hC 3 dX4_name_25 (by decide) ?_
  refine r_iload hC 4 dX4_name_26 rfl ?_
  refine r_iast hC sh4_2 (vpc (by decide) : vp_in 3 9) 3 (by decide) dX4_name_28 ?_
  refine r_nmM (fun μ4 hμ4 => ?_)
  have hO := hO μ4 hμ4
  refine r_aload_n hC 0 dX4_name_29 rfl rfl ?_
  refine r_getR hC 19 fl4_20 ob4 rfl dX4_name_30 ?_
  refine r_iconst hC 4 dX4_name_33 (by decide) ?_
  refine r_iload hC 5 dX4_name_34 rfl ?_
  refine r_iast hC sh4_2 (vpc (by decide) : vp_in 4 9) 4 (by decide) dX4_name_36 ?_
  refine r_nmM (fun μ5 hμ5 => ?_)
  have hO := hO μ5 hμ5
  refine r_aload_n hC 0 dX4_name_37 rfl rfl ?_
  refine r_getR hC 19 fl4_20 ob4 rfl dX4_name_38 ?_
  refine r_iconst hC 5 dX4_name_41 (by decide) ?_
  refine r_iconst hC 0 dX4_name_42 (by decide) ?_
  refine r_iast hC sh4_2 (vpc (by decide) : vp_in 5 9) 5 (by decide) dX4_name_43 ?_
  refine r_nmM (fun μ6 hμ6 => ?_)
  have hO := hO μ6 hμ6
  refine r_aload_n hC 0 dX4_name_44 rfl rfl ?_
  refine r_getR hC 19 fl4_20 ob4 rfl dX4_name_45 ?_
  refine r_bipush hC 6 dX4_name_48 (by decide) ?_
  refine r_iconst hC 0 dX4_name_50 (by decide) ?_
  refine r_iast hC sh4_2 (vpc (by decide) : vp_in 6 9) 6 (by decide) dX4_name_51 ?_
  refine r_nmM (fun μ7 hμ7 => ?_)
  have hO := hO μ7 hμ7
  refine r_aload_n hC 0 dX4_name_52 rfl rfl ?_
  refine r_getR hC 19 fl4_20 ob4 rfl dX4_name_53 ?_
  refine r_bipush hC 7 dX4_name_56 (by decide) ?_
  refine r_iload hC 6 dX4_name_58 rfl ?_
  refine r_iast hC sh4_2 (vpc (by decide) : vp_in 7 9) 7 (by decide) dX4_name_60 ?_
  refine r_nmM (fun μ8 hμ8 => ?_)
  have hO := hO μ8 hμ8
  refine r_aload_n hC 0 dX4_name_61 rfl rfl ?_
  refine r_getR hC 19 fl4_20 ob4 rfl dX4_name_62 ?_
  refine r_bipush hC 8 dX4_name_65 (by decide) ?_
  refine r_iload hC 7 dX4_name_67 rfl ?_
  refine r_iast hC sh4_2 (vpc (by decide) : vp_in 8 9) 8 (by decide) dX4_name_69 ?_
  refine r_nmM (fun μ9 hμ9 => ?_)
  have hO := hO μ9 hμ9
  exact r_vret hC rfl dX4_name_70 hO
