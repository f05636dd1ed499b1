set_option maxHeartbeats 4000000 in
set_option maxRecDepth 100000 in
theorem T11_nameOf {l : Launch} {G : mw_G} {p1 : Int32} {μ : mw_M} {Q : Int32 → Prop}  (hO : P11_nameOf p1 Q) : mw_Mi l G kdM yX11_nameOf cX11_nameOf 1 (some .int) 0 0 [.int p1] μ (mw_pq μ Q) := by
  refine mw_enter [(0, .int p1)] RX11 (by decide) rfl (Nat.le_of_ble_eq_true rfl) rfl ?_
  intro p e s m args below meth c hC
  unfold P11_nameOf at hO
  refine r_iload_n hC 0 dX11_nameOf_0 rfl rfl ?_
  by_cases h1 : p1 = 99
  · have hO := hO.1 h1
    refine r_tin hC 118 dX11_nameOf_1 (by rw [h1]; decide) (by rw [h1]; decide) (by rw [h1] <;> rfl) (by decide) ?_
    refine r_bipush hC 8 dX11_nameOf_118 (by decide) ?_
    exact r_iret hC rfl dX11_nameOf_120 ⟨hO, rfl⟩
  by_cases h2 : p1 = 100
  · have hO := hO.2.1 h2
    refine r_tin hC 110 dX11_nameOf_1 (by rw [h2]; decide) (by rw [h2]; decide) (by rw [h2] <;> rfl) (by decide) ?_
    refine r_iconst hC 5 dX11_nameOf_110 (by decide) ?_
    exact r_iret hC rfl dX11_nameOf_111 ⟨hO, rfl⟩
  by_cases h3 : p1 = 103
  · have hO := hO.2.2.1 h3
    refine r_tin hC 112 dX11_nameOf_1 (by rw [h3]; decide) (by rw [h3]; decide) (by rw [h3] <;> rfl) (by decide) ?_
    refine r_bipush hC 6 dX11_nameOf_112 (by decide) ?_
    exact r_iret hC rfl dX11_nameOf_114 ⟨hO, rfl⟩
  by_cases h4 : p1 = 104
  · have hO := hO.2.2.2.1 h4
    refine r_tin hC 102 dX11_nameOf_1 (by rw [h4]; decide) (by rw [h4]; decide) (by rw [h4] <;> rfl) (by decide) ?_
    refine r_iconst hC 1 dX11_nameOf_102 (by decide) ?_
    exact r_iret hC rfl dX11_nameOf_103 ⟨hO, rfl⟩
  by_cases h5 : p1 = 108
  · have hO := hO.2.2.2.2.1 h5
    refine r_tin hC 108 dX11_nameOf_1 (by rw [h5]; decide) (by rw [h5]; decide) (by rw [h5] <;> rfl) (by decide) ?_
    refine r_iconst hC 4 dX11_nameOf_108 (by decide) ?_
    exact r_iret hC rfl dX11_nameOf_109 ⟨hO, rfl⟩
  by_cases h6 : p1 = 112
  · have hO := hO.2.2.2.2.2.1 h6
    refine r_tin hC 104 dX11_nameOf_1 (by rw [h6]; decide) (by rw [h6]; decide) (by rw [h6] <;> rfl) (by decide) ?_
    refine r_iconst hC 2 dX11_nameOf_104 (by decide) ?_
    exact r_iret hC rfl dX11_nameOf_105 ⟨hO, rfl⟩
  by_cases h7 : p1 = 115
  · have hO := hO.2.2.2.2.2.2.1 h7
    refine r_tin hC 115 dX11_nameOf_1 (by rw [h7]; decide) (by rw [h7]; decide) (by rw [h7] <;> rfl) (by decide) ?_
    refine r_bipush hC 7 dX11_nameOf_115 (by decide) ?_
    exact r_iret hC rfl dX11_nameOf_117 ⟨hO, rfl⟩
  by_cases h8 : p1 = 116
  · have hO := hO.2.2.2.2.2.2.2.1 h8
    refine r_tin hC 106 dX11_nameOf_1 (by rw [h8]; decide) (by rw [h8]; decide) (by rw [h8] <;> rfl) (by decide) ?_
    refine r_iconst hC 3 dX11_nameOf_106 (by decide) ?_
    exact r_iret hC rfl dX11_nameOf_107 ⟨hO, rfl⟩
  by_cases h9 : p1 = 119
  · have hO := hO.2.2.2.2.2.2.2.2.1 h9
    refine r_tin hC 100 dX11_nameOf_1 (by rw [h9]; decide) (by rw [h9]; decide) (by rw [h9] <;> rfl) (by decide) ?_
    refine r_iconst hC 0 dX11_nameOf_100 (by decide) ?_
    exact r_iret hC rfl dX11_nameOf_101 ⟨hO, rfl⟩
  have hO := hO.2.2.2.2.2.2.2.2.2 h1 h2 h3 h4 h5 h6 h7 h8 h9
  refine r_tdef hC 121 dX11_nameOf_1 (by decide) rfl (fun k hk => match k, hk with | 0, _ => Or.inr (mw_ne h1 rfl) | 1, _ => Or.inr (mw_ne h2 rfl) | 2, _ => Or.inl rfl | 3, _ => Or.inl rfl | 4, _ => Or.inr (mw_ne h3 rfl) | 5, _ => Or.inr (mw_ne h4 rfl) | 6, _ => Or.inl rfl | 7, _ => Or.inl rfl | 8, _ => Or.inl rfl | 9, _ => Or.inr (mw_ne h5 rfl) | 10, _ => Or.inl rfl | 11, _ => Or.inl rfl | 12, _ => Or.inl rfl | 13, _ => Or.inr (mw_ne h6 rfl) | 14, _ => Or.inl rfl | 15, _ => Or.inl rfl | 16, _ => Or.inr (mw_ne h7 rfl) | 17, _ => Or.inr (mw_ne h8 rfl) | 18, _ => Or.inl rfl | 19, _ => Or.inl rfl | 20, _ => Or.inr (mw_ne h9 rfl) | k + 21, h => absurd h (by show ¬ k + 21 < 21; omega)) ?_
  refine r_iconst hC (-1) dX11_nameOf_121 (by decide) ?_
  exact r_iret hC rfl dX11_nameOf_122 ⟨hO, rfl⟩
set_option maxHeartbeats 4000000 in
set_option maxRecDepth 100000 in
theorem T11_either_s {l : Launch} {G : mw_G} {fr lo : Nat} (hfr : 2 ≤ fr) (hlo : 41 ≤ lo) {c2 : mw_M → (Int32 → mw_M → Prop) → Prop} (hc2 : ∀  (μ : mw_M) (Q : Int32 → mw_M → Prop), c2 μ Q → mw_Mi l G kdM yX11_both cX11_both 3 (some .int) fr lo [.ref (mw_a G 0)] μ (Q))  {μ : mw_M} {Q : Int32 → mw_M → Prop}  (hO : S11_either c2 μ Q) : mw_Mi l G kdM yX11_either cX11_either 3 (some .int) (fr + 1) (lo + 24) [.ref (mw_a G 0)] μ (Q) := by
  refine mw_enter [(0, .ref (mw_a G 0))] RX11 (by decide) rfl (Nat.le_of_ble_eq_true rfl) rfl ?_
  intro p e s m args below meth c hC
  unfold S11_either at hO
  refine r_aload_n hC 0 dX11_either_0 rfl rfl ?_
  refine r_callVi hC [] (hc2  _ _ hO) yv11_both ml11_205 ob11 rfl (by constructor <;> (simp only [mw_rm]; omega)) rfl rfl (Nat.le_of_ble_eq_true rfl) dX11_either_1 (fun r1 μ2 hO => ?_)
  refine r_istore_n hC [(1, .int r1), (0, .ref (mw_a G 0))] dX11_either_4 rfl (by decide) rfl ?_
  have hLn5 : ∀   (n5 : Nat) (v3 : Int32) (μ4 : mw_M), L11_either_5 c2 Q n5 v3 μ4 → mw_W p l e (mw_rm (fr + 1) (lo + 24)) s m args below meth c G kdM 3 (MQ below (va_Qi (Q) (mw_B G kdM) (mw_A G kdM)) args s 0 0 (mw_A G kdM)) 5 [(1, .int v3), (0, .ref (mw_a G 0))] [] μ4 := by
    intro   n5
    induction n5 with
    | zero => intro v3 μ4 hO; exact False.elim hO
    | succ n5 ihn5 =>
      intro v3 μ4 hO
      refine r_aload_n hC 1 dX11_either_5 rfl rfl ?_
      refine r_bipush hC 124 dX11_either_6 (by decide) ?_
      refine r_callVi hC [.int 124] (T11_takes  hO) yv11_takes ml11_208 ob11 rfl (by constructor <;> (simp only [mw_rm]; omega)) rfl rfl (Nat.le_of_ble_eq_true rfl) dX11_either_8 (fun r6 μ7 hO => ?_)
      rcases hO with ⟨hr, hO⟩ | ⟨hr, hO⟩
      · refine r_topEq hr ?_
        refine r_if_eq hC 36 dX11_either_11 (by decide) (fun h => absurd h (by decide)) (fun _ => ?_)
        refine r_aload_n hC 1 dX11_either_14 rfl rfl ?_
        refine r_callVi hC [] (hc2  _ _ hO) yv11_both ml11_205 ob11 rfl (by constructor <;> (simp only [mw_rm]; omega)) rfl rfl (Nat.le_of_ble_eq_true rfl) dX11_either_15 (fun r8 μ9 hO => ?_)
        refine r_istore_n hC [(2, .int r8), (1, .int v3), (0, .ref (mw_a G 0))] dX11_either_18 rfl (by decide) rfl ?_
        refine r_iload_n hC 1 dX11_either_19 rfl rfl ?_
        refine r_if_ne hC 27 dX11_either_20 (by decide) (fun h10 => ?_) (fun h10 => ?_)
        · have hO := hO.2 h10
          refine r_iconst hC 1 dX11_either_27 (by decide) ?_
          refine r_goto hC 32 dX11_either_28 (by decide) ?_
          refine r_istore_n hC [(1, .int 1), (2, .int r8), (0, .ref (mw_a G 0))] dX11_either_32 rfl (by decide) rfl ?_
          refine r_goto hC 5 dX11_either_33 (by decide) ?_
          refine r_lv hC [(1, .int 1), (0, .ref (mw_a G 0))] [0, 2] rfl ?_
          exact ihn5 1 μ9 hO
        · have hO := hO.1 h10
          refine r_iload_n hC 0 dX11_either_23 rfl rfl ?_
          refine r_if_eq hC 31 dX11_either_24 (by decide) (fun h11 => ?_) (fun h11 => ?_)
          · have hO := hO.1 h11
            refine r_iconst hC 0 dX11_either_31 (by decide) ?_
            refine r_istore_n hC [(1, .int 0), (2, .int r8), (0, .ref (mw_a G 0))] dX11_either_32 rfl (by decide) rfl ?_
            refine r_goto hC 5 dX11_either_33 (by decide) ?_
            refine r_lv hC [(1, .int 0), (0, .ref (mw_a G 0))] [0, 2] rfl ?_
            exact ihn5 0 μ9 hO
          · have hO := hO.2 h11
            refine r_iconst hC 1 dX11_either_27 (by decide) ?_
            refine r_goto hC 32 dX11_either_28 (by decide) ?_
            refine r_istore_n hC [(1, .int 1), (2, .int r8), (0, .ref (mw_a G 0))] dX11_either_32 rfl (by decide) rfl ?_
            refine r_goto hC 5 dX11_either_33 (by decide) ?_
            refine r_lv hC [(1, .int 1), (0, .ref (mw_a G 0))] [0, 2] rfl ?_
            exact ihn5 1 μ9 hO
      · refine r_topEq hr ?_
        refine r_if_eq hC 36 dX11_either_11 (by decide) (fun _ => ?_) (fun h => absurd (by decide) h)
        refine r_iload_n hC 0 dX11_either_36 rfl rfl ?_
        exact r_iret hC rfl dX11_either_37 hO
  obtain ⟨n5, hO⟩ := hO
  refine hLn5   n5 _ _ hO
set_option maxHeartbeats 4000000 in
set_option maxRecDepth 100000 in
theorem T11_both_s {l : Launch} {G : mw_G} {fr lo : Nat} (hfr : 2 ≤ fr) (hlo : 41 ≤ lo) {c3 : mw_M → (Int32 → mw_M → Prop) → Prop} (hc3 : ∀  (μ : mw_M) (Q : Int32 → mw_M → Prop), c3 μ Q → mw_Mi l G kdM yX11_compared cX11_compared 4 (some .int) fr lo [.ref (mw_a G 0)] μ (Q))  {μ : mw_M} {Q : Int32 → mw_M → Prop}  (hO : S11_both c3 μ Q) : mw_Mi l G kdM yX11_both cX11_both 3 (some .int) (fr + 1) (lo + 24) [.ref (mw_a G 0)] μ (Q) := by
  refine mw_enter [(0, .ref (mw_a G 0))] RX11 (by decide) rfl (Nat.le_of_ble_eq_true rfl) rfl ?_
  intro p e s m args below meth c hC
  unfold S11_both at hO
  refine r_aload_n hC 0 dX11_both_0 rfl rfl ?_
  refine r_callVi hC [] (hc3  _ _ hO) yv11_compared ml11_211 ob11 rfl (by constructor <;> (simp only [mw_rm]; omega)) rfl rfl (Nat.le_of_ble_eq_true rfl) dX11_both_1 (fun r1 μ2 hO => ?_)
  refine r_istore_n hC [(1, .int r1), (0, .ref (mw_a G 0))] dX11_both_4 rfl (by decide) rfl ?_
  have hLn5 : ∀   (n5 : Nat) (v3 : Int32) (μ4 : mw_M), L11_both_5 c3 Q n5 v3 μ4 → mw_W p l e (mw_rm (fr + 1) (lo + 24)) s m args below meth c G kdM 3 (MQ below (va_Qi (Q) (mw_B G kdM) (mw_A G kdM)) args s 0 0 (mw_A G kdM)) 5 [(1, .int v3), (0, .ref (mw_a G 0))] [] μ4 := by
    intro   n5
    induction n5 with
    | zero => intro v3 μ4 hO; exact False.elim hO
    | succ n5 ihn5 =>
      intro v3 μ4 hO
      refine r_aload_n hC 1 dX11_both_5 rfl rfl ?_
      refine r_bipush hC 38 dX11_both_6 (by decide) ?_
      refine r_callVi hC [.int 38] (T11_takes  hO) yv11_takes ml11_208 ob11 rfl (by constructor <;> (simp only [mw_rm]; omega)) rfl rfl (Nat.le_of_ble_eq_true rfl) dX11_both_8 (fun r6 μ7 hO => ?_)
      rcases hO with ⟨hr, hO⟩ | ⟨hr, hO⟩
      · refine r_topEq hr ?_
        refine r_if_eq hC 36 dX11_both_11 (by decide) (fun h => absurd h (by decide)) (fun _ => ?_)
        refine r_aload_n hC 1 dX11_both_14 rfl rfl ?_
        refine r_callVi hC [] (hc3  _ _ hO) yv11_compared ml11_211 ob11 rfl (by constructor <;> (simp only [mw_rm]; omega)) rfl rfl (Nat.le_of_ble_eq_true rfl) dX11_both_15 (fun r8 μ9 hO => ?_)
        refine r_istore_n hC [(2, .int r8), (1, .int v3), (0, .ref (mw_a G 0))] dX11_both_18 rfl (by decide) rfl ?_
        refine r_iload_n hC 1 dX11_both_19 rfl rfl ?_
        refine r_if_eq hC 31 dX11_both_20 (by decide) (fun h10 => ?_) (fun h10 => ?_)
        · have hO := hO.1 h10
          refine r_iconst hC 0 dX11_both_31 (by decide) ?_
          refine r_istore_n hC [(1, .int 0), (2, .int r8), (0, .ref (mw_a G 0))] dX11_both_32 rfl (by decide) rfl ?_
          refine r_goto hC 5 dX11_both_33 (by decide) ?_
          refine r_lv hC [(1, .int 0), (0, .ref (mw_a G 0))] [0, 2] rfl ?_
          exact ihn5 0 μ9 hO
        · have hO := hO.2 h10
          refine r_iload_n hC 0 dX11_both_23 rfl rfl ?_
          refine r_if_eq hC 31 dX11_both_24 (by decide) (fun h11 => ?_) (fun h11 => ?_)
          · have hO := hO.1 h11
            refine r_iconst hC 0 dX11_both_31 (by decide) ?_
            refine r_istore_n hC [(1, .int 0), (2, .int r8), (0, .ref (mw_a G 0))] dX11_both_32 rfl (by decide) rfl ?_
            refine r_goto hC 5 dX11_both_33 (by decide) ?_
            refine r_lv hC [(1, .int 0), (0, .ref (mw_a G 0))] [0, 2] rfl ?_
            exact ihn5 0 μ9 hO
          · have hO := hO.2 h11
            refine r_iconst hC 1 dX11_both_27 (by decide) ?_
            refine r_goto hC 32 dX11_both_28 (by decide) ?_
            refine r_istore_n hC [(1, .int 1), (2, .int r8), (0, .ref (mw_a G 0))] dX11_both_32 rfl (by decide) rfl ?_
            refine r_goto hC 5 dX11_both_33 (by decide) ?_
            refine r_lv hC [(1, .int 1), (0, .ref (mw_a G 0))] [0, 2] rfl ?_
            exact ihn5 1 μ9 hO
      · refine r_topEq hr ?_
        refine r_if_eq hC 36 dX11_both_11 (by decide) (fun _ => ?_) (fun h => absurd (by decide) h)
        refine r_iload_n hC 0 dX11_both_36 rfl rfl ?_
        exact r_iret hC rfl dX11_both_37 hO
  obtain ⟨n5, hO⟩ := hO
  refine hLn5   n5 _ _ hO
set_option maxHeartbeats 4000000 in
set_option maxRecDepth 100000 in
theorem T11_compared_s {l : Launch} {G : mw_G} {fr lo : Nat} (hfr : 2 ≤ fr) (hlo : 41 ≤ lo) {c4 : mw_M → (Int32 → mw_M → Prop) → Prop} (hc4 : ∀  (μ : mw_M) (Q : Int32 → mw_M → Prop), c4 μ Q → mw_Mi l G kdM yX11_sums cX11_sums 4 (some .int) fr lo [.ref (mw_a G 0)] μ (Q))  {μ : mw_M} {Q : Int32 → mw_M → Prop}  (hO : S11_compared c4 μ Q) : mw_Mi l G kdM yX11_compared cX11_compared 4 (some .int) (fr + 1) (lo + 24) [.ref (mw_a G 0)] μ (Q) := by
  refine mw_enter [(0, .ref (mw_a G 0))] RX11 (by decide) rfl (Nat.le_of_ble_eq_true rfl) rfl ?_
  intro p e s m args below meth c hC
  unfold S11_compared at hO
  refine r_aload_n hC 0 dX11_compared_0 rfl rfl ?_
  refine r_callVi hC [] (hc4  _ _ hO) yv11_sums ml11_214 ob11 rfl (by constructor <;> (simp only [mw_rm]; omega)) rfl rfl (Nat.le_of_ble_eq_true rfl) dX11_compared_1 (fun r1 μ2 hO => ?_)
  refine r_istore_n hC [(1, .int r1), (0, .ref (mw_a G 0))] dX11_compared_4 rfl (by decide) rfl ?_
  refine r_aload_n hC 1 dX11_compared_5 rfl rfl ?_
  refine r_callVi hC [] (T11_byteAt  hO) yv11_byteAt ml11_202 ob11 rfl (by constructor <;> (simp only [mw_rm]; omega)) rfl rfl (Nat.le_of_ble_eq_true rfl) dX11_compared_6 (fun r3 μ4 hO => ?_)
  obtain ⟨hO, hm⟩ := hO
  refine r_memEq hm ?_
  refine r_istore_n hC [(2, .int r3), (1, .int r1), (0, .ref (mw_a G 0))] dX11_compared_9 rfl (by decide) rfl ?_
  refine r_aload_n hC 2 dX11_compared_10 rfl rfl ?_
  refine r_getI hC fl11_199 ob11 rfl dX11_compared_11 ?_
  refine r_if_ge hC 35 dX11_compared_14 (by decide) (fun h5 => ?_) (fun h5 => ?_)
  · have hO := hO.1 h5
    refine r_iload_n hC 1 dX11_compared_35 rfl rfl ?_
    exact r_iret hC rfl dX11_compared_36 hO
  · have hO := hO.2 h5
    refine r_iload_n hC 0 dX11_compared_17 rfl rfl ?_
    refine r_bipush hC 60 dX11_compared_18 (by decide) ?_
    refine r_icmp_eq hC 37 dX11_compared_20 (by decide) (fun h6 => ?_) (fun h6 => ?_)
    · have hO := hO.1 h6
      refine r_aload_n hC 2 dX11_compared_37 rfl rfl ?_
      refine r_dup hC dX11_compared_38 rfl ?_
      refine r_getI hC fl11_190 ob11 rfl dX11_compared_39 ?_
      refine r_iconst hC 1 dX11_compared_42 (by decide) ?_
      refine r_iadd hC dX11_compared_43 ?_
      refine r_putI hC fl11_190 ob11 rfl rfl rfl dX11_compared_44 ?_
      refine r_nmM (fun μ7 hμ7 => ?_)
      have hO := hO μ7 hμ7
      refine r_aload_n hC 2 dX11_compared_47 rfl rfl ?_
      refine r_callVi hC [] (hc4  _ _ hO) yv11_sums ml11_214 ob11 rfl (by constructor <;> (simp only [mw_rm]; omega)) rfl rfl (Nat.le_of_ble_eq_true rfl) dX11_compared_48 (fun r8 μ9 hO => ?_)
      refine r_istore_n hC [(3, .int r8), (2, .int r3), (1, .int r1), (0, .ref (mw_a G 0))] dX11_compared_51 rfl (by decide) rfl ?_
      refine r_iload_n hC 1 dX11_compared_52 rfl rfl ?_
      refine r_bipush hC 60 dX11_compared_53 (by decide) ?_
      refine r_icmp_ne hC 66 dX11_compared_55 (by decide) (fun h10 => ?_) (fun h10 => ?_)
      · have hO := hO.2 h10
        refine r_iload_n hC 1 dX11_compared_66 rfl rfl ?_
        refine r_bipush hC 61 dX11_compared_67 (by decide) ?_
        refine r_icmp_ne hC 80 dX11_compared_69 (by decide) (fun h11 => ?_) (fun h11 => ?_)
        · have hO := hO.2 h11
          refine r_iload_n hC 2 dX11_compared_80 rfl rfl ?_
          refine r_iload_n hC 0 dX11_compared_81 rfl rfl ?_
          refine r_icmp_le hC 89 dX11_compared_82 (by decide) (fun h12 => ?_) (fun h12 => ?_)
          · have hO := hO.1 h12
            refine r_iconst hC 0 dX11_compared_89 (by decide) ?_
            exact r_iret hC rfl dX11_compared_90 hO
          · have hO := hO.2 h12
            refine r_iconst hC 1 dX11_compared_85 (by decide) ?_
            refine r_goto hC 90 dX11_compared_86 (by decide) ?_
            exact r_iret hC rfl dX11_compared_90 hO
        · have hO := hO.1 h11
          refine r_iload_n hC 2 dX11_compared_72 rfl rfl ?_
          refine r_iload_n hC 0 dX11_compared_73 rfl rfl ?_
          refine r_icmp_ne hC 89 dX11_compared_74 (by decide) (fun h13 => ?_) (fun h13 => ?_)
          · have hO := hO.2 h13
            refine r_iconst hC 0 dX11_compared_89 (by decide) ?_
            exact r_iret hC rfl dX11_compared_90 hO
          · have hO := hO.1 h13
            refine r_goto hC 85 dX11_compared_77 (by decide) ?_
            refine r_iconst hC 1 dX11_compared_85 (by decide) ?_
            refine r_goto hC 90 dX11_compared_86 (by decide) ?_
            exact r_iret hC rfl dX11_compared_90 hO
      · have hO := hO.1 h10
        refine r_iload_n hC 2 dX11_compared_58 rfl rfl ?_
        refine r_iload_n hC 0 dX11_compared_59 rfl rfl ?_
        refine r_icmp_ge hC 89 dX11_compared_60 (by decide) (fun h14 => ?_) (fun h14 => ?_)
        · have hO := hO.1 h14
          refine r_iconst hC 0 dX11_compared_89 (by decide) ?_
          exact r_iret hC rfl dX11_compared_90 hO
        · have hO := hO.2 h14
          refine r_goto hC 85 dX11_compared_63 (by decide) ?_
          refine r_iconst hC 1 dX11_compared_85 (by decide) ?_
          refine r_goto hC 90 dX11_compared_86 (by decide) ?_
          exact r_iret hC rfl dX11_compared_90 hO
    · have hO := hO.2 h6
      refine r_iload_n hC 0 dX11_compared_23 rfl rfl ?_
      refine r_bipush hC 61 dX11_compared_24 (by decide) ?_
      refine r_icmp_eq hC 37 dX11_compared_26 (by decide) (fun h15 => ?_) (fun h15 => ?_)
      · have hO := hO.1 h15
        refine r_aload_n hC 2 dX11_compared_37 rfl rfl ?_
        refine r_dup hC dX11_compared_38 rfl ?_
        refine r_getI hC fl11_190 ob11 rfl dX11_compared_39 ?_
        refine r_iconst hC 1 dX11_compared_42 (by decide) ?_
        refine r_iadd hC dX11_compared_43 ?_
        refine r_putI hC fl11_190 ob11 rfl rfl rfl dX11_compared_44 ?_
        refine r_nmM (fun μ16 hμ16 => ?_)
        have hO := hO μ16 hμ16
        refine r_aload_n hC 2 dX11_compared_47 rfl rfl ?_
        refine r_callVi hC [] (hc4  _ _ hO) yv11_sums ml11_214 ob11 rfl (by constructor <;> (simp only [mw_rm]; omega)) rfl rfl (Nat.le_of_ble_eq_true rfl) dX11_compared_48 (fun r17 μ18 hO => ?_)
        refine r_istore_n hC [(3, .int r17), (2, .int r3), (1, .int r1), (0, .ref (mw_a G 0))] dX11_compared_51 rfl (by decide) rfl ?_
        refine r_iload_n hC 1 dX11_compared_52 rfl rfl ?_
        refine r_bipush hC 60 dX11_compared_53 (by decide) ?_
        refine r_icmp_ne hC 66 dX11_compared_55 (by decide) (fun h19 => ?_) (fun h19 => ?_)
        · have hO := hO.2 h19
          refine r_iload_n hC 1 dX11_compared_66 rfl rfl ?_
          refine r_bipush hC 61 dX11_compared_67 (by decide) ?_
          refine r_icmp_ne hC 80 dX11_compared_69 (by decide) (fun h20 => ?_) (fun h20 => ?_)
          · have hO := hO.2 h20
            refine r_iload_n hC 2 dX11_compared_80 rfl rfl ?_
            refine r_iload_n hC 0 dX11_compared_81 rfl rfl ?_
            refine r_icmp_le hC 89 dX11_compared_82 (by decide) (fun h21 => ?_) (fun h21 => ?_)
            · have hO := hO.1 h21
              refine r_iconst hC 0 dX11_compared_89 (by decide) ?_
              exact r_iret hC rfl dX11_compared_90 hO
            · have hO := hO.2 h21
              refine r_iconst hC 1 dX11_compared_85 (by decide) ?_
              refine r_goto hC 90 dX11_compared_86 (by decide) ?_
              exact r_iret hC rfl dX11_compared_90 hO
          · have hO := hO.1 h20
            refine r_iload_n hC 2 dX11_compared_72 rfl rfl ?_
            refine r_iload_n hC 0 dX11_compared_73 rfl rfl ?_
            refine r_icmp_ne hC 89 dX11_compared_74 (by decide) (fun h22 => ?_) (fun h22 => ?_)
            · have hO := hO.2 h22
              refine r_iconst hC 0 dX11_compared_89 (by decide) ?_
              exact r_iret hC rfl dX11_compared_90 hO
            · have hO := hO.1 h22
              refine r_goto hC 85 dX11_compared_77 (by decide) ?_
              refine r_iconst hC 1 dX11_compared_85 (by decide) ?_
              refine r_goto hC 90 dX11_compared_86 (by decide) ?_
              exact r_iret hC rfl dX11_compared_90 hO
        · have hO := hO.1 h19
          refine r_iload_n hC 2 dX11_compared_58 rfl rfl ?_
          refine r_iload_n hC 0 dX11_compared_59 rfl rfl ?_
          refine r_icmp_ge hC 89 dX11_compared_60 (by decide) (fun h23 => ?_) (fun h23 => ?_)
          · have hO := hO.1 h23
            refine r_iconst hC 0 dX11_compared_89 (by decide) ?_
            exact r_iret hC rfl dX11_compared_90 hO
          · have hO := hO.2 h23
            refine r_goto hC 85 dX11_compared_63 (by decide) ?_
            refine r_iconst hC 1 dX11_compared_85 (by decide) ?_
            refine r_goto hC 90 dX11_compared_86 (by decide) ?_
            exact r_iret hC rfl dX11_compared_90 hO
      · have hO := hO.2 h15
        refine r_iload_n hC 0 dX11_compared_29 rfl rfl ?_
        refine r_bipush hC 62 dX11_compared_30 (by decide) ?_
        refine r_icmp_eq hC 37 dX11_compared_32 (by decide) (fun h24 => ?_) (fun h24 => ?_)
        · have hO := hO.1 h24
          refine r_aload_n hC 2 dX11_compared_37 rfl rfl ?_
          refine r_dup hC dX11_compared_38 rfl ?_
          refine r_getI hC fl11_190 ob11 rfl dX11_compared_39 ?_
          refine r_iconst hC 1 dX11_compared_42 (by decide) ?_
          refine r_iadd hC dX11_compared_43 ?_
          refine r_putI hC fl11_190 ob11 rfl rfl rfl dX11_compared_44 ?_
          refine r_nmM (fun μ25 hμ25 => ?_)
          have hO := hO μ25 hμ25
          refine r_aload_n hC 2 dX11_compared_47 rfl rfl ?_
          refine r_callVi hC [] (hc4  _ _ hO) yv11_sums ml11_214 ob11 rfl (by constructor <;> (simp only [mw_rm]; omega)) rfl rfl (Nat.le_of_ble_eq_true rfl) dX11_compared_48 (fun r26 μ27 hO => ?_)
          refine r_istore_n hC [(3, .int r26), (2, .int r3), (1, .int r1), (0, .ref (mw_a G 0))] dX11_compared_51 rfl (by decide) rfl ?_
          refine r_iload_n hC 1 dX11_compared_52 rfl rfl ?_
          refine r_bipush hC 60 dX11_compared_53 (by decide) ?_
          refine r_icmp_ne hC 66 dX11_compared_55 (by decide) (fun h28 => ?_) (fun h28 => ?_)
          · have hO := hO.2 h28
            refine r_iload_n hC 1 dX11_compared_66 rfl rfl ?_
            refine r_bipush hC 61 dX11_compared_67 (by decide) ?_
            refine r_icmp_ne hC 80 dX11_compared_69 (by decide) (fun h29 => ?_) (fun h29 => ?_)
            · have hO := hO.2 h29
              refine r_iload_n hC 2 dX11_compared_80 rfl rfl ?_
              refine r_iload_n hC 0 dX11_compared_81 rfl rfl ?_
              refine r_icmp_le hC 89 dX11_compared_82 (by decide) (fun h30 => ?_) (fun h30 => ?_)
              · have hO := hO.1 h30
                refine r_iconst hC 0 dX11_compared_89 (by decide) ?_
                exact r_iret hC rfl dX11_compared_90 hO
              · have hO := hO.2 h30
                refine r_iconst hC 1 dX11_compared_85 (by decide) ?_
                refine r_goto hC 90 dX11_compared_86 (by decide) ?_
                exact r_iret hC rfl dX11_compared_90 hO
            · have hO := hO.1 h29
              refine r_iload_n hC 2 dX11_compared_72 rfl rfl ?_
              refine r_iload_n hC 0 dX11_compared_73 rfl rfl ?_
              refine r_icmp_ne hC 89 dX11_compared_74 (by decide) (fun h31 => ?_) (fun h31 => ?_)
              · have hO := hO.2 h31
                refine r_iconst hC 0 dX11_compared_89 (by decide) ?_
                exact r_iret hC rfl dX11_compared_90 hO
              · have hO := hO.1 h31
                refine r_goto hC 85 dX11_compared_77 (by decide) ?_
                refine r_iconst hC 1 dX11_compared_85 (by decide) ?_
                refine r_goto hC 90 dX11_compared_86 (by decide) ?_
                exact r_iret hC rfl dX11_compared_90 hO
          · have hO := hO.1 h28
            refine r_iload_n hC 2 dX11_compared_58 rfl rfl ?_
            refine r_iload_n hC 0 dX11_compared_59 rfl rfl ?_
            refine r_icmp_ge hC 89 dX11_compared_60 (by decide) (fun h32 => ?_) (fun h32 => ?_)
            · have hO := hO.1 h32
              refine r_iconst hC 0 dX11_compared_89 (by decide) ?_
              exact r_iret hC rfl dX11_compared_90 hO
            · have hO := hO.2 h32
              refine r_goto hC 85 dX11_compared_63 (by decide) ?_
              refine r_iconst hC 1 dX11_compared_85 (by decide) ?_
              refine r_goto hC 90 dX11_compared_86 (by decide) ?_
              exact r_iret hC rfl dX11_compared_90 hO
        · have hO := hO.2 h24
          refine r_iload_n hC 1 dX11_compared_35 rfl rfl ?_
          exact r_iret hC rfl dX11_compared_36 hO
set_option maxHeartbeats 4000000 in
set_option maxRecDepth 100000 in
theorem T11_sums_s {l : Launch} {G : mw_G} {fr lo : Nat} (hfr : 2 ≤ fr) (hlo : 41 ≤ lo) {c5 : mw_M → (Int32 → mw_M → Prop) → Prop} (hc5 : ∀  (μ : mw_M) (Q : Int32 → mw_M → Prop), c5 μ Q → mw_Mi l G kdM yX11_product cX11_product 4 (some .int) fr lo [.ref (mw_a G 0)] μ (Q))  {μ : mw_M} {Q : Int32 → mw_M → Prop}  (hO : S11_sums c5 μ Q) : mw_Mi l G kdM yX11_sums cX11_sums 4 (some .int) (fr + 1) (lo + 24) [.ref (mw_a G 0)] μ (Q) := by
  refine mw_enter [(0, .ref (mw_a G 0))] RX11 (by decide) rfl (Nat.le_of_ble_eq_true rfl) rfl ?_
  intro p e s m args below meth c hC
  unfold S11_sums at hO
  refine r_aload_n hC 0 dX11_sums_0 rfl rfl ?_
  refine r_callVi hC [] (hc5  _ _ hO) yv11_product ml11_217 ob11 rfl (by constructor <;> (simp only [mw_rm]; omega)) rfl rfl (Nat.le_of_ble_eq_true rfl) dX11_sums_1 (fun r1 μ2 hO => ?_)
  refine r_istore_n hC [(1, .int r1), (0, .ref (mw_a G 0))] dX11_sums_4 rfl (by decide) rfl ?_
  have hLn5 : ∀   (n5 : Nat) (v3 : Int32) (μ4 : mw_M), L11_sums_5 c5 Q n5 v3 μ4 → mw_W p l e (mw_rm (fr + 1) (lo + 24)) s m args below meth c G kdM 4 (MQ below (va_Qi (Q) (mw_B G kdM) (mw_A G kdM)) args s 0 0 (mw_A G kdM)) 5 [(1, .int v3), (0, .ref (mw_a G 0))] [] μ4 := by
    intro   n5
    induction n5 with
    | zero => intro v3 μ4 hO; exact False.elim hO
    | succ n5 ihn5 =>
      intro v3 μ4 hO
      refine r_aload_n hC 1 dX11_sums_5 rfl rfl ?_
      refine r_getI hC fl11_199 ob11 rfl dX11_sums_6 ?_
      refine r_if_ge hC 77 dX11_sums_9 (by decide) (fun h6 => ?_) (fun h6 => ?_)
      · have hO := hO.1 h6
        refine r_iload_n hC 0 dX11_sums_77 rfl rfl ?_
        exact r_iret hC rfl dX11_sums_78 hO
      · have hO := hO.2 h6
        refine r_aload_n hC 1 dX11_sums_12 rfl rfl ?_
        refine r_callVi hC [] (T11_byteAt  hO) yv11_byteAt ml11_202 ob11 rfl (by constructor <;> (simp only [mw_rm]; omega)) rfl rfl (Nat.le_of_ble_eq_true rfl) dX11_sums_13 (fun r7 μ8 hO => ?_)
        obtain ⟨hO, hm⟩ := hO
        refine r_memEq hm ?_
        refine r_bipush hC 43 dX11_sums_16 (by decide) ?_
        refine r_icmp_eq hC 30 dX11_sums_18 (by decide) (fun h9 => ?_) (fun h9 => ?_)
        · have hO := hO.1 h9
          refine r_aload_n hC 1 dX11_sums_30 rfl rfl ?_
          refine r_callVi hC [] (T11_byteAt  hO) yv11_byteAt ml11_202 ob11 rfl (by constructor <;> (simp only [mw_rm]; omega)) rfl rfl (Nat.le_of_ble_eq_true rfl) dX11_sums_31 (fun r10 μ11 hO => ?_)
          obtain ⟨hO, hm⟩ := hO
          refine r_memEq hm ?_
          refine r_bipush hC 43 dX11_sums_34 (by decide) ?_
          refine r_icmp_ne hC 43 dX11_sums_36 (by decide) (fun h12 => ?_) (fun h12 => ?_)
          · have hO := hO.2 h12
            refine r_iconst hC 0 dX11_sums_43 (by decide) ?_
            refine r_istore_n hC [(2, .int 0), (1, .int v3), (0, .ref (mw_a G 0))] dX11_sums_44 rfl (by decide) rfl ?_
            refine r_aload_n hC 2 dX11_sums_45 rfl rfl ?_
            refine r_dup hC dX11_sums_46 rfl ?_
            refine r_getI hC fl11_190 ob11 rfl dX11_sums_47 ?_
            refine r_iconst hC 1 dX11_sums_50 (by decide) ?_
            refine r_iadd hC dX11_sums_51 ?_
            refine r_putI hC fl11_190 ob11 rfl rfl rfl dX11_sums_52 ?_
            refine r_nmM (fun μ13 hμ13 => ?_)
            have hO := hO μ13 hμ13
            refine r_aload_n hC 2 dX11_sums_55 rfl rfl ?_
            refine r_callVi hC [] (hc5  _ _ hO) yv11_product ml11_217 ob11 rfl (by constructor <;> (simp only [mw_rm]; omega)) rfl rfl (Nat.le_of_ble_eq_true rfl) dX11_sums_56 (fun r14 μ15 hO => ?_)
            refine r_istore_n hC [(3, .int r14), (2, .int 0), (1, .int v3), (0, .ref (mw_a G 0))] dX11_sums_59 rfl (by decide) rfl ?_
            refine r_iload_n hC 1 dX11_sums_60 rfl rfl ?_
            refine r_if_eq hC 70 dX11_sums_61 (by decide) (fun _ => ?_) (fun h => absurd (by decide) h)
            refine r_iload_n hC 2 dX11_sums_70 rfl rfl ?_
            refine r_iload_n hC 0 dX11_sums_71 rfl rfl ?_
            refine r_isub hC dX11_sums_72 ?_
            refine r_nmI (fun x16 hx16 => ?_)
            have hO := hO x16 hx16
            refine r_istore_n hC [(1, .int x16), (3, .int r14), (2, .int 0), (0, .ref (mw_a G 0))] dX11_sums_73 rfl (by decide) rfl ?_
            refine r_goto hC 5 dX11_sums_74 (by decide) ?_
            refine r_lv hC [(1, .int x16), (0, .ref (mw_a G 0))] [0, 3] rfl ?_
            exact ihn5 x16 μ15 hO
          · have hO := hO.1 h12
            refine r_iconst hC 1 dX11_sums_39 (by decide) ?_
            refine r_goto hC 44 dX11_sums_40 (by decide) ?_
            refine r_istore_n hC [(2, .int 1), (1, .int v3), (0, .ref (mw_a G 0))] dX11_sums_44 rfl (by decide) rfl ?_
            refine r_aload_n hC 2 dX11_sums_45 rfl rfl ?_
            refine r_dup hC dX11_sums_46 rfl ?_
            refine r_getI hC fl11_190 ob11 rfl dX11_sums_47 ?_
            refine r_iconst hC 1 dX11_sums_50 (by decide) ?_
            refine r_iadd hC dX11_sums_51 ?_
            refine r_putI hC fl11_190 ob11 rfl rfl rfl dX11_sums_52 ?_
            refine r_nmM (fun μ17 hμ17 => ?_)
            have hO := hO μ17 hμ17
            refine r_aload_n hC 2 dX11_sums_55 rfl rfl ?_
            refine r_callVi hC [] (hc5  _ _ hO) yv11_product ml11_217 ob11 rfl (by constructor <;> (simp only [mw_rm]; omega)) rfl rfl (Nat.le_of_ble_eq_true rfl) dX11_sums_56 (fun r18 μ19 hO => ?_)
            refine r_istore_n hC [(3, .int r18), (2, .int 1), (1, .int v3), (0, .ref (mw_a G 0))] dX11_sums_59 rfl (by decide) rfl ?_
            refine r_iload_n hC 1 dX11_sums_60 rfl rfl ?_
            refine r_if_eq hC 70 dX11_sums_61 (by decide) (fun h => absurd h (by decide)) (fun _ => ?_)
            refine r_iload_n hC 2 dX11_sums_64 rfl rfl ?_
            refine r_iload_n hC 0 dX11_sums_65 rfl rfl ?_
            refine r_iadd hC dX11_sums_66 ?_
            refine r_goto hC 73 dX11_sums_67 (by decide) ?_
            refine r_nmI (fun x20 hx20 => ?_)
            have hO := hO x20 hx20
            refine r_istore_n hC [(1, .int x20), (3, .int r18), (2, .int 1), (0, .ref (mw_a G 0))] dX11_sums_73 rfl (by decide) rfl ?_
            refine r_goto hC 5 dX11_sums_74 (by decide) ?_
            refine r_lv hC [(1, .int x20), (0, .ref (mw_a G 0))] [0, 3] rfl ?_
            exact ihn5 x20 μ19 hO
        · have hO := hO.2 h9
          refine r_aload_n hC 1 dX11_sums_21 rfl rfl ?_
          refine r_callVi hC [] (T11_byteAt  hO) yv11_byteAt ml11_202 ob11 rfl (by constructor <;> (simp only [mw_rm]; omega)) rfl rfl (Nat.le_of_ble_eq_true rfl) dX11_sums_22 (fun r21 μ22 hO => ?_)
          obtain ⟨hO, hm⟩ := hO
          refine r_memEq hm ?_
          refine r_bipush hC 45 dX11_sums_25 (by decide) ?_
          refine r_icmp_ne hC 77 dX11_sums_27 (by decide) (fun h23 => ?_) (fun h23 => ?_)
          · have hO := hO.2 h23
            refine r_iload_n hC 0 dX11_sums_77 rfl rfl ?_
            exact r_iret hC rfl dX11_sums_78 hO
          · have hO := hO.1 h23
            refine r_aload_n hC 1 dX11_sums_30 rfl rfl ?_
            refine r_callVi hC [] (T11_byteAt  hO) yv11_byteAt ml11_202 ob11 rfl (by constructor <;> (simp only [mw_rm]; omega)) rfl rfl (Nat.le_of_ble_eq_true rfl) dX11_sums_31 (fun r24 μ25 hO => ?_)
            obtain ⟨hO, hm⟩ := hO
            refine r_memEq hm ?_
            refine r_bipush hC 43 dX11_sums_34 (by decide) ?_
            refine r_icmp_ne hC 43 dX11_sums_36 (by decide) (fun h26 => ?_) (fun h26 => ?_)
            · have hO := hO.2 h26
              refine r_iconst hC 0 dX11_sums_43 (by decide) ?_
              refine r_istore_n hC [(2, .int 0), (1, .int v3), (0, .ref (mw_a G 0))] dX11_sums_44 rfl (by decide) rfl ?_
              refine r_aload_n hC 2 dX11_sums_45 rfl rfl ?_
              refine r_dup hC dX11_sums_46 rfl ?_
              refine r_getI hC fl11_190 ob11 rfl dX11_sums_47 ?_
              refine r_iconst hC 1 dX11_sums_50 (by decide) ?_
              refine r_iadd hC dX11_sums_51 ?_
              refine r_putI hC fl11_190 ob11 rfl rfl rfl dX11_sums_52 ?_
              refine r_nmM (fun μ27 hμ27 => ?_)
              have hO := hO μ27 hμ27
              refine r_aload_n hC 2 dX11_sums_55 rfl rfl ?_
              refine r_callVi hC [] (hc5  _ _ hO) yv11_product ml11_217 ob11 rfl (by constructor <;> (simp only [mw_rm]; omega)) rfl rfl (Nat.le_of_ble_eq_true rfl) dX11_sums_56 (fun r28 μ29 hO => ?_)
              refine r_istore_n hC [(3, .int r28), (2, .int 0), (1, .int v3), (0, .ref (mw_a G 0))] dX11_sums_59 rfl (by decide) rfl ?_
              refine r_iload_n hC 1 dX11_sums_60 rfl rfl ?_
              refine r_if_eq hC 70 dX11_sums_61 (by decide) (fun _ => ?_) (fun h => absurd (by decide) h)
              refine r_iload_n hC 2 dX11_sums_70 rfl rfl ?_
              refine r_iload_n hC 0 dX11_sums_71 rfl rfl ?_
              refine r_isub hC dX11_sums_72 ?_
              refine r_nmI (fun x30 hx30 => ?_)
              have hO := hO x30 hx30
              refine r_istore_n hC [(1, .int x30), (3, .int r28), (2, .int 0), (0, .ref (mw_a G 0))] dX11_sums_73 rfl (by decide) rfl ?_
              refine r_goto hC 5 dX11_sums_74 (by decide) ?_
              refine r_lv hC [(1, .int x30), (0, .ref (mw_a G 0))] [0, 3] rfl ?_
              exact ihn5 x30 μ29 hO
            · have hO := hO.1 h26
              refine r_iconst hC 1 dX11_sums_39 (by decide) ?_
              refine r_goto hC 44 dX11_sums_40 (by decide) ?_
              refine r_istore_n hC [(2, .int 1), (1, .int v3), (0, .ref (mw_a G 0))] dX11_sums_44 rfl (by decide) rfl ?_
              refine r_aload_n hC 2 dX11_sums_45 rfl rfl ?_
              refine r_dup hC dX11_sums_46 rfl ?_
              refine r_getI hC fl11_190 ob11 rfl dX11_sums_47 ?_
              refine r_iconst hC 1 dX11_sums_50 (by decide) ?_
              refine r_iadd hC dX11_sums_51 ?_
              refine r_putI hC fl11_190 ob11 rfl rfl rfl dX11_sums_52 ?_
              refine r_nmM (fun μ31 hμ31 => ?_)
              have hO := hO μ31 hμ31
              refine r_aload_n hC 2 dX11_sums_55 rfl rfl ?_
              refine r_callVi hC [] (hc5  _ _ hO) yv11_product ml11_217 ob11 rfl (by constructor <;> (simp only [mw_rm]; omega)) rfl rfl (Nat.le_of_ble_eq_true rfl) dX11_sums_56 (fun r32 μ33 hO => ?_)
              refine r_istore_n hC [(3, .int r32), (2, .int 1), (1, .int v3), (0, .ref (mw_a G 0))] dX11_sums_59 rfl (by decide) rfl ?_
              refine r_iload_n hC 1 dX11_sums_60 rfl rfl ?_
              refine r_if_eq hC 70 dX11_sums_61 (by decide) (fun h => absurd h (by decide)) (fun _ => ?_)
              refine r_iload_n hC 2 dX11_sums_64 rfl rfl ?_
              refine r_iload_n hC 0 dX11_sums_65 rfl rfl ?_
              refine r_iadd hC dX11_sums_66 ?_
              refine r_goto hC 73 dX11_sums_67 (by decide) ?_
              refine r_nmI (fun x34 hx34 => ?_)
              have hO := hO x34 hx34
              refine r_istore_n hC [(1, .int x34), (3, .int r32), (2, .int 1), (0, .ref (mw_a G 0))] dX11_sums_73 rfl (by decide) rfl ?_
              refine r_goto hC 5 dX11_sums_74 (by decide) ?_
              refine r_lv hC [(1, .int x34), (0, .ref (mw_a G 0))] [0, 3] rfl ?_
              exact ihn5 x34 μ33 hO
  obtain ⟨n5, hO⟩ := hO
  refine hLn5   n5 _ _ hO
set_option maxHeartbeats 4000000 in
set_option maxRecDepth 100000 in
theorem T11_product_s {l : Launch} {G : mw_G} {fr lo : Nat} (hfr : 2 ≤ fr) (hlo : 41 ≤ lo) {c6 : mw_M → (Int32 → mw_M → Prop) → Prop} (hc6 : ∀  (μ : mw_M) (Q : Int32 → mw_M → Prop), c6 μ Q → mw_Mi l G kdM yX11_one cX11_one 5 (some .int) fr lo [.ref (mw_a G 0)] μ (Q))  {μ : mw_M} {Q : Int32 → mw_M → Prop}  (hO : S11_product c6 μ Q) : mw_Mi l G kdM yX11_product cX11_product 4 (some .int) (fr + 1) (lo + 24) [.ref (mw_a G 0)] μ (Q) := by
  refine mw_enter [(0, .ref (mw_a G 0))] RX11 (by decide) rfl (Nat.le_of_ble_eq_true rfl) rfl ?_
  intro p e s m args below meth c hC
  unfold S11_product at hO
  refine r_aload_n hC 0 dX11_product_0 rfl rfl ?_
  refine r_callVi hC [] (hc6  _ _ hO) yv11_one ml11_220 ob11 rfl (by constructor <;> (simp only [mw_rm]; omega)) rfl rfl (Nat.le_of_ble_eq_true rfl) dX11_product_1 (fun r1 μ2 hO => ?_)
  refine r_istore_n hC [(1, .int r1), (0, .ref (mw_a G 0))] dX11_product_4 rfl (by decide) rfl ?_
  refine r_aload_n hC 1 dX11_product_5 rfl rfl ?_
  refine r_callVi hC [] (T11_byteAt  hO) yv11_byteAt ml11_202 ob11 rfl (by constructor <;> (simp only [mw_rm]; omega)) rfl rfl (Nat.le_of_ble_eq_true rfl) dX11_product_6 (fun r3 μ4 hO => ?_)
  obtain ⟨hO, hm⟩ := hO
  refine r_memEq hm ?_
  refine r_istore_n hC [(2, .int r3), (1, .int r1), (0, .ref (mw_a G 0))] dX11_product_9 rfl (by decide) rfl ?_
  have hLn8 : ∀   (n8 : Nat) (v5 : Int32) (v6 : Int32) (μ7 : mw_M), L11_product_10 c6 Q n8 v5 v6 μ7 → mw_W p l e (mw_rm (fr + 1) (lo + 24)) s m args below meth c G kdM 4 (MQ below (va_Qi (Q) (mw_B G kdM) (mw_A G kdM)) args s 0 0 (mw_A G kdM)) 10 [(2, .int v5), (1, .int v6), (0, .ref (mw_a G 0))] [] μ7 := by
    intro   n8
    induction n8 with
    | zero => intro v5 v6 μ7 hO; exact False.elim hO
    | succ n8 ihn8 =>
      intro v5 v6 μ7 hO
      refine r_aload_n hC 2 dX11_product_10 rfl rfl ?_
      refine r_getI hC fl11_199 ob11 rfl dX11_product_11 ?_
      refine r_if_ge hC 94 dX11_product_14 (by decide) (fun h9 => ?_) (fun h9 => ?_)
      · have hO := hO.1 h9
        refine r_iload_n hC 1 dX11_product_94 rfl rfl ?_
        exact r_iret hC rfl dX11_product_95 hO
      · have hO := hO.2 h9
        refine r_iload_n hC 0 dX11_product_17 rfl rfl ?_
        refine r_bipush hC 42 dX11_product_18 (by decide) ?_
        refine r_icmp_eq hC 35 dX11_product_20 (by decide) (fun h10 => ?_) (fun h10 => ?_)
        · have hO := hO.1 h10
          refine r_aload_n hC 2 dX11_product_35 rfl rfl ?_
          refine r_dup hC dX11_product_36 rfl ?_
          refine r_getI hC fl11_190 ob11 rfl dX11_product_37 ?_
          refine r_iconst hC 1 dX11_product_40 (by decide) ?_
          refine r_iadd hC dX11_product_41 ?_
          refine r_putI hC fl11_190 ob11 rfl rfl rfl dX11_product_42 ?_
          refine r_nmM (fun μ11 hμ11 => ?_)
          have hO := hO μ11 hμ11
          refine r_aload_n hC 2 dX11_product_45 rfl rfl ?_
          refine r_callVi hC [] (hc6  _ _ hO) yv11_one ml11_220 ob11 rfl (by constructor <;> (simp only [mw_rm]; omega)) rfl rfl (Nat.le_of_ble_eq_true rfl) dX11_product_46 (fun r12 μ13 hO => ?_)
          refine r_istore_n hC [(3, .int r12), (2, .int v5), (1, .int v6), (0, .ref (mw_a G 0))] dX11_product_49 rfl (by decide) rfl ?_
          refine r_iload_n hC 1 dX11_product_50 rfl rfl ?_
          refine r_bipush hC 42 dX11_product_51 (by decide) ?_
          refine r_icmp_ne hC 62 dX11_product_53 (by decide) (fun h14 => ?_) (fun h14 => ?_)
          · have hO := hO.2 h14
            refine r_iload_n hC 0 dX11_product_62 rfl rfl ?_
            refine r_if_ne hC 70 dX11_product_63 (by decide) (fun h15 => ?_) (fun h15 => ?_)
            · have hO := hO.2 h15
              refine r_iload_n hC 1 dX11_product_70 rfl rfl ?_
              refine r_bipush hC 47 dX11_product_71 (by decide) ?_
              refine r_icmp_ne hC 82 dX11_product_73 (by decide) (fun h16 => ?_) (fun h16 => ?_)
              · have hO := hO.2 h16
                refine r_iload_n hC 2 dX11_product_82 rfl rfl ?_
                refine r_iload_n hC 0 dX11_product_83 rfl rfl ?_
                obtain ⟨g17, hO⟩ := hO
                refine r_irem hC dX11_product_84 g17 ?_
                refine r_nmI (fun x18 hx18 => ?_)
                have hO := hO x18 hx18
                refine r_istore_n hC [(1, .int x18), (3, .int r12), (2, .int v5), (0, .ref (mw_a G 0))] dX11_product_85 rfl (by decide) rfl ?_
                refine r_aload_n hC 3 dX11_product_86 rfl rfl ?_
                refine r_callVi hC [] (T11_byteAt  hO) yv11_byteAt ml11_202 ob11 rfl (by constructor <;> (simp only [mw_rm]; omega)) rfl rfl (Nat.le_of_ble_eq_true rfl) dX11_product_87 (fun r19 μ20 hO => ?_)
                obtain ⟨hO, hm⟩ := hO
                refine r_memEq hm ?_
                refine r_istore_n hC [(2, .int r19), (1, .int x18), (3, .int r12), (0, .ref (mw_a G 0))] dX11_product_90 rfl (by decide) rfl ?_
                refine r_goto hC 10 dX11_product_91 (by decide) ?_
                refine r_lv hC [(2, .int r19), (1, .int x18), (0, .ref (mw_a G 0))] [0, 1, 3] rfl ?_
                exact ihn8 r19 x18 μ13 hO
              · have hO := hO.1 h16
                refine r_iload_n hC 2 dX11_product_76 rfl rfl ?_
                refine r_iload_n hC 0 dX11_product_77 rfl rfl ?_
                obtain ⟨g21, hO⟩ := hO
                refine r_idiv hC dX11_product_78 g21 ?_
                refine r_goto hC 85 dX11_product_79 (by decide) ?_
                refine r_nmI (fun x22 hx22 => ?_)
                have hO := hO x22 hx22
                refine r_istore_n hC [(1, .int x22), (3, .int r12), (2, .int v5), (0, .ref (mw_a G 0))] dX11_product_85 rfl (by decide) rfl ?_
                refine r_aload_n hC 3 dX11_product_86 rfl rfl ?_
                refine r_callVi hC [] (T11_byteAt  hO) yv11_byteAt ml11_202 ob11 rfl (by constructor <;> (simp only [mw_rm]; omega)) rfl rfl (Nat.le_of_ble_eq_true rfl) dX11_product_87 (fun r23 μ24 hO => ?_)
                obtain ⟨hO, hm⟩ := hO
                refine r_memEq hm ?_
                refine r_istore_n hC [(2, .int r23), (1, .int x22), (3, .int r12), (0, .ref (mw_a G 0))] dX11_product_90 rfl (by decide) rfl ?_
                refine r_goto hC 10 dX11_product_91 (by decide) ?_
                refine r_lv hC [(2, .int r23), (1, .int x22), (0, .ref (mw_a G 0))] [0, 1, 3] rfl ?_
                exact ihn8 r23 x22 μ13 hO
            · have hO := hO.1 h15
              refine r_iconst hC 0 dX11_product_66 (by decide) ?_
              refine r_goto hC 85 dX11_product_67 (by decide) ?_
              refine r_istore_n hC [(1, .int 0), (3, .int r12), (2, .int v5), (0, .ref (mw_a G 0))] dX11_product_85 rfl (by decide) rfl ?_
              refine r_aload_n hC 3 dX11_product_86 rfl rfl ?_
              refine r_callVi hC [] (T11_byteAt  hO) yv11_byteAt ml11_202 ob11 rfl (by constructor <;> (simp only [mw_rm]; omega)) rfl rfl (Nat.le_of_ble_eq_true rfl) dX11_product_87 (fun r25 μ26 hO => ?_)
              obtain ⟨hO, hm⟩ := hO
              refine r_memEq hm ?_
              refine r_istore_n hC [(2, .int r25), (1, .int 0), (3, .int r12), (0, .ref (mw_a G 0))] dX11_product_90 rfl (by decide) rfl ?_
              refine r_goto hC 10 dX11_product_91 (by decide) ?_
              refine r_lv hC [(2, .int r25), (1, .int 0), (0, .ref (mw_a G 0))] [0, 1, 3] rfl ?_
              exact ihn8 r25 0 μ13 hO
          · have hO := hO.1 h14
            refine r_iload_n hC 2 dX11_product_56 rfl rfl ?_
            refine r_iload_n hC 0 dX11_product_57 rfl rfl ?_
            refine r_imul hC dX11_product_58 ?_
            refine r_goto hC 85 dX11_product_59 (by decide) ?_
            refine r_nmI (fun x27 hx27 => ?_)
            have hO := hO x27 hx27
            refine r_istore_n hC [(1, .int x27), (3, .int r12), (2, .int v5), (0, .ref (mw_a G 0))] dX11_product_85 rfl (by decide) rfl ?_
            refine r_aload_n hC 3 dX11_product_86 rfl rfl ?_
            refine r_callVi hC [] (T11_byteAt  hO) yv11_byteAt ml11_202 ob11 rfl (by constructor <;> (simp only [mw_rm]; omega)) rfl rfl (Nat.le_of_ble_eq_true rfl) dX11_product_87 (fun r28 μ29 hO => ?_)
            obtain ⟨hO, hm⟩ := hO
            refine r_memEq hm ?_
            refine r_istore_n hC [(2, .int r28), (1, .int x27), (3, .int r12), (0, .ref (mw_a G 0))] dX11_product_90 rfl (by decide) rfl ?_
            refine r_goto hC 10 dX11_product_91 (by decide) ?_
            refine r_lv hC [(2, .int r28), (1, .int x27), (0, .ref (mw_a G 0))] [0, 1, 3] rfl ?_
            exact ihn8 r28 x27 μ13 hO
        · have hO := hO.2 h10
          refine r_iload_n hC 0 dX11_product_23 rfl rfl ?_
          refine r_bipush hC 47 dX11_product_24 (by decide) ?_
          refine r_icmp_eq hC 35 dX11_product_26 (by decide) (fun h30 => ?_) (fun h30 => ?_)
          · have hO := hO.1 h30
            refine r_aload_n hC 2 dX11_product_35 rfl rfl ?_
            refine r_dup hC dX11_product_36 rfl ?_
            refine r_getI hC fl11_190 ob11 rfl dX11_product_37 ?_
            refine r_iconst hC 1 dX11_product_40 (by decide) ?_
            refine r_iadd hC dX11_product_41 ?_
            refine r_putI hC fl11_190 ob11 rfl rfl rfl dX11_product_42 ?_
            refine r_nmM (fun μ31 hμ31 => ?_)
            have hO := hO μ31 hμ31
            refine r_aload_n hC 2 dX11_product_45 rfl rfl ?_
            refine r_callVi hC [] (hc6  _ _ hO) yv11_one ml11_220 ob11 rfl (by constructor <;> (simp only [mw_rm]; omega)) rfl rfl (Nat.le_of_ble_eq_true rfl) dX11_product_46 (fun r32 μ33 hO => ?_)
            refine r_istore_n hC [(3, .int r32), (2, .int v5), (1, .int v6), (0, .ref (mw_a G 0))] dX11_product_49 rfl (by decide) rfl ?_
            refine r_iload_n hC 1 dX11_product_50 rfl rfl ?_
            refine r_bipush hC 42 dX11_product_51 (by decide) ?_
            refine r_icmp_ne hC 62 dX11_product_53 (by decide) (fun h34 => ?_) (fun h34 => ?_)
            · have hO := hO.2 h34
              refine r_iload_n hC 0 dX11_product_62 rfl rfl ?_
              refine r_if_ne hC 70 dX11_product_63 (by decide) (fun h35 => ?_) (fun h35 => ?_)
              · have hO := hO.2 h35
                refine r_iload_n hC 1 dX11_product_70 rfl rfl ?_
                refine r_bipush hC 47 dX11_product_71 (by decide) ?_
                refine r_icmp_ne hC 82 dX11_product_73 (by decide) (fun h36 => ?_) (fun h36 => ?_)
                · have hO := hO.2 h36
                  refine r_iload_n hC 2 dX11_product_82 rfl rfl ?_
                  refine r_iload_n hC 0 dX11_product_83 rfl rfl ?_
                  obtain ⟨g37, hO⟩ := hO
                  refine r_irem hC dX11_product_84 g37 ?_
                  refine r_nmI (fun x38 hx38 => ?_)
                  have hO := hO x38 hx38
                  refine r_istore_n hC [(1, .int x38), (3, .int r32), (2, .int v5), (0, .ref (mw_a G 0))] dX11_product_85 rfl (by decide) rfl ?_
                  refine r_aload_n hC 3 dX11_product_86 rfl rfl ?_
                  refine r_callVi hC [] (T11_byteAt  hO) yv11_byteAt ml11_202 ob11 rfl (by constructor <;> (simp only [mw_rm]; omega)) rfl rfl (Nat.le_of_ble_eq_true rfl) dX11_product_87 (fun r39 μ40 hO => ?_)
                  obtain ⟨hO, hm⟩ := hO
                  refine r_memEq hm ?_
                  refine r_istore_n hC [(2, .int r39), (1, .int x38), (3, .int r32), (0, .ref (mw_a G 0))] dX11_product_90 rfl (by decide) rfl ?_
                  refine r_goto hC 10 dX11_product_91 (by decide) ?_
                  refine r_lv hC [(2, .int r39), (1, .int x38), (0, .ref (mw_a G 0))] [0, 1, 3] rfl ?_
                  exact ihn8 r39 x38 μ33 hO
                · have hO := hO.1 h36
                  refine r_iload_n hC 2 dX11_product_76 rfl rfl ?_
                  refine r_iload_n hC 0 dX11_product_77 rfl rfl ?_
                  obtain ⟨g41, hO⟩ := hO
                  refine r_idiv hC dX11_product_78 g41 ?_
                  refine r_goto hC 85 dX11_product_79 (by decide) ?_
                  refine r_nmI (fun x42 hx42 => ?_)
                  have hO := hO x42 hx42
                  refine r_istore_n hC [(1, .int x42), (3, .int r32), (2, .int v5), (0, .ref (mw_a G 0))] dX11_product_85 rfl (by decide) rfl ?_
                  refine r_aload_n hC 3 dX11_product_86 rfl rfl ?_
                  refine r_callVi hC [] (T11_byteAt  hO) yv11_byteAt ml11_202 ob11 rfl (by constructor <;> (simp only [mw_rm]; omega)) rfl rfl (Nat.le_of_ble_eq_true rfl) dX11_product_87 (fun r43 μ44 hO => ?_)
                  obtain ⟨hO, hm⟩ := hO
                  refine r_memEq hm ?_
                  refine r_istore_n hC [(2, .int r43), (1, .int x42), (3, .int r32), (0, .ref (mw_a G 0))] dX11_product_90 rfl (by decide) rfl ?_
                  refine r_goto hC 10 dX11_product_91 (by decide) ?_
                  refine r_lv hC [(2, .int r43), (1, .int x42), (0, .ref (mw_a G 0))] [0, 1, 3] rfl ?_
                  exact ihn8 r43 x42 μ33 hO
              · have hO := hO.1 h35
                refine r_iconst hC 0 dX11_product_66 (by decide) ?_
                refine r_goto hC 85 dX11_product_67 (by decide) ?_
                refine r_istore_n hC [(1, .int 0), (3, .int r32), (2, .int v5), (0, .ref (mw_a G 0))] dX11_product_85 rfl (by decide) rfl ?_
                refine r_aload_n hC 3 dX11_product_86 rfl rfl ?_
                refine r_callVi hC [] (T11_byteAt  hO) yv11_byteAt ml11_202 ob11 rfl (by constructor <;> (simp only [mw_rm]; omega)) rfl rfl (Nat.le_of_ble_eq_true rfl) dX11_product_87 (fun r45 μ46 hO => ?_)
                obtain ⟨hO, hm⟩ := hO
                refine r_memEq hm ?_
                refine r_istore_n hC [(2, .int r45), (1, .int 0), (3, .int r32), (0, .ref (mw_a G 0))] dX11_product_90 rfl (by decide) rfl ?_
                refine r_goto hC 10 dX11_product_91 (by decide) ?_
                refine r_lv hC [(2, .int r45), (1, .int 0), (0, .ref (mw_a G 0))] [0, 1, 3] rfl ?_
                exact ihn8 r45 0 μ33 hO
            · have hO := hO.1 h34
              refine r_iload_n hC 2 dX11_product_56 rfl rfl ?_
              refine r_iload_n hC 0 dX11_product_57 rfl rfl ?_
              refine r_imul hC dX11_product_58 ?_
              refine r_goto hC 85 dX11_product_59 (by decide) ?_
              refine r_nmI (fun x47 hx47 => ?_)
              have hO := hO x47 hx47
              refine r_istore_n hC [(1, .int x47), (3, .int r32), (2, .int v5), (0, .ref (mw_a G 0))] dX11_product_85 rfl (by decide) rfl ?_
              refine r_aload_n hC 3 dX11_product_86 rfl rfl ?_
              refine r_callVi hC [] (T11_byteAt  hO) yv11_byteAt ml11_202 ob11 rfl (by constructor <;> (simp only [mw_rm]; omega)) rfl rfl (Nat.le_of_ble_eq_true rfl) dX11_product_87 (fun r48 μ49 hO => ?_)
              obtain ⟨hO, hm⟩ := hO
              refine r_memEq hm ?_
              refine r_istore_n hC [(2, .int r48), (1, .int x47), (3, .int r32), (0, .ref (mw_a G 0))] dX11_product_90 rfl (by decide) rfl ?_
              refine r_goto hC 10 dX11_product_91 (by decide) ?_
              refine r_lv hC [(2, .int r48), (1, .int x47), (0, .ref (mw_a G 0))] [0, 1, 3] rfl ?_
              exact ihn8 r48 x47 μ33 hO
          · have hO := hO.2 h30
            refine r_iload_n hC 0 dX11_product_29 rfl rfl ?_
            refine r_bipush hC 37 dX11_product_30 (by decide) ?_
            refine r_icmp_ne hC 94 dX11_product_32 (by decide) (fun h50 => ?_) (fun h50 => ?_)
            · have hO := hO.2 h50
              refine r_iload_n hC 1 dX11_product_94 rfl rfl ?_
              exact r_iret hC rfl dX11_product_95 hO
            · have hO := hO.1 h50
              refine r_aload_n hC 2 dX11_product_35 rfl rfl ?_
              refine r_dup hC dX11_product_36 rfl ?_
              refine r_getI hC fl11_190 ob11 rfl dX11_product_37 ?_
              refine r_iconst hC 1 dX11_product_40 (by decide) ?_
              refine r_iadd hC dX11_product_41 ?_
              refine r_putI hC fl11_190 ob11 rfl rfl rfl dX11_product_42 ?_
              refine r_nmM (fun μ51 hμ51 => ?_)
              have hO := hO μ51 hμ51
              refine r_aload_n hC 2 dX11_product_45 rfl rfl ?_
              refine r_callVi hC [] (hc6  _ _ hO) yv11_one ml11_220 ob11 rfl (by constructor <;> (simp only [mw_rm]; omega)) rfl rfl (Nat.le_of_ble_eq_true rfl) dX11_product_46 (fun r52 μ53 hO => ?_)
              refine r_istore_n hC [(3, .int r52), (2, .int v5), (1, .int v6), (0, .ref (mw_a G 0))] dX11_product_49 rfl (by decide) rfl ?_
              refine r_iload_n hC 1 dX11_product_50 rfl rfl ?_
              refine r_bipush hC 42 dX11_product_51 (by decide) ?_
              refine r_icmp_ne hC 62 dX11_product_53 (by decide) (fun h54 => ?_) (fun h54 => ?_)
              · have hO := hO.2 h54
                refine r_iload_n hC 0 dX11_product_62 rfl rfl ?_
                refine r_if_ne hC 70 dX11_product_63 (by decide) (fun h55 => ?_) (fun h55 => ?_)
                · have hO := hO.2 h55
                  refine r_iload_n hC 1 dX11_product_70 rfl rfl ?_
                  refine r_bipush hC 47 dX11_product_71 (by decide) ?_
                  refine r_icmp_ne hC 82 dX11_product_73 (by decide) (fun h56 => ?_) (fun h56 => ?_)
                  · have hO := hO.2 h56
                    refine r_iload_n hC 2 dX11_product_82 rfl rfl ?_
                    refine r_iload_n hC 0 dX11_product_83 rfl rfl ?_
                    obtain ⟨g57, hO⟩ := hO
                    refine r_irem hC dX11_product_84 g57 ?_
                    refine r_nmI (fun x58 hx58 => ?_)
                    have hO := hO x58 hx58
                    refine r_istore_n hC [(1, .int x58), (3, .int r52), (2, .int v5), (0, .ref (mw_a G 0))] dX11_product_85 rfl (by decide) rfl ?_
                    refine r_aload_n hC 3 dX11_product_86 rfl rfl ?_
                    refine r_callVi hC [] (T11_byteAt  hO) yv11_byteAt ml11_202 ob11 rfl (by constructor <;> (simp only [mw_rm]; omega)) rfl rfl (Nat.le_of_ble_eq_true rfl) dX11_product_87 (fun r59 μ60 hO => ?_)
                    obtain ⟨hO, hm⟩ := hO
                    refine r_memEq hm ?_
                    refine r_istore_n hC [(2, .int r59), (1, .int x58), (3, .int r52), (0, .ref (mw_a G 0))] dX11_product_90 rfl (by decide) rfl ?_
                    refine r_goto hC 10 dX11_product_91 (by decide) ?_
                    refine r_lv hC [(2, .int r59), (1, .int x58), (0, .ref (mw_a G 0))] [0, 1, 3] rfl ?_
                    exact ihn8 r59 x58 μ53 hO
                  · have hO := hO.1 h56
                    refine r_iload_n hC 2 dX11_product_76 rfl rfl ?_
                    refine r_iload_n hC 0 dX11_product_77 rfl rfl ?_
                    obtain ⟨g61, hO⟩ := hO
                    refine r_idiv hC dX11_product_78 g61 ?_
                    refine r_goto hC 85 dX11_product_79 (by decide) ?_
                    refine r_nmI (fun x62 hx62 => ?_)
                    have hO := hO x62 hx62
                    refine r_istore_n hC [(1, .int x62), (3, .int r52), (2, .int v5), (0, .ref (mw_a G 0))] dX11_product_85 rfl (by decide) rfl ?_
                    refine r_aload_n hC 3 dX11_product_86 rfl rfl ?_
                    refine r_callVi hC [] (T11_byteAt  hO) yv11_byteAt ml11_202 ob11 rfl (by constructor <;> (simp only [mw_rm]; omega)) rfl rfl (Nat.le_of_ble_eq_true rfl) dX11_product_87 (fun r63 μ64 hO => ?_)
                    obtain ⟨hO, hm⟩ := hO
                    refine r_memEq hm ?_
                    refine r_istore_n hC [(2, .int r63), (1, .int x62), (3, .int r52), (0, .ref (mw_a G 0))] dX11_product_90 rfl (by decide) rfl ?_
                    refine r_goto hC 10 dX11_product_91 (by decide) ?_
                    refine r_lv hC [(2, .int r63), (1, .int x62), (0, .ref (mw_a G 0))] [0, 1, 3] rfl ?_
                    exact ihn8 r63 x62 μ53 hO
                · have hO := hO.1 h55
                  refine r_iconst hC 0 dX11_product_66 (by decide) ?_
                  refine r_goto hC 85 dX11_product_67 (by decide) ?_
                  refine r_istore_n hC [(1, .int 0), (3, .int r52), (2, .int v5), (0, .ref (mw_a G 0))] dX11_product_85 rfl (by decide) rfl ?_
                  refine r_aload_n hC 3 dX11_product_86 rfl rfl ?_
                  refine r_callVi hC [] (T11_byteAt  hO) yv11_byteAt ml11_202 ob11 rfl (by constructor <;> (simp only [mw_rm]; omega)) rfl rfl (Nat.le_of_ble_eq_true rfl) dX11_product_87 (fun r65 μ66 hO => ?_)
                  obtain ⟨hO, hm⟩ := hO
                  refine r_memEq hm ?_
                  refine r_istore_n hC [(2, .int r65), (1, .int 0), (3, .int r52), (0, .ref (mw_a G 0))] dX11_product_90 rfl (by decide) rfl ?_
                  refine r_goto hC 10 dX11_product_91 (by decide) ?_
                  refine r_lv hC [(2, .int r65), (1, .int 0), (0, .ref (mw_a G 0))] [0, 1, 3] rfl ?_
                  exact ihn8 r65 0 μ53 hO
              · have hO := hO.1 h54
                refine r_iload_n hC 2 dX11_product_56 rfl rfl ?_
                refine r_iload_n hC 0 dX11_product_57 rfl rfl ?_
                refine r_imul hC dX11_product_58 ?_
                refine r_goto hC 85 dX11_product_59 (by decide) ?_
                refine r_nmI (fun x67 hx67 => ?_)
                have hO := hO x67 hx67
                refine r_istore_n hC [(1, .int x67), (3, .int r52), (2, .int v5), (0, .ref (mw_a G 0))] dX11_product_85 rfl (by decide) rfl ?_
                refine r_aload_n hC 3 dX11_product_86 rfl rfl ?_
                refine r_callVi hC [] (T11_byteAt  hO) yv11_byteAt ml11_202 ob11 rfl (by constructor <;> (simp only [mw_rm]; omega)) rfl rfl (Nat.le_of_ble_eq_true rfl) dX11_product_87 (fun r68 μ69 hO => ?_)
                obtain ⟨hO, hm⟩ := hO
                refine r_memEq hm ?_
                refine r_istore_n hC [(2, .int r68), (1, .int x67), (3, .int r52), (0, .ref (mw_a G 0))] dX11_product_90 rfl (by decide) rfl ?_
                refine r_goto hC 10 dX11_product_91 (by decide) ?_
                refine r_lv hC [(2, .int r68), (1, .int x67), (0, .ref (mw_a G 0))] [0, 1, 3] rfl ?_
                exact ihn8 r68 x67 μ53 hO
  obtain ⟨n8, hO⟩ := hO
  refine hLn8   n8 _ _ _ hO
