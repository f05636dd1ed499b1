set_option maxHeartbeats 4000000 in
set_option maxRecDepth 100000 in
theorem T11_clingsAs_s {l : Launch} {G : mw_G} {fr lo : Nat} (hfr : 1 ≤ fr) (hlo : 21 ≤ lo) {c1 : Int32 → Int32 → mw_M → (Int32 → mw_M → Prop) → Prop} (hc1 : ∀ (p1 : Int32) (p2 : Int32) (μ : mw_M) (Q : Int32 → mw_M → Prop), c1 p1 p2 μ Q → mw_Mi l G kdM yX11_clingsAs cX11_clingsAs 3 (some .int) fr lo [.ref (mw_a G 0), .int p1, .int p2] μ (Q)) {p1 : Int32} {p2 : Int32} {μ : mw_M} {Q : Int32 → mw_M → Prop}  (hO : S11_clingsAs c1 p1 p2 μ Q) : mw_Mi l G kdM yX11_clingsAs cX11_clingsAs 3 (some .int) (fr + 1) (lo + 22) [.ref (mw_a G 0), .int p1, .int p2] μ (Q) := by
  refine mw_enter [(0, .ref (mw_a G 0)), (1, .int p1), (2, .int p2)] RX11 (by decide) rfl (Nat.le_of_ble_eq_true rfl) rfl ?_
  intro p e s m args below meth c hC
  unfold S11_clingsAs at hO
  refine r_iload_n hC 1 dX11_clingsAs_0 rfl rfl ?_
  refine r_iconst hC 1 dX11_clingsAs_1 (by decide) ?_
  refine r_icmp_eq hC 10 dX11_clingsAs_2 (by decide) (fun h1 => ?_) (fun h1 => ?_)
  · have hO := hO.1 h1
    refine r_aload_n hC 0 dX11_clingsAs_10 rfl rfl ?_
    refine r_bipush hC 20 dX11_clingsAs_11 (by decide) ?_
    refine r_callVv hC [.int 20] (T11_begins  hO) yv11_begins ml11_374 ob11 rfl (by constructor <;> (simp only [mw_rm]; omega)) rfl rfl (Nat.le_of_ble_eq_true rfl) dX11_clingsAs_13 (fun μ2 hO => ?_)
    refine r_aload_n hC 0 dX11_clingsAs_16 rfl rfl ?_
    refine r_iconst hC 0 dX11_clingsAs_17 (by decide) ?_
    refine r_iload_n hC 2 dX11_clingsAs_18 rfl rfl ?_
    refine r_callVi hC [.int 0, .int p2] (hc1 _ _ _ _ hO) yv11_clingsAs ml11_378 ob11 rfl (by constructor <;> (simp only [mw_rm]; omega)) rfl rfl (Nat.le_of_ble_eq_true rfl) dX11_clingsAs_19 (fun r3 μ4 hO => ?_)
    refine r_iconst hC 3 dX11_clingsAs_22 (by decide) ?_
    refine r_iadd hC dX11_clingsAs_23 ?_
    exact r_iret hC rfl dX11_clingsAs_24 hO
  · have hO := hO.2 h1
    refine r_iload_n hC 1 dX11_clingsAs_5 rfl rfl ?_
    refine r_iconst hC 5 dX11_clingsAs_6 (by decide) ?_
    refine r_icmp_ne hC 25 dX11_clingsAs_7 (by decide) (fun h5 => ?_) (fun h5 => ?_)
    · have hO := hO.2 h5
      refine r_iload_n hC 1 dX11_clingsAs_25 rfl rfl ?_
      refine r_bipush hC 6 dX11_clingsAs_26 (by decide) ?_
      refine r_icmp_ne hC 46 dX11_clingsAs_28 (by decide) (fun h6 => ?_) (fun h6 => ?_)
      · have hO := hO.2 h6
        refine r_aload_n hC 0 dX11_clingsAs_46 rfl rfl ?_
        refine r_iconst hC 1 dX11_clingsAs_47 (by decide) ?_
        refine r_callVv hC [.int 1] (T11_begins  hO) yv11_begins ml11_374 ob11 rfl (by constructor <;> (simp only [mw_rm]; omega)) rfl rfl (Nat.le_of_ble_eq_true rfl) dX11_clingsAs_48 (fun μ7 hO => ?_)
        refine r_iload_n hC 2 dX11_clingsAs_51 rfl rfl ?_
        refine r_aload_n hC 0 dX11_clingsAs_52 rfl rfl ?_
        refine r_getI hC fl11_381 ob11 rfl dX11_clingsAs_53 ?_
        refine r_iadd hC dX11_clingsAs_56 ?_
        exact r_iret hC rfl dX11_clingsAs_57 hO
      · have hO := hO.1 h6
        refine r_aload_n hC 0 dX11_clingsAs_31 rfl rfl ?_
        refine r_bipush hC 70 dX11_clingsAs_32 (by decide) ?_
        refine r_callVv hC [.int 70] (T11_begins  hO) yv11_begins ml11_374 ob11 rfl (by constructor <;> (simp only [mw_rm]; omega)) rfl rfl (Nat.le_of_ble_eq_true rfl) dX11_clingsAs_34 (fun μ8 hO => ?_)
        refine r_aload_n hC 0 dX11_clingsAs_37 rfl rfl ?_
        refine r_iconst hC 4 dX11_clingsAs_38 (by decide) ?_
        refine r_iload_n hC 2 dX11_clingsAs_39 rfl rfl ?_
        refine r_callVi hC [.int 4, .int p2] (hc1 _ _ _ _ hO) yv11_clingsAs ml11_378 ob11 rfl (by constructor <;> (simp only [mw_rm]; omega)) rfl rfl (Nat.le_of_ble_eq_true rfl) dX11_clingsAs_40 (fun r9 μ10 hO => ?_)
        refine r_iconst hC 2 dX11_clingsAs_43 (by decide) ?_
        refine r_imul hC dX11_clingsAs_44 ?_
        exact r_iret hC rfl dX11_clingsAs_45 hO
    · have hO := hO.1 h5
      refine r_aload_n hC 0 dX11_clingsAs_10 rfl rfl ?_
      refine r_bipush hC 20 dX11_clingsAs_11 (by decide) ?_
      refine r_callVv hC [.int 20] (T11_begins  hO) yv11_begins ml11_374 ob11 rfl (by constructor <;> (simp only [mw_rm]; omega)) rfl rfl (Nat.le_of_ble_eq_true rfl) dX11_clingsAs_13 (fun μ11 hO => ?_)
      refine r_aload_n hC 0 dX11_clingsAs_16 rfl rfl ?_
      refine r_iconst hC 0 dX11_clingsAs_17 (by decide) ?_
      refine r_iload_n hC 2 dX11_clingsAs_18 rfl rfl ?_
      refine r_callVi hC [.int 0, .int p2] (hc1 _ _ _ _ hO) yv11_clingsAs ml11_378 ob11 rfl (by constructor <;> (simp only [mw_rm]; omega)) rfl rfl (Nat.le_of_ble_eq_true rfl) dX11_clingsAs_19 (fun r12 μ13 hO => ?_)
      refine r_iconst hC 3 dX11_clingsAs_22 (by decide) ?_
      refine r_iadd hC dX11_clingsAs_23 ?_
      exact r_iret hC rfl dX11_clingsAs_24 hO
set_option maxHeartbeats 4000000 in
theorem TG3 {l : Launch} {G : mw_G} (n : Nat) : (∀ (p1 : Int32) (p2 : Int32) (μ : mw_M) (Q : Int32 → mw_M → Prop), (G3 n) p1 p2 μ Q → mw_Mi l G kdM yX11_clingsAs cX11_clingsAs 3 (some .int) (n + 1) (n * 22 + 21) [.ref (mw_a G 0), .int p1, .int p2] μ (Q)) := by
  induction n with
  | zero => exact fun _ _ _ _ hO => False.elim hO
  | succ n ih =>
    exact (fun p1 p2 μ Q hO => by
      have h := T11_clingsAs_s (l := l) (G := G) (fr := n + 1) (lo := n * 22 + 21) (by omega) (by omega) ih hO
      rw [show n + 1 + 1 = n + 1 + 1 by omega, show (n + 1) * 22 + 21 = n * 22 + 21 + 22 by omega]
      exact h)
theorem T11_clingsAs {l : Launch} {G : mw_G} {p1 : Int32} {p2 : Int32} {μ : mw_M} {Q : Int32 → mw_M → Prop} (hO : P11_clingsAs p1 p2 μ Q) : mw_Mi l G kdM yX11_clingsAs cX11_clingsAs 3 (some .int) 9 197 [.ref (mw_a G 0), .int p1, .int p2] μ (Q) := (TG3 (l := l) (G := G) 8) _ _ _ _ hO
set_option maxHeartbeats 4000000 in
set_option maxRecDepth 100000 in
theorem T11_hopsAs_s {l : Launch} {G : mw_G} {fr lo : Nat} (hfr : 10 ≤ fr) (hlo : 219 ≤ lo) {c1 : Int32 → Int32 → mw_M → (Int32 → mw_M → Prop) → Prop} (hc1 : ∀ (p1 : Int32) (p2 : Int32) (μ : mw_M) (Q : Int32 → mw_M → Prop), c1 p1 p2 μ Q → mw_Mi l G kdM yX11_hopsAs cX11_hopsAs 4 (some .int) fr lo [.ref (mw_a G 0), .int p1, .int p2] μ (Q)) {p1 : Int32} {p2 : Int32} {μ : mw_M} {Q : Int32 → mw_M → Prop}  (hO : S11_hopsAs c1 p1 p2 μ Q) : mw_Mi l G kdM yX11_hopsAs cX11_hopsAs 4 (some .int) (fr + 1) (lo + 23) [.ref (mw_a G 0), .int p1, .int p2] μ (Q) := by
  refine mw_enter [(0, .ref (mw_a G 0)), (1, .int p1), (2, .int p2)] RX11 (by decide) rfl (Nat.le_of_ble_eq_true rfl) rfl ?_
  intro p e s m args below meth c hC
  unfold S11_hopsAs at hO
  refine r_iload_n hC 1 dX11_hopsAs_0 rfl rfl ?_
  refine r_iconst hC 3 dX11_hopsAs_1 (by decide) ?_
  refine r_icmp_ne hC 20 dX11_hopsAs_2 (by decide) (fun h1 => ?_) (fun h1 => ?_)
  · have hO := hO.2 h1
    refine r_iload_n hC 1 dX11_hopsAs_20 rfl rfl ?_
    refine r_iconst hC 4 dX11_hopsAs_21 (by decide) ?_
    refine r_icmp_eq hC 31 dX11_hopsAs_22 (by decide) (fun h2 => ?_) (fun h2 => ?_)
    · have hO := hO.1 h2
      refine r_aload_n hC 0 dX11_hopsAs_31 rfl rfl ?_
      refine r_bipush hC 50 dX11_hopsAs_32 (by decide) ?_
      refine r_callVv hC [.int 50] (T11_begins  hO) yv11_begins ml11_374 ob11 rfl (by constructor <;> (simp only [mw_rm]; omega)) rfl rfl (Nat.le_of_ble_eq_true rfl) dX11_hopsAs_34 (fun μ3 hO => ?_)
      refine r_aload_n hC 0 dX11_hopsAs_37 rfl rfl ?_
      refine r_iconst hC 0 dX11_hopsAs_38 (by decide) ?_
      refine r_iload_n hC 2 dX11_hopsAs_39 rfl rfl ?_
      refine r_callVi hC [.int 0, .int p2] (hc1 _ _ _ _ hO) yv11_hopsAs ml11_390 ob11 rfl (by constructor <;> (simp only [mw_rm]; omega)) rfl rfl (Nat.le_of_ble_eq_true rfl) dX11_hopsAs_40 (fun r4 μ5 hO => ?_)
      refine r_istore_n hC [(3, .int r4), (0, .ref (mw_a G 0)), (1, .int p1), (2, .int p2)] dX11_hopsAs_43 rfl (by decide) rfl ?_
      refine r_iload_n hC 0 dX11_hopsAs_44 rfl rfl ?_
      refine r_aload_n hC 1 dX11_hopsAs_45 rfl rfl ?_
      refine r_aload_n hC 1 dX11_hopsAs_46 rfl rfl ?_
      refine r_getI hC fl11_387 ob11 rfl dX11_hopsAs_47 ?_
      refine r_iconst hC 2 dX11_hopsAs_50 (by decide) ?_
      refine r_callVi hC [.int (μ5.1 0 57), .int 2] (T11_clingsAs  hO) yv11_clingsAs ml11_378 ob11 rfl (by constructor <;> (simp only [mw_rm]; omega)) rfl rfl (Nat.le_of_ble_eq_true rfl) dX11_hopsAs_51 (fun r6 μ7 hO => ?_)
      refine r_isub hC dX11_hopsAs_54 ?_
      exact r_iret hC rfl dX11_hopsAs_55 hO
    · have hO := hO.2 h2
      refine r_iload_n hC 1 dX11_hopsAs_25 rfl rfl ?_
      refine r_bipush hC 6 dX11_hopsAs_26 (by decide) ?_
      refine r_icmp_ne hC 56 dX11_hopsAs_28 (by decide) (fun h8 => ?_) (fun h8 => ?_)
      · have hO := hO.2 h8
        refine r_aload_n hC 0 dX11_hopsAs_56 rfl rfl ?_
        refine r_bipush hC 11 dX11_hopsAs_57 (by decide) ?_
        refine r_callVv hC [.int 11] (T11_begins  hO) yv11_begins ml11_374 ob11 rfl (by constructor <;> (simp only [mw_rm]; omega)) rfl rfl (Nat.le_of_ble_eq_true rfl) dX11_hopsAs_59 (fun μ9 hO => ?_)
        refine r_iload_n hC 2 dX11_hopsAs_62 rfl rfl ?_
        refine r_aload_n hC 0 dX11_hopsAs_63 rfl rfl ?_
        refine r_getI hC fl11_381 ob11 rfl dX11_hopsAs_64 ?_
        refine r_ixor hC dX11_hopsAs_67 ?_
        exact r_iret hC rfl dX11_hopsAs_68 hO
      · have hO := hO.1 h8
        refine r_aload_n hC 0 dX11_hopsAs_31 rfl rfl ?_
        refine r_bipush hC 50 dX11_hopsAs_32 (by decide) ?_
        refine r_callVv hC [.int 50] (T11_begins  hO) yv11_begins ml11_374 ob11 rfl (by constructor <;> (simp only [mw_rm]; omega)) rfl rfl (Nat.le_of_ble_eq_true rfl) dX11_hopsAs_34 (fun μ10 hO => ?_)
        refine r_aload_n hC 0 dX11_hopsAs_37 rfl rfl ?_
        refine r_iconst hC 0 dX11_hopsAs_38 (by decide) ?_
        refine r_iload_n hC 2 dX11_hopsAs_39 rfl rfl ?_
        refine r_callVi hC [.int 0, .int p2] (hc1 _ _ _ _ hO) yv11_hopsAs ml11_390 ob11 rfl (by constructor <;> (simp only [mw_rm]; omega)) rfl rfl (Nat.le_of_ble_eq_true rfl) dX11_hopsAs_40 (fun r11 μ12 hO => ?_)
        refine r_istore_n hC [(3, .int r11), (0, .ref (mw_a G 0)), (1, .int p1), (2, .int p2)] dX11_hopsAs_43 rfl (by decide) rfl ?_
        refine r_iload_n hC 0 dX11_hopsAs_44 rfl rfl ?_
        refine r_aload_n hC 1 dX11_hopsAs_45 rfl rfl ?_
        refine r_aload_n hC 1 dX11_hopsAs_46 rfl rfl ?_
        refine r_getI hC fl11_387 ob11 rfl dX11_hopsAs_47 ?_
        refine r_iconst hC 2 dX11_hopsAs_50 (by decide) ?_
        refine r_callVi hC [.int (μ12.1 0 57), .int 2] (T11_clingsAs  hO) yv11_clingsAs ml11_378 ob11 rfl (by constructor <;> (simp only [mw_rm]; omega)) rfl rfl (Nat.le_of_ble_eq_true rfl) dX11_hopsAs_51 (fun r13 μ14 hO => ?_)
        refine r_isub hC dX11_hopsAs_54 ?_
        exact r_iret hC rfl dX11_hopsAs_55 hO
  · have hO := hO.1 h1
    refine r_aload_n hC 0 dX11_hopsAs_5 rfl rfl ?_
    refine r_bipush hC 40 dX11_hopsAs_6 (by decide) ?_
    refine r_callVv hC [.int 40] (T11_begins  hO) yv11_begins ml11_374 ob11 rfl (by constructor <;> (simp only [mw_rm]; omega)) rfl rfl (Nat.le_of_ble_eq_true rfl) dX11_hopsAs_8 (fun μ15 hO => ?_)
    refine r_aload_n hC 0 dX11_hopsAs_11 rfl rfl ?_
    refine r_iconst hC 2 dX11_hopsAs_12 (by decide) ?_
    refine r_iload_n hC 2 dX11_hopsAs_13 rfl rfl ?_
    refine r_callVi hC [.int 2, .int p2] (hc1 _ _ _ _ hO) yv11_hopsAs ml11_390 ob11 rfl (by constructor <;> (simp only [mw_rm]; omega)) rfl rfl (Nat.le_of_ble_eq_true rfl) dX11_hopsAs_14 (fun r16 μ17 hO => ?_)
    refine r_iconst hC 3 dX11_hopsAs_17 (by decide) ?_
    refine r_imul hC dX11_hopsAs_18 ?_
    exact r_iret hC rfl dX11_hopsAs_19 hO
set_option maxHeartbeats 4000000 in
theorem TG4 {l : Launch} {G : mw_G} (n : Nat) : (∀ (p1 : Int32) (p2 : Int32) (μ : mw_M) (Q : Int32 → mw_M → Prop), (G4 n) p1 p2 μ Q → mw_Mi l G kdM yX11_hopsAs cX11_hopsAs 4 (some .int) (n + 10) (n * 23 + 219) [.ref (mw_a G 0), .int p1, .int p2] μ (Q)) := by
  induction n with
  | zero => exact fun _ _ _ _ hO => False.elim hO
  | succ n ih =>
    exact (fun p1 p2 μ Q hO => by
      have h := T11_hopsAs_s (l := l) (G := G) (fr := n + 10) (lo := n * 23 + 219) (by omega) (by omega) ih hO
      rw [show n + 1 + 10 = n + 10 + 1 by omega, show (n + 1) * 23 + 219 = n * 23 + 219 + 23 by omega]
      exact h)
theorem T11_hopsAs {l : Launch} {G : mw_G} {p1 : Int32} {p2 : Int32} {μ : mw_M} {Q : Int32 → mw_M → Prop} (hO : P11_hopsAs p1 p2 μ Q) : mw_Mi l G kdM yX11_hopsAs cX11_hopsAs 4 (some .int) 18 403 [.ref (mw_a G 0), .int p1, .int p2] μ (Q) := (TG4 (l := l) (G := G) 8) _ _ _ _ hO
set_option maxHeartbeats 4000000 in
set_option maxRecDepth 100000 in
theorem T11_shakesAs_s {l : Launch} {G : mw_G} {fr lo : Nat} (hfr : 19 ≤ fr) (hlo : 426 ≤ lo) {c1 : Int32 → Int32 → mw_M → (Int32 → mw_M → Prop) → Prop} (hc1 : ∀ (p1 : Int32) (p2 : Int32) (μ : mw_M) (Q : Int32 → mw_M → Prop), c1 p1 p2 μ Q → mw_Mi l G kdM yX11_shakesAs cX11_shakesAs 4 (some .int) fr lo [.ref (mw_a G 0), .int p1, .int p2] μ (Q)) {p1 : Int32} {p2 : Int32} {μ : mw_M} {Q : Int32 → mw_M → Prop}  (hO : S11_shakesAs c1 p1 p2 μ Q) : mw_Mi l G kdM yX11_shakesAs cX11_shakesAs 4 (some .int) (fr + 1) (lo + 23) [.ref (mw_a G 0), .int p1, .int p2] μ (Q) := by
  refine mw_enter [(0, .ref (mw_a G 0)), (1, .int p1), (2, .int p2)] RX11 (by decide) rfl (Nat.le_of_ble_eq_true rfl) rfl ?_
  intro p e s m args below meth c hC
  unfold S11_shakesAs at hO
  refine r_iload_n hC 1 dX11_shakesAs_0 rfl rfl ?_
  refine r_iconst hC 3 dX11_shakesAs_1 (by decide) ?_
  refine r_icmp_ne hC 20 dX11_shakesAs_2 (by decide) (fun h1 => ?_) (fun h1 => ?_)
  · have hO := hO.2 h1
    refine r_iload_n hC 1 dX11_shakesAs_20 rfl rfl ?_
    refine r_iconst hC 2 dX11_shakesAs_21 (by decide) ?_
    refine r_icmp_ne hC 39 dX11_shakesAs_22 (by decide) (fun h2 => ?_) (fun h2 => ?_)
    · have hO := hO.2 h2
      refine r_iload_n hC 1 dX11_shakesAs_39 rfl rfl ?_
      refine r_bipush hC 7 dX11_shakesAs_40 (by decide) ?_
      refine r_icmp_ne hC 70 dX11_shakesAs_42 (by decide) (fun h3 => ?_) (fun h3 => ?_)
      · have hO := hO.2 h3
        refine r_aload_n hC 0 dX11_shakesAs_70 rfl rfl ?_
        refine r_bipush hC 10 dX11_shakesAs_71 (by decide) ?_
        refine r_callVv hC [.int 10] (T11_begins  hO) yv11_begins ml11_374 ob11 rfl (by constructor <;> (simp only [mw_rm]; omega)) rfl rfl (Nat.le_of_ble_eq_true rfl) dX11_shakesAs_73 (fun μ4 hO => ?_)
        refine r_aload_n hC 0 dX11_shakesAs_76 rfl rfl ?_
        refine r_aload_n hC 0 dX11_shakesAs_77 rfl rfl ?_
        refine r_getI hC fl11_387 ob11 rfl dX11_shakesAs_78 ?_
        refine r_iload_n hC 2 dX11_shakesAs_81 rfl rfl ?_
        refine r_callVi hC [.int (μ4.1 0 57), .int p2] (T11_clingsAs  hO) yv11_clingsAs ml11_378 ob11 rfl (by constructor <;> (simp only [mw_rm]; omega)) rfl rfl (Nat.le_of_ble_eq_true rfl) dX11_shakesAs_82 (fun r5 μ6 hO => ?_)
        refine r_iconst hC 2 dX11_shakesAs_85 (by decide) ?_
        refine r_imul hC dX11_shakesAs_86 ?_
        exact r_iret hC rfl dX11_shakesAs_87 hO
      · have hO := hO.1 h3
        refine r_aload_n hC 0 dX11_shakesAs_45 rfl rfl ?_
        refine r_bipush hC 80 dX11_shakesAs_46 (by decide) ?_
        refine r_callVv hC [.int 80] (T11_begins  hO) yv11_begins ml11_374 ob11 rfl (by constructor <;> (simp only [mw_rm]; omega)) rfl rfl (Nat.le_of_ble_eq_true rfl) dX11_shakesAs_48 (fun μ7 hO => ?_)
        refine r_aload_n hC 0 dX11_shakesAs_51 rfl rfl ?_
        refine r_iconst hC 0 dX11_shakesAs_52 (by decide) ?_
        refine r_iload_n hC 2 dX11_shakesAs_53 rfl rfl ?_
        refine r_callVi hC [.int 0, .int p2] (hc1 _ _ _ _ hO) yv11_shakesAs ml11_384 ob11 rfl (by constructor <;> (simp only [mw_rm]; omega)) rfl rfl (Nat.le_of_ble_eq_true rfl) dX11_shakesAs_54 (fun r8 μ9 hO => ?_)
        refine r_istore_n hC [(3, .int r8), (0, .ref (mw_a G 0)), (1, .int p1), (2, .int p2)] dX11_shakesAs_57 rfl (by decide) rfl ?_
        refine r_iload_n hC 0 dX11_shakesAs_58 rfl rfl ?_
        refine r_aload_n hC 1 dX11_shakesAs_59 rfl rfl ?_
        refine r_aload_n hC 1 dX11_shakesAs_60 rfl rfl ?_
        refine r_getI hC fl11_387 ob11 rfl dX11_shakesAs_61 ?_
        refine r_iconst hC 2 dX11_shakesAs_64 (by decide) ?_
        refine r_callVi hC [.int (μ9.1 0 57), .int 2] (T11_hopsAs  hO) yv11_hopsAs ml11_390 ob11 rfl (by constructor <;> (simp only [mw_rm]; omega)) rfl rfl (Nat.le_of_ble_eq_true rfl) dX11_shakesAs_65 (fun r10 μ11 hO => ?_)
        refine r_iadd hC dX11_shakesAs_68 ?_
        exact r_iret hC rfl dX11_shakesAs_69 hO
    · have hO := hO.1 h2
      refine r_aload_n hC 0 dX11_shakesAs_25 rfl rfl ?_
      refine r_bipush hC 30 dX11_shakesAs_26 (by decide) ?_
      refine r_callVv hC [.int 30] (T11_begins  hO) yv11_begins ml11_374 ob11 rfl (by constructor <;> (simp only [mw_rm]; omega)) rfl rfl (Nat.le_of_ble_eq_true rfl) dX11_shakesAs_28 (fun μ12 hO => ?_)
      refine r_aload_n hC 0 dX11_shakesAs_31 rfl rfl ?_
      refine r_iconst hC 0 dX11_shakesAs_32 (by decide) ?_
      refine r_iload_n hC 2 dX11_shakesAs_33 rfl rfl ?_
      refine r_callVi hC [.int 0, .int p2] (hc1 _ _ _ _ hO) yv11_shakesAs ml11_384 ob11 rfl (by constructor <;> (simp only [mw_rm]; omega)) rfl rfl (Nat.le_of_ble_eq_true rfl) dX11_shakesAs_34 (fun r13 μ14 hO => ?_)
      refine r_ineg hC dX11_shakesAs_37 ?_
      exact r_iret hC rfl dX11_shakesAs_38 hO
  · have hO := hO.1 h1
    refine r_aload_n hC 0 dX11_shakesAs_5 rfl rfl ?_
    refine r_bipush hC 41 dX11_shakesAs_6 (by decide) ?_
    refine r_callVv hC [.int 41] (T11_begins  hO) yv11_begins ml11_374 ob11 rfl (by constructor <;> (simp only [mw_rm]; omega)) rfl rfl (Nat.le_of_ble_eq_true rfl) dX11_shakesAs_8 (fun μ15 hO => ?_)
    refine r_aload_n hC 0 dX11_shakesAs_11 rfl rfl ?_
    refine r_iconst hC 2 dX11_shakesAs_12 (by decide) ?_
    refine r_iload_n hC 2 dX11_shakesAs_13 rfl rfl ?_
    refine r_iconst hC 1 dX11_shakesAs_14 (by decide) ?_
    refine r_iadd hC dX11_shakesAs_15 ?_
    refine r_callVi hC [.int 2, .int (p2 + 1)] (hc1 _ _ _ _ hO) yv11_shakesAs ml11_384 ob11 rfl (by constructor <;> (simp only [mw_rm]; omega)) rfl rfl (Nat.le_of_ble_eq_true rfl) dX11_shakesAs_16 (fun r16 μ17 hO => ?_)
    exact r_iret hC rfl dX11_shakesAs_19 hO
set_option maxHeartbeats 4000000 in
theorem TG5 {l : Launch} {G : mw_G} (n : Nat) : (∀ (p1 : Int32) (p2 : Int32) (μ : mw_M) (Q : Int32 → mw_M → Prop), (G5 n) p1 p2 μ Q → mw_Mi l G kdM yX11_shakesAs cX11_shakesAs 4 (some .int) (n + 19) (n * 23 + 426) [.ref (mw_a G 0), .int p1, .int p2] μ (Q)) := by
  induction n with
  | zero => exact fun _ _ _ _ hO => False.elim hO
  | succ n ih =>
    exact (fun p1 p2 μ Q hO => by
      have h := T11_shakesAs_s (l := l) (G := G) (fr := n + 19) (lo := n * 23 + 426) (by omega) (by omega) ih hO
      rw [show n + 1 + 19 = n + 19 + 1 by omega, show (n + 1) * 23 + 426 = n * 23 + 426 + 23 by omega]
      exact h)
theorem T11_shakesAs {l : Launch} {G : mw_G} {p1 : Int32} {p2 : Int32} {μ : mw_M} {Q : Int32 → mw_M → Prop} (hO : P11_shakesAs p1 p2 μ Q) : mw_Mi l G kdM yX11_shakesAs cX11_shakesAs 4 (some .int) 27 610 [.ref (mw_a G 0), .int p1, .int p2] μ (Q) := (TG5 (l := l) (G := G) 8) _ _ _ _ hO
set_option maxHeartbeats 4000000 in
set_option maxRecDepth 100000 in
theorem T11_tellsAs_s {l : Launch} {G : mw_G} {fr lo : Nat} (hfr : 28 ≤ fr) (hlo : 633 ≤ lo) {c1 : Int32 → Int32 → mw_M → (Int32 → mw_M → Prop) → Prop} (hc1 : ∀ (p1 : Int32) (p2 : Int32) (μ : mw_M) (Q : Int32 → mw_M → Prop), c1 p1 p2 μ Q → mw_Mi l G kdM yX11_tellsAs cX11_tellsAs 4 (some .int) fr lo [.ref (mw_a G 0), .int p1, .int p2] μ (Q)) {p1 : Int32} {p2 : Int32} {μ : mw_M} {Q : Int32 → mw_M → Prop}  (hO : S11_tellsAs c1 p1 p2 μ Q) : mw_Mi l G kdM yX11_tellsAs cX11_tellsAs 4 (some .int) (fr + 1) (lo + 23) [.ref (mw_a G 0), .int p1, .int p2] μ (Q) := by
  refine mw_enter [(0, .ref (mw_a G 0)), (1, .int p1), (2, .int p2)] RX11 (by decide) rfl (Nat.le_of_ble_eq_true rfl) rfl ?_
  intro p e s m args below meth c hC
  unfold S11_tellsAs at hO
  refine r_iload_n hC 1 dX11_tellsAs_0 rfl rfl ?_
  refine r_iconst hC 5 dX11_tellsAs_1 (by decide) ?_
  refine r_icmp_ne hC 20 dX11_tellsAs_2 (by decide) (fun h1 => ?_) (fun h1 => ?_)
  · have hO := hO.2 h1
    refine r_iload_n hC 1 dX11_tellsAs_20 rfl rfl ?_
    refine r_bipush hC 7 dX11_tellsAs_21 (by decide) ?_
    refine r_icmp_ne hC 41 dX11_tellsAs_23 (by decide) (fun h2 => ?_) (fun h2 => ?_)
    · have hO := hO.2 h2
      refine r_aload_n hC 0 dX11_tellsAs_41 rfl rfl ?_
      refine r_iconst hC 2 dX11_tellsAs_42 (by decide) ?_
      refine r_callVv hC [.int 2] (T11_begins  hO) yv11_begins ml11_374 ob11 rfl (by constructor <;> (simp only [mw_rm]; omega)) rfl rfl (Nat.le_of_ble_eq_true rfl) dX11_tellsAs_43 (fun μ3 hO => ?_)
      refine r_aload_n hC 0 dX11_tellsAs_46 rfl rfl ?_
      refine r_aload_n hC 0 dX11_tellsAs_47 rfl rfl ?_
      refine r_getI hC fl11_387 ob11 rfl dX11_tellsAs_48 ?_
      refine r_iload_n hC 2 dX11_tellsAs_51 rfl rfl ?_
      refine r_callVi hC [.int (μ3.1 0 57), .int p2] (T11_shakesAs  hO) yv11_shakesAs ml11_384 ob11 rfl (by constructor <;> (simp only [mw_rm]; omega)) rfl rfl (Nat.le_of_ble_eq_true rfl) dX11_tellsAs_52 (fun r4 μ5 hO => ?_)
      refine r_istore_n hC [(3, .int r4), (0, .ref (mw_a G 0)), (1, .int p1), (2, .int p2)] dX11_tellsAs_55 rfl (by decide) rfl ?_
      refine r_iload_n hC 0 dX11_tellsAs_56 rfl rfl ?_
      refine r_aload_n hC 1 dX11_tellsAs_57 rfl rfl ?_
      refine r_aload_n hC 1 dX11_tellsAs_58 rfl rfl ?_
      refine r_getI hC fl11_387 ob11 rfl dX11_tellsAs_59 ?_
      refine r_iconst hC 1 dX11_tellsAs_62 (by decide) ?_
      refine r_callVi hC [.int (μ5.1 0 57), .int 1] (T11_hopsAs  hO) yv11_hopsAs ml11_390 ob11 rfl (by constructor <;> (simp only [mw_rm]; omega)) rfl rfl (Nat.le_of_ble_eq_true rfl) dX11_tellsAs_63 (fun r6 μ7 hO => ?_)
      refine r_isub hC dX11_tellsAs_66 ?_
      exact r_iret hC rfl dX11_tellsAs_67 hO
    · have hO := hO.1 h2
      refine r_aload_n hC 0 dX11_tellsAs_26 rfl rfl ?_
      refine r_bipush hC 81 dX11_tellsAs_27 (by decide) ?_
      refine r_callVv hC [.int 81] (T11_begins  hO) yv11_begins ml11_374 ob11 rfl (by constructor <;> (simp only [mw_rm]; omega)) rfl rfl (Nat.le_of_ble_eq_true rfl) dX11_tellsAs_29 (fun μ8 hO => ?_)
      refine r_aload_n hC 0 dX11_tellsAs_32 rfl rfl ?_
      refine r_iconst hC 0 dX11_tellsAs_33 (by decide) ?_
      refine r_iload_n hC 2 dX11_tellsAs_34 rfl rfl ?_
      refine r_callVi hC [.int 0, .int p2] (hc1 _ _ _ _ hO) yv11_tellsAs ml11_393 ob11 rfl (by constructor <;> (simp only [mw_rm]; omega)) rfl rfl (Nat.le_of_ble_eq_true rfl) dX11_tellsAs_35 (fun r9 μ10 hO => ?_)
      refine r_iconst hC 1 dX11_tellsAs_38 (by decide) ?_
      refine r_isub hC dX11_tellsAs_39 ?_
      exact r_iret hC rfl dX11_tellsAs_40 hO
  · have hO := hO.1 h1
    refine r_aload_n hC 0 dX11_tellsAs_5 rfl rfl ?_
    refine r_bipush hC 60 dX11_tellsAs_6 (by decide) ?_
    refine r_callVv hC [.int 60] (T11_begins  hO) yv11_begins ml11_374 ob11 rfl (by constructor <;> (simp only [mw_rm]; omega)) rfl rfl (Nat.le_of_ble_eq_true rfl) dX11_tellsAs_8 (fun μ11 hO => ?_)
    refine r_aload_n hC 0 dX11_tellsAs_11 rfl rfl ?_
    refine r_iconst hC 1 dX11_tellsAs_12 (by decide) ?_
    refine r_iload_n hC 2 dX11_tellsAs_13 rfl rfl ?_
    refine r_callVi hC [.int 1, .int p2] (hc1 _ _ _ _ hO) yv11_tellsAs ml11_393 ob11 rfl (by constructor <;> (simp only [mw_rm]; omega)) rfl rfl (Nat.le_of_ble_eq_true rfl) dX11_tellsAs_14 (fun r12 μ13 hO => ?_)
    refine r_iconst hC 5 dX11_tellsAs_17 (by decide) ?_
    refine r_ixor hC dX11_tellsAs_18 ?_
    exact r_iret hC rfl dX11_tellsAs_19 hO
set_option maxHeartbeats 4000000 in
theorem TG6 {l : Launch} {G : mw_G} (n : Nat) : (∀ (p1 : Int32) (p2 : Int32) (μ : mw_M) (Q : Int32 → mw_M → Prop), (G6 n) p1 p2 μ Q → mw_Mi l G kdM yX11_tellsAs cX11_tellsAs 4 (some .int) (n + 28) (n * 23 + 633) [.ref (mw_a G 0), .int p1, .int p2] μ (Q)) := by
  induction n with
  | zero => exact fun _ _ _ _ hO => False.elim hO
  | succ n ih =>
    exact (fun p1 p2 μ Q hO => by
      have h := T11_tellsAs_s (l := l) (G := G) (fr := n + 28) (lo := n * 23 + 633) (by omega) (by omega) ih hO
      rw [show n + 1 + 28 = n + 28 + 1 by omega, show (n + 1) * 23 + 633 = n * 23 + 633 + 23 by omega]
      exact h)
theorem T11_tellsAs {l : Launch} {G : mw_G} {p1 : Int32} {p2 : Int32} {μ : mw_M} {Q : Int32 → mw_M → Prop} (hO : P11_tellsAs p1 p2 μ Q) : mw_Mi l G kdM yX11_tellsAs cX11_tellsAs 4 (some .int) 36 817 [.ref (mw_a G 0), .int p1, .int p2] μ (Q) := (TG6 (l := l) (G := G) 8) _ _ _ _ hO
set_option maxHeartbeats 4000000 in
set_option maxRecDepth 100000 in
theorem T11_act {l : Launch} {G : mw_G} {p1 : Int32} {p2 : Int32} {p3 : Int32} {μ : mw_M} {Q : Int32 → mw_M → Prop}  (hO : P11_act p1 p2 p3 μ Q) : mw_Mi l G kdM yX11_act cX11_act 4 (some .int) 37 840 [.ref (mw_a G 0), .int p1, .int p2, .int p3] μ (Q) := by
  refine mw_enter [(0, .ref (mw_a G 0)), (1, .int p1), (2, .int p2), (3, .int p3)] RX11 (by decide) rfl (Nat.le_of_ble_eq_true rfl) rfl ?_
  intro p e s m args below meth c hC
  unfold P11_act at hO
  refine r_aload_n hC 0 dX11_act_0 rfl rfl ?_
  refine r_iconst hC 0 dX11_act_1 (by decide) ?_
  refine r_putI hC fl11_371 ob11 rfl rfl rfl dX11_act_2 ?_
  refine r_nmM (fun μ1 hμ1 => ?_)
  have hO := hO μ1 hμ1
  refine r_aload_n hC 0 dX11_act_5 rfl rfl ?_
  refine r_iload_n hC 1 dX11_act_6 rfl rfl ?_
  refine r_callVi hC [.int p1] (T11_isBody  hO) yv11_isBody ml11_396 ob11 rfl ⟨Nat.le_of_ble_eq_true rfl, Nat.le_of_ble_eq_true rfl⟩ rfl rfl (Nat.le_of_ble_eq_true rfl) dX11_act_7 (fun r2 μ3 hO => ?_)
  rcases hO with ⟨hr, hO⟩ | ⟨hr, hO⟩
  · refine r_topEq hr ?_
    obtain ⟨hO, hm⟩ := hO
    refine r_memEq hm ?_
    refine r_if_ne hC 15 dX11_act_10 (by decide) (fun _ => ?_) (fun h => absurd h (by decide))
    refine r_aload_n hC 0 dX11_act_15 rfl rfl ?_
    refine r_aload_n hC 0 dX11_act_16 rfl rfl ?_
    refine r_getR hC 21 fl11_70 ob11 rfl dX11_act_17 ?_
    refine r_iload_n hC 1 dX11_act_20 rfl rfl ?_
    obtain ⟨g4, hO⟩ := hO
    refine r_iald hC sh11_54 g4 p1.toNatClampNeg rfl dX11_act_21 ?_
    refine r_putI hC fl11_387 ob11 rfl rfl rfl dX11_act_22 ?_
    refine r_nmM (fun μ5 hμ5 => ?_)
    have hO := hO μ5 hμ5
    refine r_aload_n hC 0 dX11_act_25 rfl rfl ?_
    refine r_iload_n hC 1 dX11_act_26 rfl rfl ?_
    refine r_putI hC fl11_381 ob11 rfl rfl rfl dX11_act_27 ?_
    refine r_nmM (fun μ6 hμ6 => ?_)
    have hO := hO μ6 hμ6
    refine r_iload_n hC 2 dX11_act_30 rfl rfl ?_
    by_cases h7 : p2 = 0
    · have hO := hO.1 h7
      refine r_tin hC 60 dX11_act_31 (by rw [h7]; decide) (by rw [h7]; decide) (by rw [h7] <;> rfl) (by decide) ?_
      refine r_aload_n hC 0 dX11_act_60 rfl rfl ?_
      refine r_aload_n hC 0 dX11_act_61 rfl rfl ?_
      refine r_getI hC fl11_387 ob11 rfl dX11_act_62 ?_
      refine r_iload_n hC 3 dX11_act_65 rfl rfl ?_
      refine r_callVi hC [.int (μ6.1 0 57), .int p3] (T11_clingsAs  hO) yv11_clingsAs ml11_378 ob11 rfl ⟨Nat.le_of_ble_eq_true rfl, Nat.le_of_ble_eq_true rfl⟩ rfl rfl (Nat.le_of_ble_eq_true rfl) dX11_act_66 (fun r8 μ9 hO => ?_)
      exact r_iret hC rfl dX11_act_69 hO
    by_cases h10 : p2 = 1
    · have hO := hO.2.1 h10
      refine r_tin hC 70 dX11_act_31 (by rw [h10]; decide) (by rw [h10]; decide) (by rw [h10] <;> rfl) (by decide) ?_
      refine r_aload_n hC 0 dX11_act_70 rfl rfl ?_
      refine r_aload_n hC 0 dX11_act_71 rfl rfl ?_
      refine r_getI hC fl11_387 ob11 rfl dX11_act_72 ?_
      refine r_iload_n hC 3 dX11_act_75 rfl rfl ?_
      refine r_callVi hC [.int (μ6.1 0 57), .int p3] (T11_shakesAs  hO) yv11_shakesAs ml11_384 ob11 rfl ⟨Nat.le_of_ble_eq_true rfl, Nat.le_of_ble_eq_true rfl⟩ rfl rfl (Nat.le_of_ble_eq_true rfl) dX11_act_76 (fun r11 μ12 hO => ?_)
      exact r_iret hC rfl dX11_act_79 hO
    by_cases h13 : p2 = 2
    · have hO := hO.2.2.1 h13
      refine r_tin hC 80 dX11_act_31 (by rw [h13]; decide) (by rw [h13]; decide) (by rw [h13] <;> rfl) (by decide) ?_
      refine r_aload_n hC 0 dX11_act_80 rfl rfl ?_
      refine r_aload_n hC 0 dX11_act_81 rfl rfl ?_
      refine r_getI hC fl11_387 ob11 rfl dX11_act_82 ?_
      refine r_iload_n hC 3 dX11_act_85 rfl rfl ?_
      refine r_callVi hC [.int (μ6.1 0 57), .int p3] (T11_hopsAs  hO) yv11_hopsAs ml11_390 ob11 rfl ⟨Nat.le_of_ble_eq_true rfl, Nat.le_of_ble_eq_true rfl⟩ rfl rfl (Nat.le_of_ble_eq_true rfl) dX11_act_86 (fun r14 μ15 hO => ?_)
      exact r_iret hC rfl dX11_act_89 hO
    by_cases h16 : p2 = 3
    · have hO := hO.2.2.2.1 h16
      refine r_tin hC 90 dX11_act_31 (by rw [h16]; decide) (by rw [h16]; decide) (by rw [h16] <;> rfl) (by decide) ?_
      refine r_aload_n hC 0 dX11_act_90 rfl rfl ?_
      refine r_aload_n hC 0 dX11_act_91 rfl rfl ?_
      refine r_getI hC fl11_387 ob11 rfl dX11_act_92 ?_
      refine r_iload_n hC 3 dX11_act_95 rfl rfl ?_
      refine r_callVi hC [.int (μ6.1 0 57), .int p3] (T11_tellsAs  hO) yv11_tellsAs ml11_393 ob11 rfl ⟨Nat.le_of_ble_eq_true rfl, Nat.le_of_ble_eq_true rfl⟩ rfl rfl (Nat.le_of_ble_eq_true rfl) dX11_act_96 (fun r17 μ18 hO => ?_)
      exact r_iret hC rfl dX11_act_99 hO
    have hO := hO.2.2.2.2 h7 h10 h13 h16
    refine r_tdef hC 100 dX11_act_31 (by decide) rfl (fun k hk => match k, hk with | 0, _ => Or.inr (mw_ne h7 rfl) | 1, _ => Or.inr (mw_ne h10 rfl) | 2, _ => Or.inr (mw_ne h13 rfl) | 3, _ => Or.inr (mw_ne h16 rfl) | k + 4, h => absurd h (by show ¬ k + 4 < 4; omega)) ?_
    refine r_iconst hC 0 dX11_act_100 (by decide) ?_
    exact r_iret hC rfl dX11_act_101 hO
  · refine r_topEq hr ?_
    obtain ⟨hO, hm⟩ := hO
    refine r_memEq hm ?_
    refine r_if_ne hC 15 dX11_act_10 (by decide) (fun h => absurd (by decide) h) (fun _ => ?_)
    refine r_iconst hC 0 dX11_act_13 (by decide) ?_
    exact r_iret hC rfl dX11_act_14 hO
set_option maxHeartbeats 4000000 in
set_option maxRecDepth 100000 in
theorem T11_trace {l : Launch} {G : mw_G} {p1 : Int32} {μ : mw_M} {Q : Int32 → Prop}  (hO : P11_trace p1 μ Q) : mw_Mi l G kdM yX11_trace cX11_trace 2 (some .int) 0 0 [.ref (mw_a G 0), .int p1] μ (mw_pq μ Q) := by
  refine mw_enter [(0, .ref (mw_a G 0)), (1, .int p1)] RX11 (by decide) rfl (Nat.le_of_ble_eq_true rfl) rfl ?_
  intro p e s m args below meth c hC
  unfold P11_trace at hO
  refine r_iload_n hC 1 dX11_trace_0 rfl rfl ?_
  refine r_if_lt hC 27 dX11_trace_1 (by decide) (fun h1 => ?_) (fun h1 => ?_)
  · have hO := hO.1 h1
    refine r_iconst hC (-1) dX11_trace_27 (by decide) ?_
    exact r_iret hC rfl dX11_trace_28 ⟨hO, rfl⟩
  · have hO := hO.2 h1
    refine r_iload_n hC 1 dX11_trace_4 rfl rfl ?_
    refine r_aload_n hC 0 dX11_trace_5 rfl rfl ?_
    refine r_getI hC fl11_371 ob11 rfl dX11_trace_6 ?_
    refine r_icmp_ge hC 27 dX11_trace_9 (by decide) (fun h2 => ?_) (fun h2 => ?_)
    · have hO := hO.1 h2
      refine r_iconst hC (-1) dX11_trace_27 (by decide) ?_
      exact r_iret hC rfl dX11_trace_28 ⟨hO, rfl⟩
    · have hO := hO.2 h2
      refine r_iload_n hC 1 dX11_trace_12 rfl rfl ?_
      refine r_bipush hC 24 dX11_trace_13 (by decide) ?_
      refine r_icmp_ge hC 27 dX11_trace_15 (by decide) (fun h3 => ?_) (fun h3 => ?_)
      · have hO := hO.1 h3
        refine r_iconst hC (-1) dX11_trace_27 (by decide) ?_
        exact r_iret hC rfl dX11_trace_28 ⟨hO, rfl⟩
      · have hO := hO.2 h3
        refine r_aload_n hC 0 dX11_trace_18 rfl rfl ?_
        refine r_getR hC 22 fl11_73 ob11 rfl dX11_trace_19 ?_
        refine r_iload_n hC 1 dX11_trace_22 rfl rfl ?_
        obtain ⟨g4, hO⟩ := hO
        refine r_iald hC sh11_55 g4 p1.toNatClampNeg rfl dX11_trace_23 ?_
        refine r_goto hC 28 dX11_trace_24 (by decide) ?_
        exact r_iret hC rfl dX11_trace_28 ⟨hO, rfl⟩
set_option maxHeartbeats 4000000 in
set_option maxRecDepth 100000 in
theorem T11_keep {l : Launch} {G : mw_G} {p1 : Int32} {p2 : Int32} {μ : mw_M} {Q : Int32 → mw_M → Prop}  (hO : P11_keep p1 p2 μ Q) : mw_Mi l G kdM yX11_keep cX11_keep 3 (some .int) 2 46 [.ref (mw_a G 0), .int p1, .int p2] μ (Q) := by
  refine mw_enter [(0, .ref (mw_a G 0)), (1, .int p1), (2, .int p2)] RX11 (by decide) rfl (Nat.le_of_ble_eq_true rfl) rfl ?_
  intro p e s m args below meth c hC
  unfold P11_keep at hO
  refine r_iload_n hC 1 dX11_keep_0 rfl rfl ?_
  refine r_callSi hC [.int p1] (T11_isShelf  hO) yv11_isShelf ml11_126 ⟨Nat.le_of_ble_eq_true rfl, Nat.le_of_ble_eq_true rfl⟩ rfl rfl (Nat.le_of_ble_eq_true rfl) dX11_keep_1 (fun r1 μ2 hO => ?_)
  rcases hO with ⟨hr, hO⟩ | ⟨hr, hO⟩
  · refine r_topEq hr ?_
    obtain ⟨hO, hm⟩ := hO
    refine r_memEq hm ?_
    refine r_if_eq hC 20 dX11_keep_4 (by decide) (fun h => absurd h (by decide)) (fun _ => ?_)
    refine r_iload_n hC 2 dX11_keep_7 rfl rfl ?_
    refine r_iconst hC (-1) dX11_keep_8 (by decide) ?_
    refine r_icmp_eq hC 22 dX11_keep_9 (by decide) (fun h3 => ?_) (fun h3 => ?_)
    · have hO := hO.1 h3
      refine r_aload_n hC 0 dX11_keep_22 rfl rfl ?_
      refine r_getR hC 23 fl11_76 ob11 rfl dX11_keep_23 ?_
      refine r_iload_n hC 1 dX11_keep_26 rfl rfl ?_
      refine r_iload_n hC 2 dX11_keep_27 rfl rfl ?_
      obtain ⟨g4, hO⟩ := hO
      refine r_iast hC sh11_59 g4 p1.toNatClampNeg rfl dX11_keep_28 ?_
      refine r_nmM (fun μ5 hμ5 => ?_)
      have hO := hO μ5 hμ5
      refine r_aload_n hC 0 dX11_keep_29 rfl rfl ?_
      refine r_getR hC 24 fl11_79 ob11 rfl dX11_keep_30 ?_
      refine r_iload_n hC 1 dX11_keep_33 rfl rfl ?_
      refine r_iconst hC 0 dX11_keep_34 (by decide) ?_
      obtain ⟨g6, hO⟩ := hO
      refine r_iast hC sh11_60 g6 p1.toNatClampNeg rfl dX11_keep_35 ?_
      refine r_nmM (fun μ7 hμ7 => ?_)
      have hO := hO μ7 hμ7
      refine r_iconst hC 1 dX11_keep_36 (by decide) ?_
      exact r_iret hC rfl dX11_keep_37 hO
    · have hO := hO.2 h3
      refine r_aload_n hC 0 dX11_keep_12 rfl rfl ?_
      refine r_iload_n hC 2 dX11_keep_13 rfl rfl ?_
      refine r_callVi hC [.int p2] (T11_isBody  hO) yv11_isBody ml11_396 ob11 rfl ⟨Nat.le_of_ble_eq_true rfl, Nat.le_of_ble_eq_true rfl⟩ rfl rfl (Nat.le_of_ble_eq_true rfl) dX11_keep_14 (fun r8 μ9 hO => ?_)
      rcases hO with ⟨hr, hO⟩ | ⟨hr, hO⟩
      · refine r_topEq hr ?_
        obtain ⟨hO, hm⟩ := hO
        refine r_memEq hm ?_
        refine r_if_ne hC 22 dX11_keep_17 (by decide) (fun _ => ?_) (fun h => absurd h (by decide))
        refine r_aload_n hC 0 dX11_keep_22 rfl rfl ?_
        refine r_getR hC 23 fl11_76 ob11 rfl dX11_keep_23 ?_
        refine r_iload_n hC 1 dX11_keep_26 rfl rfl ?_
        refine r_iload_n hC 2 dX11_keep_27 rfl rfl ?_
        obtain ⟨g10, hO⟩ := hO
        refine r_iast hC sh11_59 g10 p1.toNatClampNeg rfl dX11_keep_28 ?_
        refine r_nmM (fun μ11 hμ11 => ?_)
        have hO := hO μ11 hμ11
        refine r_aload_n hC 0 dX11_keep_29 rfl rfl ?_
        refine r_getR hC 24 fl11_79 ob11 rfl dX11_keep_30 ?_
        refine r_iload_n hC 1 dX11_keep_33 rfl rfl ?_
        refine r_iconst hC 0 dX11_keep_34 (by decide) ?_
        obtain ⟨g12, hO⟩ := hO
        refine r_iast hC sh11_60 g12 p1.toNatClampNeg rfl dX11_keep_35 ?_
        refine r_nmM (fun μ13 hμ13 => ?_)
        have hO := hO μ13 hμ13
        refine r_iconst hC 1 dX11_keep_36 (by decide) ?_
        exact r_iret hC rfl dX11_keep_37 hO
      · refine r_topEq hr ?_
        obtain ⟨hO, hm⟩ := hO
        refine r_memEq hm ?_
        refine r_if_ne hC 22 dX11_keep_17 (by decide) (fun h => absurd (by decide) h) (fun _ => ?_)
        refine r_iconst hC (-1) dX11_keep_20 (by decide) ?_
        exact r_iret hC rfl dX11_keep_21 hO
  · refine r_topEq hr ?_
    obtain ⟨hO, hm⟩ := hO
    refine r_memEq hm ?_
    refine r_if_eq hC 20 dX11_keep_4 (by decide) (fun _ => ?_) (fun h => absurd (by decide) h)
    refine r_iconst hC (-1) dX11_keep_20 (by decide) ?_
    exact r_iret hC rfl dX11_keep_21 hO
set_option maxHeartbeats 4000000 in
set_option maxRecDepth 100000 in
theorem T11_row {l : Launch} {G : mw_G} {p1 : Int32} {p2 : Int32} {p3 : Int32} {μ : mw_M} {Q : Int32 → mw_M → Prop}  (hO : P11_row p1 p2 p3 μ Q) : mw_Mi l G kdM yX11_row cX11_row 5 (some .int) 2 45 [.ref (mw_a G 0), .int p1, .int p2, .int p3] μ (Q) := by
  refine mw_enter [(0, .ref (mw_a G 0)), (1, .int p1), (2, .int p2), (3, .int p3)] RX11 (by decide) rfl (Nat.le_of_ble_eq_true rfl) rfl ?_
  intro p e s m args below meth c hC
  unfold P11_row at hO
  refine r_iload_n hC 1 dX11_row_0 rfl rfl ?_
  refine r_callSi hC [.int p1] (T11_isShelf  hO) yv11_isShelf ml11_126 ⟨Nat.le_of_ble_eq_true rfl, Nat.le_of_ble_eq_true rfl⟩ rfl rfl (Nat.le_of_ble_eq_true rfl) dX11_row_1 (fun r1 μ2 hO => ?_)
  rcases hO with ⟨hr, hO⟩ | ⟨hr, hO⟩
  · refine r_topEq hr ?_
    obtain ⟨hO, hm⟩ := hO
    refine r_memEq hm ?_
    refine r_if_eq hC 25 dX11_row_4 (by decide) (fun h => absurd h (by decide)) (fun _ => ?_)
    refine r_iload_n hC 2 dX11_row_7 rfl rfl ?_
    refine r_i2l hC dX11_row_8 ?_
    refine r_lconst hC 0 dX11_row_9 (by decide) ?_
    refine r_ldc2 hC kc11_185 dX11_row_10 ?_
    refine r_callSi hC [.long (Int32.toInt64 p2), .long 0, .long 4] (T11_within  hO) yv11_within ml11_106 ⟨Nat.le_of_ble_eq_true rfl, Nat.le_of_ble_eq_true rfl⟩ rfl rfl (Nat.le_of_ble_eq_true rfl) dX11_row_13 (fun r3 μ4 hO => ?_)
    rcases hO with ⟨hr, hO⟩ | ⟨hr, hO⟩
    · refine r_topEq hr ?_
      obtain ⟨hO, hm⟩ := hO
      refine r_memEq hm ?_
      refine r_if_eq hC 25 dX11_row_16 (by decide) (fun h => absurd h (by decide)) (fun _ => ?_)
      refine r_iload_n hC 3 dX11_row_19 rfl rfl ?_
      refine r_bipush hC 60 dX11_row_20 (by decide) ?_
      refine r_icmp_le hC 27 dX11_row_22 (by decide) (fun h5 => ?_) (fun h5 => ?_)
      · have hO := hO.1 h5
        refine r_iload_n hC 3 dX11_row_27 rfl rfl ?_
        refine r_if_ge hC 34 dX11_row_28 (by decide) (fun h6 => ?_) (fun h6 => ?_)
        · have hO := hO.1 h6
          refine r_aload_n hC 0 dX11_row_34 rfl rfl ?_
          refine r_getR hC 23 fl11_76 ob11 rfl dX11_row_35 ?_
          refine r_iload_n hC 1 dX11_row_38 rfl rfl ?_
          refine r_bipush hC 50 dX11_row_39 (by decide) ?_
          refine r_iload_n hC 2 dX11_row_41 rfl rfl ?_
          refine r_iadd hC dX11_row_42 ?_
          obtain ⟨g7, hO⟩ := hO
          refine r_iast hC sh11_59 g7 p1.toNatClampNeg rfl dX11_row_43 ?_
          refine r_nmM (fun μ8 hμ8 => ?_)
          have hO := hO μ8 hμ8
          refine r_aload_n hC 0 dX11_row_44 rfl rfl ?_
          refine r_getR hC 24 fl11_79 ob11 rfl dX11_row_45 ?_
          refine r_iload_n hC 1 dX11_row_48 rfl rfl ?_
          refine r_iload_n hC 3 dX11_row_49 rfl rfl ?_
          obtain ⟨g9, hO⟩ := hO
          refine r_iast hC sh11_60 g9 p1.toNatClampNeg rfl dX11_row_50 ?_
          refine r_nmM (fun μ10 hμ10 => ?_)
          have hO := hO μ10 hμ10
          refine r_bipush hC 60 dX11_row_51 (by decide) ?_
          refine r_iload_n hC 1 dX11_row_53 rfl rfl ?_
          refine r_imul hC dX11_row_54 ?_
          refine r_nmI (fun x11 hx11 => ?_)
          have hO := hO x11 hx11
          refine r_istore hC [(4, .int x11), (0, .ref (mw_a G 0)), (1, .int p1), (2, .int p2), (3, .int p3)] dX11_row_55 (by decide) rfl ?_
          have hLn14 : ∀   (n14 : Nat) (v12 : Int32) (μ13 : mw_M), L11_row_57 p1 p2 p3 Q n14 v12 μ13 → mw_W p l e (mw_rm 2 45) s m args below meth c G kdM 5 (MQ below (va_Qi (Q) (mw_B G kdM) (mw_A G kdM)) args s 0 0 (mw_A G kdM)) 57 [(4, .int v12), (0, .ref (mw_a G 0)), (1, .int p1), (2, .int p2), (3, .int p3)] [] μ13 := by
            intro   n14
            induction n14 with
            | zero => intro v12 μ13 hO; exact False.elim hO
            | succ n14 ihn14 =>
              intro v12 μ13 hO
              refine r_iload hC 0 dX11_row_57 rfl ?_
              refine r_bipush hC 60 dX11_row_59 (by decide) ?_
              refine r_iload_n hC 2 dX11_row_61 rfl rfl ?_
              refine r_imul hC dX11_row_62 ?_
              refine r_bipush hC 60 dX11_row_63 (by decide) ?_
              refine r_iadd hC dX11_row_65 ?_
              refine r_icmp_ge hC 83 dX11_row_66 (by decide) (fun h15 => ?_) (fun h15 => ?_)
              · have hO := hO.1 h15
                refine r_iconst hC 1 dX11_row_83 (by decide) ?_
                exact r_iret hC rfl dX11_row_84 hO
              · have hO := hO.2 h15
                refine r_aload_n hC 1 dX11_row_69 rfl rfl ?_
                refine r_getR hC 25 fl11_82 ob11 rfl dX11_row_70 ?_
                refine r_iload hC 0 dX11_row_73 rfl ?_
                refine r_lconst hC 0 dX11_row_75 (by decide) ?_
                obtain ⟨g16, hO⟩ := hO
                refine r_last hC sh11_61 g16 v12.toNatClampNeg rfl dX11_row_76 ?_
                refine r_nmM (fun μ17 hμ17 => ?_)
                have hO := hO μ17 hμ17
                obtain ⟨x18, hx18⟩ : ∃ y : Int32, y = v12 + 1 := ⟨_, rfl⟩
                have hO := hO x18 hx18
                refine r_iinc hC x18 0 [(4, .int x18), (0, .ref (mw_a G 0)), (1, .int p1), (2, .int p2), (3, .int p3)] dX11_row_77 rfl (by rw [hx18]; rfl) (by decide) rfl ?_
                refine r_goto hC 57 dX11_row_80 (by decide) ?_
                refine r_lv hC [(4, .int x18), (0, .ref (mw_a G 0)), (1, .int p1), (2, .int p2), (3, .int p3)] [0, 1, 2, 3, 4] rfl ?_
                exact ihn14 x18 μ17 hO
          obtain ⟨n14, hO⟩ := hO
          refine hLn14   n14 _ _ hO
        · have hO := hO.2 h6
          refine r_bipush hC (-14) dX11_row_31 (by decide) ?_
          exact r_iret hC rfl dX11_row_33 hO
      · have hO := hO.2 h5
        refine r_iconst hC (-1) dX11_row_25 (by decide) ?_
        exact r_iret hC rfl dX11_row_26 hO
    · refine r_topEq hr ?_
      obtain ⟨hO, hm⟩ := hO
      refine r_memEq hm ?_
      refine r_if_eq hC 25 dX11_row_16 (by decide) (fun _ => ?_) (fun h => absurd (by decide) h)
      refine r_iconst hC (-1) dX11_row_25 (by decide) ?_
      exact r_iret hC rfl dX11_row_26 hO
  · refine r_topEq hr ?_
    obtain ⟨hO, hm⟩ := hO
    refine r_memEq hm ?_
    refine r_if_eq hC 25 dX11_row_4 (by decide) (fun _ => ?_) (fun h => absurd (by decide) h)
    refine r_iconst hC (-1) dX11_row_25 (by decide) ?_
    exact r_iret hC rfl dX11_row_26 hO
set_option maxHeartbeats 4000000 in
set_option maxRecDepth 100000 in
theorem T11_refusal {l : Launch} {G : mw_G} {p1 : Int32} {p2 : Int32} {μ : mw_M} {Q : Int32 → Prop}  (hO : P11_refusal p1 p2 μ Q) : mw_Mi l G kdM yX11_refusal cX11_refusal 3 (some .int) 2 45 [.ref (mw_a G 0), .int p1, .int p2] μ (mw_pq μ Q) := by
  refine mw_enter [(0, .ref (mw_a G 0)), (1, .int p1), (2, .int p2)] RX11 (by decide) rfl (Nat.le_of_ble_eq_true rfl) rfl ?_
  intro p e s m args below meth c hC
  unfold P11_refusal at hO
  refine r_iload_n hC 1 dX11_refusal_0 rfl rfl ?_
  refine r_callSi hC [.int p1] (T11_isShelf  hO) yv11_isShelf ml11_126 ⟨Nat.le_of_ble_eq_true rfl, Nat.le_of_ble_eq_true rfl⟩ rfl rfl (Nat.le_of_ble_eq_true rfl) dX11_refusal_1 (fun r1 μ2 hO => ?_)
  rcases hO with ⟨hr, hO⟩ | ⟨hr, hO⟩
  · refine r_topEq hr ?_
    obtain ⟨hO, hm⟩ := hO
    refine r_memEq hm ?_
    refine r_if_ne hC 9 dX11_refusal_4 (by decide) (fun _ => ?_) (fun h => absurd h (by decide))
    refine r_aload_n hC 0 dX11_refusal_9 rfl rfl ?_
    refine r_getR hC 23 fl11_76 ob11 rfl dX11_refusal_10 ?_
    refine r_iload_n hC 1 dX11_refusal_13 rfl rfl ?_
    obtain ⟨g3, hO⟩ := hO
    refine r_iald hC sh11_59 g3 p1.toNatClampNeg rfl dX11_refusal_14 ?_
    refine r_if_ge hC 21 dX11_refusal_15 (by decide) (fun h4 => ?_) (fun h4 => ?_)
    · have hO := hO.1 h4
      refine r_aload_n hC 0 dX11_refusal_21 rfl rfl ?_
      refine r_getR hC 23 fl11_76 ob11 rfl dX11_refusal_22 ?_
      refine r_iload_n hC 1 dX11_refusal_25 rfl rfl ?_
      obtain ⟨g5, hO⟩ := hO
      refine r_iald hC sh11_59 g5 p1.toNatClampNeg rfl dX11_refusal_26 ?_
      refine r_bipush hC 50 dX11_refusal_27 (by decide) ?_
      refine r_icmp_ge hC 35 dX11_refusal_29 (by decide) (fun h6 => ?_) (fun h6 => ?_)
      · have hO := hO.1 h6
        refine r_iload_n hC 2 dX11_refusal_35 rfl rfl ?_
        refine r_if_lt hC 53 dX11_refusal_36 (by decide) (fun h7 => ?_) (fun h7 => ?_)
        · have hO := hO.1 h7
          refine r_bipush hC (-13) dX11_refusal_53 (by decide) ?_
          exact r_iret hC rfl dX11_refusal_55 ⟨hO, rfl⟩
        · have hO := hO.2 h7
          refine r_iload_n hC 2 dX11_refusal_39 rfl rfl ?_
          refine r_aload_n hC 0 dX11_refusal_40 rfl rfl ?_
          refine r_getR hC 24 fl11_79 ob11 rfl dX11_refusal_41 ?_
          refine r_iload_n hC 1 dX11_refusal_44 rfl rfl ?_
          obtain ⟨g8, hO⟩ := hO
          refine r_iald hC sh11_60 g8 p1.toNatClampNeg rfl dX11_refusal_45 ?_
          refine r_icmp_ge hC 53 dX11_refusal_46 (by decide) (fun h9 => ?_) (fun h9 => ?_)
          · have hO := hO.1 h9
            refine r_bipush hC (-13) dX11_refusal_53 (by decide) ?_
            exact r_iret hC rfl dX11_refusal_55 ⟨hO, rfl⟩
          · have hO := hO.2 h9
            refine r_iconst hC 0 dX11_refusal_49 (by decide) ?_
            refine r_goto hC 55 dX11_refusal_50 (by decide) ?_
            exact r_iret hC rfl dX11_refusal_55 ⟨hO, rfl⟩
      · have hO := hO.2 h6
        refine r_bipush hC (-12) dX11_refusal_32 (by decide) ?_
        exact r_iret hC rfl dX11_refusal_34 ⟨hO, rfl⟩
    · have hO := hO.2 h4
      refine r_bipush hC (-11) dX11_refusal_18 (by decide) ?_
      exact r_iret hC rfl dX11_refusal_20 ⟨hO, rfl⟩
  · refine r_topEq hr ?_
    obtain ⟨hO, hm⟩ := hO
    refine r_memEq hm ?_
    refine r_if_ne hC 9 dX11_refusal_4 (by decide) (fun h => absurd (by decide) h) (fun _ => ?_)
    refine r_iconst hC (-1) dX11_refusal_7 (by decide) ?_
    exact r_iret hC rfl dX11_refusal_8 ⟨hO, rfl⟩
set_option maxHeartbeats 4000000 in
set_option maxRecDepth 100000 in
theorem T11_asSort {l : Launch} {G : mw_G} {p1 : Int32} {p2 : Int64} {μ : mw_M} {Q : Int64 → Prop}  (hO : P11_asSort p1 p2 Q) : mw_Ml l G kdM yX11_asSort cX11_asSort 3 (some .long) 0 0 [.int p1, .long p2] μ (mw_pq μ Q) := by
  refine mw_enter [(0, .int p1), (1, .long p2)] RX11 (by decide) rfl (Nat.le_of_ble_eq_true rfl) rfl ?_
  intro p e s m args below meth c hC
  unfold P11_asSort at hO
  refine r_iload_n hC 0 dX11_asSort_0 rfl rfl ?_
  refine r_if_ne hC 11 dX11_asSort_1 (by decide) (fun h1 => ?_) (fun h1 => ?_)
  · have hO := hO.2 h1
    refine r_iload_n hC 0 dX11_asSort_11 rfl rfl ?_
    refine r_iconst hC 1 dX11_asSort_12 (by decide) ?_
    refine r_icmp_ne hC 23 dX11_asSort_13 (by decide) (fun h2 => ?_) (fun h2 => ?_)
    · have hO := hO.2 h2
      refine r_iload_n hC 0 dX11_asSort_23 rfl rfl ?_
      refine r_iconst hC 2 dX11_asSort_24 (by decide) ?_
      refine r_icmp_ne hC 34 dX11_asSort_25 (by decide) (fun h3 => ?_) (fun h3 => ?_)
      · have hO := hO.2 h3
        refine r_iload_n hC 0 dX11_asSort_34 rfl rfl ?_
        refine r_iconst hC 4 dX11_asSort_35 (by decide) ?_
        refine r_icmp_ne hC 53 dX11_asSort_36 (by decide) (fun h4 => ?_) (fun h4 => ?_)
        · have hO := hO.2 h4
          refine r_lload_n hC 1 dX11_asSort_53 rfl rfl ?_
          exact r_lret hC rfl dX11_asSort_54 ⟨hO, rfl⟩
        · have hO := hO.1 h4
          refine r_lload_n hC 1 dX11_asSort_39 rfl rfl ?_
          refine r_lconst hC 0 dX11_asSort_40 (by decide) ?_
          refine r_lcmp hC dX11_asSort_41 ?_
          refine r_if_eq hC 49 dX11_asSort_42 (by decide) (fun h5 => ?_) (fun h5 => ?_)
          · have hO := hO.1 h5
            refine r_lconst hC 0 dX11_asSort_49 (by decide) ?_
            refine r_goto hC 54 dX11_asSort_50 (by decide) ?_
            exact r_lret hC rfl dX11_asSort_54 ⟨hO, rfl⟩
          · have hO := hO.2 h5
            refine r_lconst hC 1 dX11_asSort_45 (by decide) ?_
            refine r_goto hC 54 dX11_asSort_46 (by decide) ?_
            exact r_lret hC rfl dX11_asSort_54 ⟨hO, rfl⟩
      · have hO := hO.1 h3
        refine r_lload_n hC 1 dX11_asSort_28 rfl rfl ?_
        refine r_l2i hC dX11_asSort_29 ?_
        refine r_i2l hC dX11_asSort_30 ?_
        refine r_goto hC 54 dX11_asSort_31 (by decide) ?_
        exact r_lret hC rfl dX11_asSort_54 ⟨hO, rfl⟩
    · have hO := hO.1 h2
      refine r_lload_n hC 1 dX11_asSort_16 rfl rfl ?_
      refine r_l2i hC dX11_asSort_17 ?_
      refine r_i2s hC dX11_asSort_18 ?_
      refine r_i2l hC dX11_asSort_19 ?_
      refine r_goto hC 54 dX11_asSort_20 (by decide) ?_
      exact r_lret hC rfl dX11_asSort_54 ⟨hO, rfl⟩
  · have hO := hO.1 h1
    refine r_lload_n hC 1 dX11_asSort_4 rfl rfl ?_
    refine r_l2i hC dX11_asSort_5 ?_
    refine r_i2b hC dX11_asSort_6 ?_
    refine r_i2l hC dX11_asSort_7 ?_
    refine r_goto hC 54 dX11_asSort_8 (by decide) ?_
    exact r_lret hC rfl dX11_asSort_54 ⟨hO, rfl⟩
set_option maxHeartbeats 4000000 in
set_option maxRecDepth 100000 in
theorem T11_put {l : Launch} {G : mw_G} {p1 : Int32} {p2 : Int32} {p3 : Int64} {μ : mw_M} {Q : Int32 → mw_M → Prop}  (hO : P11_put p1 p2 p3 μ Q) : mw_Mi l G kdM yX11_put cX11_put 6 (some .int) 3 67 [.ref (mw_a G 0), .int p1, .int p2, .long p3] μ (Q) := by
  refine mw_enter [(0, .ref (mw_a G 0)), (1, .int p1), (2, .int p2), (3, .long p3)] RX11 (by decide) rfl (Nat.le_of_ble_eq_true rfl) rfl ?_
  intro p e s m args below meth c hC
  unfold P11_put at hO
  refine r_aload_n hC 0 dX11_put_0 rfl rfl ?_
  refine r_iload_n hC 1 dX11_put_1 rfl rfl ?_
  refine r_iload_n hC 2 dX11_put_2 rfl rfl ?_
  refine r_callVi hC [.int p1, .int p2] (T11_refusal  hO) yv11_refusal ml11_401 ob11 rfl ⟨Nat.le_of_ble_eq_true rfl, Nat.le_of_ble_eq_true rfl⟩ rfl rfl (Nat.le_of_ble_eq_true rfl) dX11_put_3 (fun r1 μ2 hO => ?_)
  obtain ⟨hO, hm⟩ := hO
  refine r_memEq hm ?_
  refine r_istore hC [(5, .int r1), (0, .ref (mw_a G 0)), (1, .int p1), (2, .int p2), (3, .long p3)] dX11_put_6 (by decide) rfl ?_
  refine r_iload hC 0 dX11_put_8 rfl ?_
  refine r_if_ne hC 37 dX11_put_10 (by decide) (fun h3 => ?_) (fun h3 => ?_)
  · have hO := hO.2 h3
    refine r_iload hC 0 dX11_put_37 rfl ?_
    refine r_if_ne hC 46 dX11_put_39 (by decide) (fun h4 => ?_) (fun h4 => ?_)
    · have hO := hO.2 h4
      refine r_iload hC 0 dX11_put_46 rfl ?_
      exact r_iret hC rfl dX11_put_48 hO
    · have hO := hO.1 h4
      refine r_iconst hC 1 dX11_put_42 (by decide) ?_
      refine r_goto hC 48 dX11_put_43 (by decide) ?_
      exact r_iret hC rfl dX11_put_48 hO
  · have hO := hO.1 h3
    refine r_aload_n hC 1 dX11_put_13 rfl rfl ?_
    refine r_getR hC 25 fl11_82 ob11 rfl dX11_put_14 ?_
    refine r_bipush hC 60 dX11_put_17 (by decide) ?_
    refine r_iload_n hC 2 dX11_put_19 rfl rfl ?_
    refine r_imul hC dX11_put_20 ?_
    refine r_iload_n hC 3 dX11_put_21 rfl rfl ?_
    refine r_iadd hC dX11_put_22 ?_
    refine r_aload_n hC 1 dX11_put_23 rfl rfl ?_
    refine r_getR hC 23 fl11_76 ob11 rfl dX11_put_24 ?_
    refine r_iload_n hC 2 dX11_put_27 rfl rfl ?_
    obtain ⟨g5, hO⟩ := hO
    refine r_iald hC sh11_59 g5 p1.toNatClampNeg rfl dX11_put_28 ?_
    refine r_bipush hC 50 dX11_put_29 (by decide) ?_
    refine r_isub hC dX11_put_31 ?_
    refine r_lload_n hC 4 dX11_put_32 rfl rfl ?_
    refine r_callSl hC [.int ((μ.1 23 p1.toNatClampNeg) - 50), .long p3] (T11_asSort  hO) yv11_asSort ml11_404 ⟨Nat.le_of_ble_eq_true rfl, Nat.le_of_ble_eq_true rfl⟩ rfl rfl (Nat.le_of_ble_eq_true rfl) dX11_put_33 (fun r6 μ7 hO => ?_)
    obtain ⟨hO, hm⟩ := hO
    refine r_memEq hm ?_
    obtain ⟨g8, hO⟩ := hO
    refine r_last hC sh11_61 g8 (((60 * p1) + p2).toNatClampNeg) rfl dX11_put_36 ?_
    refine r_nmM (fun μ9 hμ9 => ?_)
    have hO := hO μ9 hμ9
    refine r_iload hC 0 dX11_put_37 rfl ?_
    refine r_if_ne hC 46 dX11_put_39 (by decide) (fun h10 => ?_) (fun h10 => ?_)
    · have hO := hO.2 h10
      refine r_iload hC 0 dX11_put_46 rfl ?_
      exact r_iret hC rfl dX11_put_48 hO
    · have hO := hO.1 h10
      refine r_iconst hC 1 dX11_put_42 (by decide) ?_
      refine r_goto hC 48 dX11_put_43 (by decide) ?_
      exact r_iret hC rfl dX11_put_48 hO
set_option maxHeartbeats 4000000 in
set_option maxRecDepth 100000 in
theorem T11_element {l : Launch} {G : mw_G} {p1 : Int32} {p2 : Int32} {μ : mw_M} {Q : Int64 → Prop}  (hO : P11_element p1 p2 μ Q) : mw_Ml l G kdM yX11_element cX11_element 3 (some .long) 3 67 [.ref (mw_a G 0), .int p1, .int p2] μ (mw_pq μ Q) := by
  refine mw_enter [(0, .ref (mw_a G 0)), (1, .int p1), (2, .int p2)] RX11 (by decide) rfl (Nat.le_of_ble_eq_true rfl) rfl ?_
  intro p e s m args below meth c hC
  unfold P11_element at hO
  refine r_aload_n hC 0 dX11_element_0 rfl rfl ?_
  refine r_iload_n hC 1 dX11_element_1 rfl rfl ?_
  refine r_iload_n hC 2 dX11_element_2 rfl rfl ?_
  refine r_callVi hC [.int p1, .int p2] (T11_refusal  hO) yv11_refusal ml11_401 ob11 rfl ⟨Nat.le_of_ble_eq_true rfl, Nat.le_of_ble_eq_true rfl⟩ rfl rfl (Nat.le_of_ble_eq_true rfl) dX11_element_3 (fun r1 μ2 hO => ?_)
  obtain ⟨hO, hm⟩ := hO
  refine r_memEq hm ?_
  refine r_if_eq hC 15 dX11_element_6 (by decide) (fun h3 => ?_) (fun h3 => ?_)
  · have hO := hO.1 h3
    refine r_aload_n hC 0 dX11_element_15 rfl rfl ?_
    refine r_getR hC 25 fl11_82 ob11 rfl dX11_element_16 ?_
    refine r_bipush hC 60 dX11_element_19 (by decide) ?_
    refine r_iload_n hC 1 dX11_element_21 rfl rfl ?_
    refine r_imul hC dX11_element_22 ?_
    refine r_iload_n hC 2 dX11_element_23 rfl rfl ?_
    refine r_iadd hC dX11_element_24 ?_
    obtain ⟨g4, hO⟩ := hO
    refine r_lald hC sh11_61 g4 (((60 * p1) + p2).toNatClampNeg) rfl dX11_element_25 ?_
    exact r_lret hC rfl dX11_element_26 ⟨hO, rfl⟩
  · have hO := hO.2 h3
    refine r_ldc2 hC kc11_410 dX11_element_9 ?_
    refine r_goto hC 26 dX11_element_12 (by decide) ?_
    exact r_lret hC rfl dX11_element_26 ⟨hO, rfl⟩
set_option maxHeartbeats 4000000 in
set_option maxRecDepth 100000 in
theorem T11_shift {l : Launch} {G : mw_G} {p1 : Int32} {p2 : Int32} {p3 : Int32} {p4 : Int32} {p5 : Int32} {μ : mw_M} {Q : Int32 → mw_M → Prop}  (hO : P11_shift p1 p2 p3 p4 p5 μ Q) : mw_Mi l G kdM yX11_shift cX11_shift 7 (some .int) 2 45 [.ref (mw_a G 0), .int p1, .int p2, .int p3, .int p4, .int p5] μ (Q) := by
  refine mw_enter [(0, .ref (mw_a G 0)), (1, .int p1), (2, .int p2), (3, .int p3), (4, .int p4), (5, .int p5)] RX11 (by decide) rfl (Nat.le_of_ble_eq_true rfl) rfl ?_
  intro p e s m args below meth c hC
  unfold P11_shift at hO
  refine r_iload_n hC 1 dX11_shift_0 rfl rfl ?_
  refine r_callSi hC [.int p1] (T11_isShelf  hO) yv11_isShelf ml11_126 ⟨Nat.le_of_ble_eq_true rfl, Nat.le_of_ble_eq_true rfl⟩ rfl rfl (Nat.le_of_ble_eq_true rfl) dX11_shift_1 (fun r1 μ2 hO => ?_)
  rcases hO with ⟨hr, hO⟩ | ⟨hr, hO⟩
  · refine r_topEq hr ?_
    obtain ⟨hO, hm⟩ := hO
    refine r_memEq hm ?_
    refine r_if_eq hC 14 dX11_shift_4 (by decide) (fun h => absurd h (by decide)) (fun _ => ?_)
    refine r_iload_n hC 3 dX11_shift_7 rfl rfl ?_
    refine r_callSi hC [.int p3] (T11_isShelf  hO) yv11_isShelf ml11_126 ⟨Nat.le_of_ble_eq_true rfl, Nat.le_of_ble_eq_true rfl⟩ rfl rfl (Nat.le_of_ble_eq_true rfl) dX11_shift_8 (fun r3 μ4 hO => ?_)
    rcases hO with ⟨hr, hO⟩ | ⟨hr, hO⟩
    · refine r_topEq hr ?_
      obtain ⟨hO, hm⟩ := hO
      refine r_memEq hm ?_
      refine r_if_ne hC 16 dX11_shift_11 (by decide) (fun _ => ?_) (fun h => absurd h (by decide))
      refine r_aload_n hC 0 dX11_shift_16 rfl rfl ?_
      refine r_getR hC 23 fl11_76 ob11 rfl dX11_shift_17 ?_
      refine r_iload_n hC 1 dX11_shift_20 rfl rfl ?_
      obtain ⟨g5, hO⟩ := hO
      refine r_iald hC sh11_59 g5 p1.toNatClampNeg rfl dX11_shift_21 ?_
      refine r_if_lt hC 34 dX11_shift_22 (by decide) (fun h6 => ?_) (fun h6 => ?_)
      · have hO := hO.1 h6
        refine r_bipush hC (-11) dX11_shift_34 (by decide) ?_
        exact r_iret hC rfl dX11_shift_36 hO
      · have hO := hO.2 h6
        refine r_aload_n hC 0 dX11_shift_25 rfl rfl ?_
        refine r_getR hC 23 fl11_76 ob11 rfl dX11_shift_26 ?_
        refine r_iload_n hC 3 dX11_shift_29 rfl rfl ?_
        obtain ⟨g7, hO⟩ := hO
        refine r_iald hC sh11_59 g7 p3.toNatClampNeg rfl dX11_shift_30 ?_
        refine r_if_ge hC 37 dX11_shift_31 (by decide) (fun h8 => ?_) (fun h8 => ?_)
        · have hO := hO.1 h8
          refine r_aload_n hC 0 dX11_shift_37 rfl rfl ?_
          refine r_getR hC 23 fl11_76 ob11 rfl dX11_shift_38 ?_
          refine r_iload_n hC 1 dX11_shift_41 rfl rfl ?_
          obtain ⟨g9, hO⟩ := hO
          refine r_iald hC sh11_59 g9 p1.toNatClampNeg rfl dX11_shift_42 ?_
          refine r_bipush hC 50 dX11_shift_43 (by decide) ?_
          refine r_icmp_lt hC 63 dX11_shift_45 (by decide) (fun h10 => ?_) (fun h10 => ?_)
          · have hO := hO.1 h10
            refine r_bipush hC (-12) dX11_shift_63 (by decide) ?_
            exact r_iret hC rfl dX11_shift_65 hO
          · have hO := hO.2 h10
            refine r_aload_n hC 0 dX11_shift_48 rfl rfl ?_
            refine r_getR hC 23 fl11_76 ob11 rfl dX11_shift_49 ?_
            refine r_iload_n hC 1 dX11_shift_52 rfl rfl ?_
            obtain ⟨g11, hO⟩ := hO
            refine r_iald hC sh11_59 g11 p1.toNatClampNeg rfl dX11_shift_53 ?_
            refine r_aload_n hC 0 dX11_shift_54 rfl rfl ?_
            refine r_getR hC 23 fl11_76 ob11 rfl dX11_shift_55 ?_
            refine r_iload_n hC 3 dX11_shift_58 rfl rfl ?_
            obtain ⟨g12, hO⟩ := hO
            refine r_iald hC sh11_59 g12 p3.toNatClampNeg rfl dX11_shift_59 ?_
            refine r_icmp_eq hC 66 dX11_shift_60 (by decide) (fun h13 => ?_) (fun h13 => ?_)
            · have hO := hO.1 h13
              refine r_iload hC 5 dX11_shift_66 rfl ?_
              refine r_if_lt hC 107 dX11_shift_68 (by decide) (fun h14 => ?_) (fun h14 => ?_)
              · have hO := hO.1 h14
                refine r_bipush hC (-13) dX11_shift_107 (by decide) ?_
                exact r_iret hC rfl dX11_shift_109 hO
              · have hO := hO.2 h14
                refine r_iload_n hC 2 dX11_shift_71 rfl rfl ?_
                refine r_if_lt hC 107 dX11_shift_72 (by decide) (fun h15 => ?_) (fun h15 => ?_)
                · have hO := hO.1 h15
                  refine r_bipush hC (-13) dX11_shift_107 (by decide) ?_
                  exact r_iret hC rfl dX11_shift_109 hO
                · have hO := hO.2 h15
                  refine r_iload hC 4 dX11_shift_75 rfl ?_
                  refine r_if_lt hC 107 dX11_shift_77 (by decide) (fun h16 => ?_) (fun h16 => ?_)
                  · have hO := hO.1 h16
                    refine r_bipush hC (-13) dX11_shift_107 (by decide) ?_
                    exact r_iret hC rfl dX11_shift_109 hO
                  · have hO := hO.2 h16
                    refine r_iload_n hC 2 dX11_shift_80 rfl rfl ?_
                    refine r_aload_n hC 0 dX11_shift_81 rfl rfl ?_
                    refine r_getR hC 24 fl11_79 ob11 rfl dX11_shift_82 ?_
                    refine r_iload_n hC 1 dX11_shift_85 rfl rfl ?_
                    obtain ⟨g17, hO⟩ := hO
                    refine r_iald hC sh11_60 g17 p1.toNatClampNeg rfl dX11_shift_86 ?_
                    refine r_iload hC 5 dX11_shift_87 rfl ?_
                    refine r_isub hC dX11_shift_89 ?_
                    refine r_icmp_gt hC 107 dX11_shift_90 (by decide) (fun h18 => ?_) (fun h18 => ?_)
                    · have hO := hO.1 h18
                      refine r_bipush hC (-13) dX11_shift_107 (by decide) ?_
                      exact r_iret hC rfl dX11_shift_109 hO
                    · have hO := hO.2 h18
                      refine r_iload hC 4 dX11_shift_93 rfl ?_
                      refine r_aload_n hC 0 dX11_shift_95 rfl rfl ?_
                      refine r_getR hC 24 fl11_79 ob11 rfl dX11_shift_96 ?_
                      refine r_iload_n hC 3 dX11_shift_99 rfl rfl ?_
                      obtain ⟨g19, hO⟩ := hO
                      refine r_iald hC sh11_60 g19 p3.toNatClampNeg rfl dX11_shift_100 ?_
                      refine r_iload hC 5 dX11_shift_101 rfl ?_
                      refine r_isub hC dX11_shift_103 ?_
                      refine r_icmp_le hC 110 dX11_shift_104 (by decide) (fun h20 => ?_) (fun h20 => ?_)
                      · have hO := hO.1 h20
                        refine r_iconst hC 0 dX11_shift_110 (by decide) ?_
                        refine r_istore hC [(6, .int 0), (0, .ref (mw_a G 0)), (1, .int p1), (2, .int p2), (3, .int p3), (4, .int p4), (5, .int p5)] dX11_shift_111 (by decide) rfl ?_
                        have hLn23 : ∀  (K1 : Int32 → mw_M → Prop) (hK1 : ∀ (v21 : Int32) (μ22 : mw_M), K1 v21 μ22 → mw_W p l e (mw_rm 2 45) s m args below meth c G kdM 7 (MQ below (va_Qi (Q) (mw_B G kdM) (mw_A G kdM)) args s 0 0 (mw_A G kdM)) 147 [(6, .int v21), (0, .ref (mw_a G 0)), (1, .int p1), (2, .int p2), (3, .int p3), (4, .int p4), (5, .int p5)] [] μ22) (n23 : Nat) (v21 : Int32) (μ22 : mw_M), L11_shift_113 p1 p2 p3 p4 p5 Q K1 n23 v21 μ22 → mw_W p l e (mw_rm 2 45) s m args below meth c G kdM 7 (MQ below (va_Qi (Q) (mw_B G kdM) (mw_A G kdM)) args s 0 0 (mw_A G kdM)) 113 [(6, .int v21), (0, .ref (mw_a G 0)), (1, .int p1), (2, .int p2), (3, .int p3), (4, .int p4), (5, .int p5)] [] μ22 := by
                          intro  K1 hK1 n23
                          induction n23 with
                          | zero => intro v21 μ22 hO; exact False.elim hO
                          | succ n23 ihn23 =>
                            intro v21 μ22 hO
                            refine r_iload hC 0 dX11_shift_113 rfl ?_
                            refine r_iload hC 6 dX11_shift_115 rfl ?_
                            refine r_icmp_ge hC 147 dX11_shift_117 (by decide) (fun h24 => ?_) (fun h24 => ?_)
                            · have hO := hO.1 h24
                              refine r_lv hC [(6, .int v21), (0, .ref (mw_a G 0)), (1, .int p1), (2, .int p2), (3, .int p3), (4, .int p4), (5, .int p5)] [0, 1, 2, 3, 4, 5, 6] rfl ?_
                              exact hK1 v21 μ22 hO
                            · have hO := hO.2 h24
                              refine r_aload_n hC 1 dX11_shift_120 rfl rfl ?_
                              refine r_getR hC 26 fl11_86 ob11 rfl dX11_shift_121 ?_
                              refine r_iload hC 0 dX11_shift_124 rfl ?_
                              refine r_aload_n hC 1 dX11_shift_126 rfl rfl ?_
                              refine r_getR hC 25 fl11_82 ob11 rfl dX11_shift_127 ?_
                              refine r_bipush hC 60 dX11_shift_130 (by decide) ?_
                              refine r_iload_n hC 2 dX11_shift_132 rfl rfl ?_
                              refine r_imul hC dX11_shift_133 ?_
                              refine r_iload_n hC 3 dX11_shift_134 rfl rfl ?_
                              refine r_iadd hC dX11_shift_135 ?_
                              refine r_iload hC 0 dX11_shift_136 rfl ?_
                              refine r_iadd hC dX11_shift_138 ?_
                              obtain ⟨g25, hO⟩ := hO
                              refine r_lald hC sh11_61 g25 ((((60 * p1) + p2) + v21).toNatClampNeg) rfl dX11_shift_139 ?_
                              obtain ⟨g26, hO⟩ := hO
                              refine r_last hC sh11_62 g26 v21.toNatClampNeg rfl dX11_shift_140 ?_
                              refine r_nmM (fun μ27 hμ27 => ?_)
                              have hO := hO μ27 hμ27
                              obtain ⟨x28, hx28⟩ : ∃ y : Int32, y = v21 + 1 := ⟨_, rfl⟩
                              have hO := hO x28 hx28
                              refine r_iinc hC x28 0 [(6, .int x28), (0, .ref (mw_a G 0)), (1, .int p1), (2, .int p2), (3, .int p3), (4, .int p4), (5, .int p5)] dX11_shift_141 rfl (by rw [hx28]; rfl) (by decide) rfl ?_
                              refine r_goto hC 113 dX11_shift_144 (by decide) ?_
                              refine r_lv hC [(6, .int x28), (0, .ref (mw_a G 0)), (1, .int p1), (2, .int p2), (3, .int p3), (4, .int p4), (5, .int p5)] [0, 1, 2, 3, 4, 5, 6] rfl ?_
                              exact ihn23 x28 μ27 hO
                        obtain ⟨n23, hO⟩ := hO
                        refine hLn23  _ (fun v21 μ22 hO => ?_) n23 _ _ hO
                        refine r_iconst hC 0 dX11_shift_147 (by decide) ?_
                        refine r_istore hC [(6, .int 0), (0, .ref (mw_a G 0)), (1, .int p1), (2, .int p2), (3, .int p3), (4, .int p4), (5, .int p5)] dX11_shift_148 (by decide) rfl ?_
                        have hLn31 : ∀   (n31 : Nat) (v29 : Int32) (μ30 : mw_M), L11_shift_150 p1 p2 p3 p4 p5 Q n31 v29 μ30 → mw_W p l e (mw_rm 2 45) s m args below meth c G kdM 7 (MQ below (va_Qi (Q) (mw_B G kdM) (mw_A G kdM)) args s 0 0 (mw_A G kdM)) 150 [(6, .int v29), (0, .ref (mw_a G 0)), (1, .int p1), (2, .int p2), (3, .int p3), (4, .int p4), (5, .int p5)] [] μ30 := by
                          intro   n31
                          induction n31 with
                          | zero => intro v29 μ30 hO; exact False.elim hO
                          | succ n31 ihn31 =>
                            intro v29 μ30 hO
                            refine r_iload hC 0 dX11_shift_150 rfl ?_
                            refine r_iload hC 6 dX11_shift_152 rfl ?_
                            refine r_icmp_ge hC 185 dX11_shift_154 (by decide) (fun h32 => ?_) (fun h32 => ?_)
                            · have hO := hO.1 h32
                              refine r_iload hC 6 dX11_shift_185 rfl ?_
                              exact r_iret hC rfl dX11_shift_187 hO
                            · have hO := hO.2 h32
                              refine r_aload_n hC 1 dX11_shift_157 rfl rfl ?_
                              refine r_getR hC 25 fl11_82 ob11 rfl dX11_shift_158 ?_
                              refine r_bipush hC 60 dX11_shift_161 (by decide) ?_
                              refine r_iload_n hC 4 dX11_shift_163 rfl rfl ?_
                              refine r_imul hC dX11_shift_164 ?_
                              refine r_iload hC 5 dX11_shift_165 rfl ?_
                              refine r_iadd hC dX11_shift_167 ?_
                              refine r_iload hC 0 dX11_shift_168 rfl ?_
                              refine r_iadd hC dX11_shift_170 ?_
                              refine r_aload_n hC 1 dX11_shift_171 rfl rfl ?_
                              refine r_getR hC 26 fl11_86 ob11 rfl dX11_shift_172 ?_
                              refine r_iload hC 0 dX11_shift_175 rfl ?_
                              obtain ⟨g33, hO⟩ := hO
                              refine r_lald hC sh11_62 g33 v29.toNatClampNeg rfl dX11_shift_177 ?_
                              obtain ⟨g34, hO⟩ := hO
                              refine r_last hC sh11_61 g34 ((((60 * p3) + p4) + v29).toNatClampNeg) rfl dX11_shift_178 ?_
                              refine r_nmM (fun μ35 hμ35 => ?_)
                              have hO := hO μ35 hμ35
                              obtain ⟨x36, hx36⟩ : ∃ y : Int32, y = v29 + 1 := ⟨_, rfl⟩
                              have hO := hO x36 hx36
                              refine r_iinc hC x36 0 [(6, .int x36), (0, .ref (mw_a G 0)), (1, .int p1), (2, .int p2), (3, .int p3), (4, .int p4), (5, .int p5)] dX11_shift_179 rfl (by rw [hx36]; rfl) (by decide) rfl ?_
                              refine r_goto hC 150 dX11_shift_182 (by decide) ?_
                              refine r_lv hC [(6, .int x36), (0, .ref (mw_a G 0)), (1, .int p1), (2, .int p2), (3, .int p3), (4, .int p4), (5, .int p5)] [0, 1, 2, 3, 4, 5, 6] rfl ?_
                              exact ihn31 x36 μ35 hO
                        obtain ⟨n31, hO⟩ := hO
                        refine hLn31   n31 _ _ hO
                      · have hO := hO.2 h20
                        refine r_bipush hC (-13) dX11_shift_107 (by decide) ?_
                        exact r_iret hC rfl dX11_shift_109 hO
            · have hO := hO.2 h13
              refine r_bipush hC (-12) dX11_shift_63 (by decide) ?_
              exact r_iret hC rfl dX11_shift_65 hO
        · have hO := hO.2 h8
          refine r_bipush hC (-11) dX11_shift_34 (by decide) ?_
          exact r_iret hC rfl dX11_shift_36 hO
    · refine r_topEq hr ?_
      obtain ⟨hO, hm⟩ := hO
      refine r_memEq hm ?_
      refine r_if_ne hC 16 dX11_shift_11 (by decide) (fun h => absurd (by decide) h) (fun _ => ?_)
      refine r_iconst hC (-1) dX11_shift_14 (by decide) ?_
      exact r_iret hC rfl dX11_shift_15 hO
  · refine r_topEq hr ?_
    obtain ⟨hO, hm⟩ := hO
    refine r_memEq hm ?_
    refine r_if_eq hC 14 dX11_shift_4 (by decide) (fun _ => ?_) (fun h => absurd (by decide) h)
    refine r_iconst hC (-1) dX11_shift_14 (by decide) ?_
    exact r_iret hC rfl dX11_shift_15 hO
set_option maxHeartbeats 4000000 in
set_option maxRecDepth 100000 in
theorem T11_taken {l : Launch} {G : mw_G} {p1 : Int32} {p2 : Int32} {μ : mw_M} {Q : Int32 → Prop}  (hO : P11_taken p1 p2 μ Q) : mw_Mi l G kdM yX11_taken cX11_taken 4 (some .int) 2 45 [.ref (mw_a G 0), .int p1, .int p2] μ (mw_pq μ Q) := by
  refine mw_enter [(0, .ref (mw_a G 0)), (1, .int p1), (2, .int p2)] RX11 (by decide) rfl (Nat.le_of_ble_eq_true rfl) rfl ?_
  intro p e s m args below meth c hC
  unfold P11_taken at hO
  refine r_iload_n hC 1 dX11_taken_0 rfl rfl ?_
  refine r_callSi hC [.int p1] (T11_isShelf  hO) yv11_isShelf ml11_126 ⟨Nat.le_of_ble_eq_true rfl, Nat.le_of_ble_eq_true rfl⟩ rfl rfl (Nat.le_of_ble_eq_true rfl) dX11_taken_1 (fun r1 μ2 hO => ?_)
  rcases hO with ⟨hr, hO⟩ | ⟨hr, hO⟩
  · refine r_topEq hr ?_
    obtain ⟨hO, hm⟩ := hO
    refine r_memEq hm ?_
    refine r_if_eq hC 19 dX11_taken_4 (by decide) (fun h => absurd h (by decide)) (fun _ => ?_)
    refine r_iload_n hC 2 dX11_taken_7 rfl rfl ?_
    refine r_i2l hC dX11_taken_8 ?_
    refine r_lconst hC 0 dX11_taken_9 (by decide) ?_
    refine r_ldc2 hC kc11_369 dX11_taken_10 ?_
    refine r_callSi hC [.long (Int32.toInt64 p2), .long 0, .long 7] (T11_within  hO) yv11_within ml11_106 ⟨Nat.le_of_ble_eq_true rfl, Nat.le_of_ble_eq_true rfl⟩ rfl rfl (Nat.le_of_ble_eq_true rfl) dX11_taken_13 (fun r3 μ4 hO => ?_)
    rcases hO with ⟨hr, hO⟩ | ⟨hr, hO⟩
    · refine r_topEq hr ?_
      obtain ⟨hO, hm⟩ := hO
      refine r_memEq hm ?_
      refine r_if_ne hC 21 dX11_taken_16 (by decide) (fun _ => ?_) (fun h => absurd h (by decide))
      refine r_aload_n hC 0 dX11_taken_21 rfl rfl ?_
      refine r_getR hC 23 fl11_76 ob11 rfl dX11_taken_22 ?_
      refine r_iload_n hC 1 dX11_taken_25 rfl rfl ?_
      obtain ⟨g5, hO⟩ := hO
      refine r_iald hC sh11_59 g5 p1.toNatClampNeg rfl dX11_taken_26 ?_
      refine r_if_ge hC 33 dX11_taken_27 (by decide) (fun h6 => ?_) (fun h6 => ?_)
      · have hO := hO.1 h6
        refine r_aload_n hC 0 dX11_taken_33 rfl rfl ?_
        refine r_getR hC 23 fl11_76 ob11 rfl dX11_taken_34 ?_
        refine r_iload_n hC 1 dX11_taken_37 rfl rfl ?_
        obtain ⟨g7, hO⟩ := hO
        refine r_iald hC sh11_59 g7 p1.toNatClampNeg rfl dX11_taken_38 ?_
        refine r_bipush hC 50 dX11_taken_39 (by decide) ?_
        refine r_icmp_lt hC 47 dX11_taken_41 (by decide) (fun h8 => ?_) (fun h8 => ?_)
        · have hO := hO.1 h8
          refine r_aload_n hC 0 dX11_taken_47 rfl rfl ?_
          refine r_aload_n hC 0 dX11_taken_48 rfl rfl ?_
          refine r_getR hC 23 fl11_76 ob11 rfl dX11_taken_49 ?_
          refine r_iload_n hC 1 dX11_taken_52 rfl rfl ?_
          obtain ⟨g9, hO⟩ := hO
          refine r_iald hC sh11_59 g9 p1.toNatClampNeg rfl dX11_taken_53 ?_
          refine r_callVi hC [.int (μ.1 23 p1.toNatClampNeg)] (T11_kindOf  hO) yv11_kindOf ml11_412 ob11 rfl ⟨Nat.le_of_ble_eq_true rfl, Nat.le_of_ble_eq_true rfl⟩ rfl rfl (Nat.le_of_ble_eq_true rfl) dX11_taken_54 (fun r10 μ11 hO => ?_)
          obtain ⟨hO, hm⟩ := hO
          refine r_memEq hm ?_
          refine r_istore_n hC [(3, .int r10), (0, .ref (mw_a G 0)), (1, .int p1), (2, .int p2)] dX11_taken_57 rfl (by decide) rfl ?_
          have hLn13 : ∀  (K1 : Int32 → Prop) (hK1 : ∀ (v12 : Int32), K1 v12 → mw_W p l e (mw_rm 2 45) s m args below meth c G kdM 4 (MQ below (va_Qi (mw_pq μ Q) (mw_B G kdM) (mw_A G kdM)) args s 0 0 (mw_A G kdM)) 75 [(3, .int v12), (0, .ref (mw_a G 0)), (1, .int p1), (2, .int p2)] [] μ) (n13 : Nat) (v12 : Int32), L11_taken_58 p1 p2 μ Q K1 n13 v12 → mw_W p l e (mw_rm 2 45) s m args below meth c G kdM 4 (MQ below (va_Qi (mw_pq μ Q) (mw_B G kdM) (mw_A G kdM)) args s 0 0 (mw_A G kdM)) 58 [(3, .int v12), (0, .ref (mw_a G 0)), (1, .int p1), (2, .int p2)] [] μ := by
            intro  K1 hK1 n13
            induction n13 with
            | zero => intro v12 hO; exact False.elim hO
            | succ n13 ihn13 =>
              intro v12 hO
              refine r_iload_n hC 0 dX11_taken_58 rfl rfl ?_
              refine r_iload_n hC 3 dX11_taken_59 rfl rfl ?_
              refine r_icmp_eq hC 75 dX11_taken_60 (by decide) (fun h14 => ?_) (fun h14 => ?_)
              · have hO := hO.1 h14
                refine r_lv hC [(3, .int v12), (0, .ref (mw_a G 0)), (1, .int p1), (2, .int p2)] [0, 1, 2, 3] rfl ?_
                exact hK1 v12 hO
              · have hO := hO.2 h14
                refine r_iload_n hC 0 dX11_taken_63 rfl rfl ?_
                refine r_if_le hC 75 dX11_taken_64 (by decide) (fun h15 => ?_) (fun h15 => ?_)
                · have hO := hO.1 h15
                  refine r_lv hC [(3, .int v12), (0, .ref (mw_a G 0)), (1, .int p1), (2, .int p2)] [0, 1, 2, 3] rfl ?_
                  exact hK1 v12 hO
                · have hO := hO.2 h15
                  refine r_iload_n hC 0 dX11_taken_67 rfl rfl ?_
                  refine r_callSi hC [.int v12] (T11_above  hO) yv11_above ml11_415 ⟨Nat.le_of_ble_eq_true rfl, Nat.le_of_ble_eq_true rfl⟩ rfl rfl (Nat.le_of_ble_eq_true rfl) dX11_taken_68 (fun r16 μ17 hO => ?_)
                  obtain ⟨hO, hm⟩ := hO
                  refine r_memEq hm ?_
                  refine r_istore_n hC [(3, .int r16), (0, .ref (mw_a G 0)), (1, .int p1), (2, .int p2)] dX11_taken_71 rfl (by decide) rfl ?_
                  refine r_goto hC 58 dX11_taken_72 (by decide) ?_
                  refine r_lv hC [(3, .int r16), (0, .ref (mw_a G 0)), (1, .int p1), (2, .int p2)] [0, 1, 2, 3] rfl ?_
                  exact ihn13 r16 hO
          obtain ⟨n13, hO⟩ := hO
          refine hLn13  _ (fun v12 hO => ?_) n13 _ hO
          refine r_iload_n hC 0 dX11_taken_75 rfl rfl ?_
          refine r_iload_n hC 3 dX11_taken_76 rfl rfl ?_
          refine r_icmp_ne hC 93 dX11_taken_77 (by decide) (fun h18 => ?_) (fun h18 => ?_)
          · have hO := hO.2 h18
            refine r_bipush hC (-12) dX11_taken_93 (by decide) ?_
            exact r_iret hC rfl dX11_taken_95 ⟨hO, rfl⟩
          · have hO := hO.1 h18
            refine r_aload_n hC 1 dX11_taken_80 rfl rfl ?_
            refine r_aload_n hC 1 dX11_taken_81 rfl rfl ?_
            refine r_getR hC 23 fl11_76 ob11 rfl dX11_taken_82 ?_
            refine r_iload_n hC 2 dX11_taken_85 rfl rfl ?_
            obtain ⟨g19, hO⟩ := hO
            refine r_iald hC sh11_59 g19 p1.toNatClampNeg rfl dX11_taken_86 ?_
            refine r_callVi hC [.int (μ.1 23 p1.toNatClampNeg)] (T11_kindOf  hO) yv11_kindOf ml11_412 ob11 rfl ⟨Nat.le_of_ble_eq_true rfl, Nat.le_of_ble_eq_true rfl⟩ rfl rfl (Nat.le_of_ble_eq_true rfl) dX11_taken_87 (fun r20 μ21 hO => ?_)
            obtain ⟨hO, hm⟩ := hO
            refine r_memEq hm ?_
            refine r_goto hC 95 dX11_taken_90 (by decide) ?_
            exact r_iret hC rfl dX11_taken_95 ⟨hO, rfl⟩
        · have hO := hO.2 h8
          refine r_bipush hC (-12) dX11_taken_44 (by decide) ?_
          exact r_iret hC rfl dX11_taken_46 ⟨hO, rfl⟩
      · have hO := hO.2 h6
        refine r_bipush hC (-11) dX11_taken_30 (by decide) ?_
        exact r_iret hC rfl dX11_taken_32 ⟨hO, rfl⟩
    · refine r_topEq hr ?_
      obtain ⟨hO, hm⟩ := hO
      refine r_memEq hm ?_
      refine r_if_ne hC 21 dX11_taken_16 (by decide) (fun h => absurd (by decide) h) (fun _ => ?_)
      refine r_iconst hC (-1) dX11_taken_19 (by decide) ?_
      exact r_iret hC rfl dX11_taken_20 ⟨hO, rfl⟩
  · refine r_topEq hr ?_
    obtain ⟨hO, hm⟩ := hO
    refine r_memEq hm ?_
    refine r_if_eq hC 19 dX11_taken_4 (by decide) (fun _ => ?_) (fun h => absurd (by decide) h)
    refine r_iconst hC (-1) dX11_taken_19 (by decide) ?_
    exact r_iret hC rfl dX11_taken_20 ⟨hO, rfl⟩
set_option maxHeartbeats 4000000 in
set_option maxRecDepth 100000 in
theorem T11_count {l : Launch} {G : mw_G} {p1 : Int32} {μ : mw_M} {Q : Int32 → Prop}  (hO : P11_count p1 μ Q) : mw_Mi l G kdM yX11_count cX11_count 2 (some .int) 0 0 [.ref (mw_a G 0), .int p1] μ (mw_pq μ Q) := by
  refine mw_enter [(0, .ref (mw_a G 0)), (1, .int p1)] RX11 (by decide) rfl (Nat.le_of_ble_eq_true rfl) rfl ?_
  intro p e s m args below meth c hC
  unfold P11_count at hO
  refine r_iload_n hC 1 dX11_count_0 rfl rfl ?_
  by_cases h1 : p1 = 0
  · have hO := hO.1 h1
    refine r_tin hC 44 dX11_count_1 (by rw [h1]; decide) (by rw [h1]; decide) (by rw [h1] <;> rfl) (by decide) ?_
    refine r_aload_n hC 0 dX11_count_44 rfl rfl ?_
    refine r_getI hC fl11_103 ob11 rfl dX11_count_45 ?_
    exact r_iret hC rfl dX11_count_48 ⟨hO, rfl⟩
  by_cases h2 : p1 = 1
  · have hO := hO.2.1 h2
    refine r_tin hC 49 dX11_count_1 (by rw [h2]; decide) (by rw [h2]; decide) (by rw [h2] <;> rfl) (by decide) ?_
    refine r_aload_n hC 0 dX11_count_49 rfl rfl ?_
    refine r_getI hC fl11_151 ob11 rfl dX11_count_50 ?_
    exact r_iret hC rfl dX11_count_53 ⟨hO, rfl⟩
  by_cases h3 : p1 = 2
  · have hO := hO.2.2.1 h3
    refine r_tin hC 54 dX11_count_1 (by rw [h3]; decide) (by rw [h3]; decide) (by rw [h3] <;> rfl) (by decide) ?_
    refine r_aload_n hC 0 dX11_count_54 rfl rfl ?_
    refine r_getI hC fl11_235 ob11 rfl dX11_count_55 ?_
    exact r_iret hC rfl dX11_count_58 ⟨hO, rfl⟩
  by_cases h4 : p1 = 3
  · have hO := hO.2.2.2.1 h4
    refine r_tin hC 59 dX11_count_1 (by rw [h4]; decide) (by rw [h4]; decide) (by rw [h4] <;> rfl) (by decide) ?_
    refine r_aload_n hC 0 dX11_count_59 rfl rfl ?_
    refine r_getI hC fl11_187 ob11 rfl dX11_count_60 ?_
    exact r_iret hC rfl dX11_count_63 ⟨hO, rfl⟩
  by_cases h5 : p1 = 4
  · have hO := hO.2.2.2.2.1 h5
    refine r_tin hC 64 dX11_count_1 (by rw [h5]; decide) (by rw [h5]; decide) (by rw [h5] <;> rfl) (by decide) ?_
    refine r_aload_n hC 0 dX11_count_64 rfl rfl ?_
    refine r_getI hC fl11_93 ob11 rfl dX11_count_65 ?_
    exact r_iret hC rfl dX11_count_68 ⟨hO, rfl⟩
  by_cases h6 : p1 = 5
  · have hO := hO.2.2.2.2.2.1 h6
    refine r_tin hC 69 dX11_count_1 (by rw [h6]; decide) (by rw [h6]; decide) (by rw [h6] <;> rfl) (by decide) ?_
    refine r_aload_n hC 0 dX11_count_69 rfl rfl ?_
    refine r_getI hC fl11_366 ob11 rfl dX11_count_70 ?_
    exact r_iret hC rfl dX11_count_73 ⟨hO, rfl⟩
  by_cases h7 : p1 = 6
  · have hO := hO.2.2.2.2.2.2.1 h7
    refine r_tin hC 74 dX11_count_1 (by rw [h7]; decide) (by rw [h7]; decide) (by rw [h7] <;> rfl) (by decide) ?_
    refine r_aload_n hC 0 dX11_count_74 rfl rfl ?_
    refine r_getI hC fl11_371 ob11 rfl dX11_count_75 ?_
    exact r_iret hC rfl dX11_count_78 ⟨hO, rfl⟩
  have hO := hO.2.2.2.2.2.2.2 h1 h2 h3 h4 h5 h6 h7
  refine r_tdef hC 79 dX11_count_1 (by decide) rfl (fun k hk => match k, hk with | 0, _ => Or.inr (mw_ne h1 rfl) | 1, _ => Or.inr (mw_ne h2 rfl) | 2, _ => Or.inr (mw_ne h3 rfl) | 3, _ => Or.inr (mw_ne h4 rfl) | 4, _ => Or.inr (mw_ne h5 rfl) | 5, _ => Or.inr (mw_ne h6 rfl) | 6, _ => Or.inr (mw_ne h7 rfl) | k + 7, h => absurd h (by show ¬ k + 7 < 7; omega)) ?_
  refine r_iconst hC (-1) dX11_count_79 (by decide) ?_
  exact r_iret hC rfl dX11_count_80 ⟨hO, rfl⟩
