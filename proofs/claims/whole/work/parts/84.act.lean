/-! body, act, trace, count -/
theorem SH1.mono {nb nb' a66 a67 a68 a69 m23 m24 : Int32} (h : SH1 nb a66 a67 a68 a69 m23 m24) (hn : ∀ w : Nat, w < 50 → nI w < nb → nI w < nb') : SH1 nb' a66 a67 a68 a69 m23 m24 := by
  rcases h with h | ⟨h1, w, h2, h3, h4⟩ | h
  · exact Or.inl h
  · exact Or.inr (Or.inl ⟨h1, w, h2, hn w h2 h3, h4⟩)
  · exact Or.inr (Or.inr h)
theorem op_body {a m : mw_M} (hA : RActs a m) (hS : RSh a m) {p1 : Int32} {Q : Int32 → Int32 → mw_M → mw_M → Prop} (hQ : ∀ r u v, FX [62, 63] a u → FM [21] [53] m v → RActs u v → RSh u v → Q r r u v) : P10_body p1 a (fun r u => P11_body p1 m (fun r' v => Q r r' u v)) := by
  obtain ⟨n, r, k, t, h1, h2, h3, h4, h5, h6, h7, h8⟩ := id hA
  have hb := fun r => hQ r a m FX.rf FM.rf hA hS
  unfold P10_body
  rw [ch0_isKind]
  have ref : ∀ (K : Int32 → mw_M → Prop), P11_body p1 m K = if 0 ≤ p1.toInt ∧ p1.toInt ≤ 7 then ((((m.1 0 53) = 50 → K (-3) m) ∧ (¬ (m.1 0 53) = 50 → (vp_in (m.1 0 53) 50 ∧ (∀ μ5 : mw_M, μ5 = mw_I m 21 ((m.1 0 53).toNatClampNeg) p1 → (∀ μ6 : mw_M, μ6 = mw_I μ5 0 53 ((μ5.1 0 53) + 1) → K ((μ6.1 0 53) - 1) μ6)))))) else K (-1) m := fun K => by
    unfold P11_body
    rw [ch_within, toL]
    rfl
  simp only [ref]
  by_cases c : 0 ≤ p1.toInt ∧ p1.toInt ≤ 7
  · rw [if_pos c]
    obtain ⟨kd, hk, rfl⟩ := nI_get c.1
    rw [nI_toInt (by omega)] at c
    have c' : 0 ≤ (nI kd).toInt ∧ (nI kd).toInt ≤ 7 := by rw [nI_toInt (by omega)]; exact c
    unfold P0_areFull P0_keepOne
    rw [h3]
    refine ⟨fun d => ?_, fun d => ?_⟩
    · have d' : n < 50 := by
        rw [zlt, nI_toInt (by omega)] at d
        simp only [Int32.reduceToInt] at d
        omega
      refine ⟨fun _ => ⟨vp_in_nI d' (by decide), fun μ3 e3 μ4 e4 => ?_⟩, fun z => absurd d z⟩
      rw [nI_clamp (by omega)] at e3
      have e5 : μ3.1 62 2 = nI n := by rw [e3, mw_I_ne (by decide)]; exact h3
      rw [e5, show nI n + 1 = nI (n + 1) from nI_add n 1] at e4
      have e6 : μ4.1 62 2 = nI (n + 1) := by rw [e4, mw_I_eq]
      rw [e6, show nI (n + 1) - 1 = nI n from nI_sub1 (by omega), if_pos c', h4]
      refine ⟨fun z => absurd z (by rw [show (50 : Int32) = nI 50 from rfl, nI_eq (by omega) (by omega)]; omega), fun _ => ⟨vp_in_nI d' (by decide), fun μ5 e7 μ6 e8 => ?_⟩⟩
      rw [nI_clamp (by omega)] at e7
      have e9 : μ5.1 0 53 = nI n := by rw [e7, mw_I_ne (by decide)]; exact h4
      rw [e9, show nI n + 1 = nI (n + 1) from nI_add n 1] at e8
      have e10 : μ6.1 0 53 = nI (n + 1) := by rw [e8, mw_I_eq]
      rw [e10, show nI (n + 1) - 1 = nI n from nI_sub1 (by omega)]
      have FXu : FX [62, 63] a μ4 := by rw [e4, e3]; exact (FX.rf.I (by decide)).I (by decide)
      refine hQ _ μ4 μ6 FXu (by rw [e8, e7]; exact (FM.rf.I (by decide) (by decide)).O (by decide)) ?_ ?_
      · refine ⟨n + 1, r, fun i => if i = n then kd else k i, t, by omega, h2, e6, e10, ?_, ?_, fun i hi => ?_, fun i hi h24 => ?_⟩
        · rw [e4, mw_I_nj (by decide), e3, mw_I_ne (by decide)]; exact h5
        · rw [e8, mw_I_nj (by decide), e7, mw_I_ne (by decide)]; exact h6
        · have g63 : μ4.1 63 = (mw_I a 63 n (nI kd)).1 63 := by rw [e4, mw_I_row (by decide), e3]
          have g21 : μ6.1 21 = (mw_I m 21 n (nI kd)).1 21 := by rw [e8, mw_I_row (by decide), e7]
          show μ4.1 63 i = nI (if i = n then kd else k i) ∧ μ6.1 21 i = nI (if i = n then kd else k i) ∧ (if i = n then kd else k i) < 8
          rw [g63, g21, mw_I_get, mw_I_get]
          by_cases q : i = n
          · simp only [q, and_self, if_true, true_and]; omega
          · simp only [q, and_false, if_false]; exact h7 i (by omega)
        · rw [e4, mw_I_ne (by decide), e3, mw_I_ne (by decide), e8, mw_I_ne (by decide), e7, mw_I_ne (by decide)]
          exact h8 i hi h24
      · obtain ⟨s1, s2, s3⟩ := hS
        have x2 : ∀ q, μ4.2 q = a.2 q := fun q => by rw [e4, e3]; rfl
        have v2 : μ6.2 = m.2 := by rw [e8, e7]; rfl
        have x1 : ∀ q, q ≠ 62 → q ≠ 63 → μ4.1 q = a.1 q := fun q q1 q2 => (FXu q (by simp [q1, q2])).1
        have v1 : ∀ q, q ≠ 21 → q ≠ 0 → μ6.1 q = m.1 q := fun q q1 q2 => by rw [e8, mw_I_row q2, e7, mw_I_row q1]
        refine ⟨fun d i hd hi => ?_, fun d hd => ?_, fun d hd g1 g2 i hi => ?_⟩
        · rw [x2, v2]; exact s1 d i hd hi
        · rw [x1 66 (by decide) (by decide), x1 67 (by decide) (by decide), x1 68 (by decide) (by decide), x1 69 (by decide) (by decide), v1 23 (by decide) (by decide), v1 24 (by decide) (by decide), e6]
          refine (s2 d hd).mono (fun w hw hlt => ?_)
          rw [h3, zlt, nI_toInt (by omega), nI_toInt (by omega)] at hlt
          exact nI_lt (by omega) (by omega)
        · rw [x1 66 (by decide) (by decide)] at g1
          rw [x1 68 (by decide) (by decide)] at g2
          rw [x2]; exact s3 d hd g1 g2 i hi
    · have d' : n = 50 := by
        rw [zlt, nI_toInt (by omega)] at d
        simp only [Int32.reduceToInt] at d
        omega
      rw [if_pos c', h4, d']
      exact ⟨fun _ => hb _, fun z => absurd rfl z⟩
  · rw [if_neg c, if_neg c]
    exact hb _
theorem op_trace {a m : mw_M} (hA : RActs a m) {p1 : Int32} {Q : Int32 → Int32 → Prop} (hQ : ∀ r, Q r r) : P10_trace p1 a (fun r => P11_trace p1 m (fun r' => Q r r')) := by
  obtain ⟨n, r, k, t, h1, h2, h3, h4, h5, h6, h7, h8⟩ := hA
  have mn : mw_min (nI r) 24 = nI (min r 24) := by
    unfold mw_min
    by_cases c : 24 < r
    · rw [if_pos (show (24 : Int32) < nI r from nI_lt (a := 24) c (by omega)), Nat.min_eq_right (by omega)]; rfl
    · rw [if_neg (show ¬ (24 : Int32) < nI r from nI_nlt (a := 24) (by omega) (by omega)), Nat.min_eq_left (by omega)]
  unfold P10_trace P0_traced P11_trace
  rw [h5, h6, mn]
  have hn : ∀ c : p1 < 0, (p1 < 0 → Q (-1) (-1)) := fun _ _ => hQ _
  have bad : ¬ (∃ i : Nat, p1 = nI i ∧ i < r ∧ i < 24) → ((p1 < 0 → Q (-1) (-1)) ∧ (¬ p1 < 0 → ((nI r ≤ p1 → Q (-1) (-1)) ∧ (¬ nI r ≤ p1 → ((24 ≤ p1 → Q (-1) (-1)) ∧ (¬ 24 ≤ p1 → (vp_in p1 24 ∧ Q (-1) (m.1 22 p1.toNatClampNeg)))))))) := fun h => by
    refine ⟨fun _ => hQ _, fun c1 => ⟨fun _ => hQ _, fun c2 => ⟨fun _ => hQ _, fun c3 => ?_⟩⟩⟩
    exfalso
    obtain ⟨i, hi, rfl⟩ := nI_get (npos c1)
    rw [zle, nI_toInt (by omega), nI_toInt (by omega)] at c2
    rw [zle, nI_toInt (by omega)] at c3
    simp only [Int32.reduceToInt] at c3
    exact h ⟨i, rfl, by omega, by omega⟩
  refine ⟨fun c => bad ?_, fun c1 => ⟨fun c2 => bad ?_, fun c2 => ?_⟩⟩
  · rintro ⟨i, rfl, i1, i2⟩
    have := zneg c
    rw [nI_toInt (by omega)] at this
    omega
  · rintro ⟨i, rfl, i1, i2⟩
    rw [zle, nI_toInt (by omega), nI_toInt (by omega)] at c2
    omega
  · obtain ⟨i, hi, rfl⟩ := nI_get (npos c1)
    rw [zle, nI_toInt (by omega), nI_toInt (by omega)] at c2
    have i1 : i < r := by omega
    have i2 : i < 24 := by omega
    obtain ⟨y1, y2⟩ := h8 i i1 i2
    unfold P0_traceAt
    rw [nI_clamp (by omega), y1, y2]
    have n24 : ¬ (24 : Int32) ≤ nI i := by
      rw [zle, nI_toInt (by omega)]
      simp only [Int32.reduceToInt]
      omega
    have nr : ¬ nI r ≤ nI i := by rw [zle, nI_toInt (by omega), nI_toInt (by omega)]; omega
    have hv := vp_in_nI i2 (by decide)
    exact ⟨fun z => absurd z c1, fun _ => ⟨fun z => absurd z n24, fun _ => ⟨hv, ⟨fun z => absurd z c1, fun _ => ⟨fun z => absurd z nr, fun _ => ⟨fun z => absurd z n24, fun _ => ⟨hv, hQ _⟩⟩⟩⟩⟩⟩⟩
theorem op_count {a m : mw_M} (hL : RLoad a m) (hK : RMach a m) (hR : RLaws a m) (hT : RTape a m) (hA : RActs a m) {p1 : Int32} {Q : Int32 → Int32 → Prop} (hQ : ∀ r, Q r r) : P10_count p1 a (fun r => P11_count p1 m (fun r' => Q r r')) := by
  obtain ⟨n, f, c0, l1, l2, l3, dn, kn, l4, l5, l6, l7, l8, l9, l10⟩ := hL
  obtain ⟨be, da, de, no, wa, fl, g, k1, k2, k3, k4⟩ := hK
  obtain ⟨nl, r1, r2, r3, r4⟩ := hR
  obtain ⟨tn, tt, t1, t2, t3, t4⟩ := hT
  obtain ⟨an, ar, ak, at', a1, a2, a3, a4, a5, a6, a7, a8⟩ := hA
  unfold P10_count P11_count P1_undoable
  rw [l2.1, k2.2.2.2.2.2, r2, t2, l6, a3, a5, l3.1, k3.2.2.2.2.2, r3, t3, l8, a4, a6]
  refine ⟨fun e => ?_, fun e => ?_, fun e => ?_, fun e => ?_, fun e => ?_, fun e => ?_, fun e => ?_, fun e0 e1 e2 e3 e4 e5 e6 => ?_⟩
  all_goals first | subst e | skip
  · exact ⟨fun _ => hQ _, fun e => absurd e (by decide), fun e => absurd e (by decide), fun e => absurd e (by decide), fun e => absurd e (by decide), fun e => absurd e (by decide), fun e => absurd e (by decide), fun e => absurd rfl e⟩
  · exact ⟨fun e => absurd e (by decide), fun _ => hQ _, fun e => absurd e (by decide), fun e => absurd e (by decide), fun e => absurd e (by decide), fun e => absurd e (by decide), fun e => absurd e (by decide), fun _ e => absurd rfl e⟩
  · exact ⟨fun e => absurd e (by decide), fun e => absurd e (by decide), fun _ => hQ _, fun e => absurd e (by decide), fun e => absurd e (by decide), fun e => absurd e (by decide), fun e => absurd e (by decide), fun _ _ e => absurd rfl e⟩
  · exact ⟨fun e => absurd e (by decide), fun e => absurd e (by decide), fun e => absurd e (by decide), fun _ => hQ _, fun e => absurd e (by decide), fun e => absurd e (by decide), fun e => absurd e (by decide), fun _ _ _ e => absurd rfl e⟩
  · exact ⟨fun e => absurd e (by decide), fun e => absurd e (by decide), fun e => absurd e (by decide), fun e => absurd e (by decide), fun _ => hQ _, fun e => absurd e (by decide), fun e => absurd e (by decide), fun _ _ _ _ e => absurd rfl e⟩
  · exact ⟨fun e => absurd e (by decide), fun e => absurd e (by decide), fun e => absurd e (by decide), fun e => absurd e (by decide), fun e => absurd e (by decide), fun _ => hQ _, fun e => absurd e (by decide), fun _ _ _ _ _ e => absurd rfl e⟩
  · exact ⟨fun e => absurd e (by decide), fun e => absurd e (by decide), fun e => absurd e (by decide), fun e => absurd e (by decide), fun e => absurd e (by decide), fun e => absurd e (by decide), fun _ => hQ _, fun _ _ _ _ _ _ e => absurd rfl e⟩
  · exact ⟨fun e => absurd e e0, fun e => absurd e e1, fun e => absurd e e2, fun e => absurd e e3, fun e => absurd e e4, fun e => absurd e e5, fun e => absurd e e6, fun _ _ _ _ _ _ _ => hQ _⟩
theorem ra_mk {a m u v : mw_M} {L : List Nat} (hA : RActs a m) (hl : L.length < 1000) (hu : ∀ j, j ≠ 3 → j ≠ 4 → j ≠ 5 → u.1 62 j = a.1 62 j) (h63 : u.1 63 = a.1 63) (hr : u.1 62 3 = nI L.length) (h64 : ∀ i, i < L.length → i < 24 → u.1 64 i = nI (L.getD i 0)) (v53 : v.1 0 53 = m.1 0 53) (v21 : v.1 21 = m.1 21) (vr : v.1 0 56 = nI L.length) (v22 : ∀ i, i < L.length → i < 24 → v.1 22 i = nI (L.getD i 0)) : RActs u v := by
  obtain ⟨n, r, k, t, h1, h2, h3, h4, h5, h6, h7, h8⟩ := hA
  refine ⟨n, L.length, k, fun i => L.getD i 0, h1, hl, by rw [hu 2 (by decide) (by decide) (by decide)]; exact h3, by rw [v53]; exact h4, hr, vr, fun i hi => by rw [h63, v21]; exact h7 i hi, fun i hi h24 => ⟨h64 i hi h24, v22 i hi h24⟩⟩
theorem op_act {a m : mw_M} (hA : RActs a m) {p1 p2 p3 : Int32} {Q : Int32 → Int32 → mw_M → mw_M → Prop} (hQ : ∀ r u v, FX [62, 64] a u → u.1 62 2 = a.1 62 2 → FM [22] [56, 57, 58] m v → RActs u v → Q r r u v) : P10_act p1 p2 p3 a (fun r u => P11_act p1 p2 p3 m (fun r' v => Q r r' u v)) := by
  obtain ⟨n, r, k, t, h1, h2, h3, h4, h5, h6, h7, h8⟩ := id hA
  unfold P10_act P0_begin P11_act
  intro μ1 e1
  have u2 : μ1.1 62 2 = nI n := by rw [e1, mw_I_nj (by decide)]; exact h3
  rw [ch0_hasLoad h1 u2]
  have ref0 : ∀ w, w = mw_I m 0 56 0 → ∀ A B, P11_isBody p1 w A B = if 0 ≤ p1.toInt ∧ p1.toInt < n then A else B := fun w ew A B => ch11_isBody h1 (by rw [ew, mw_I_nj (by decide)]; exact h4) p1 A B
  have zero : ∀ w, (w = mw_I m 0 56 0 ∨ ∃ x y, w = mw_I (mw_I (mw_I m 0 56 0) 0 57 x) 0 58 y) → Q 0 0 μ1 w := fun w hw => by
    refine hQ 0 μ1 w (by rw [e1]; exact FX.rf.I (by decide)) (by rw [u2, h3]) ?_ (ra_mk (L := []) hA (by decide) (fun j j3 _ _ => by rw [e1, mw_I_nj j3]) (by rw [e1, mw_I_row (by decide)]) (by rw [e1, mw_I_eq]; rfl) (fun i hi => absurd hi (Nat.not_lt_zero _)) ?_ ?_ ?_ (fun i hi => absurd hi (Nat.not_lt_zero _)))
    · rcases hw with rfl | ⟨x, y, rfl⟩
      · exact FM.rf.O (by decide)
      · exact ((FM.rf.O (by decide)).O (by decide)).O (by decide)
    · rcases hw with rfl | ⟨x, y, rfl⟩
      · rw [mw_I_nj (by decide)]
      · rw [mw_I_nj (by decide), mw_I_nj (by decide), mw_I_nj (by decide)]
    · rcases hw with rfl | ⟨x, y, rfl⟩
      · rw [mw_I_row (by decide)]
      · rw [mw_I_row (by decide), mw_I_row (by decide), mw_I_row (by decide)]
    · rcases hw with rfl | ⟨x, y, rfl⟩
      · rw [mw_I_eq]; rfl
      · rw [mw_I_nj (by decide), mw_I_nj (by decide), mw_I_eq]; rfl
  by_cases c : 0 ≤ p1.toInt ∧ p1.toInt < n
  · rw [if_pos c]
    obtain ⟨i, hi, rfl⟩ := nI_get c.1
    have hin : i < n := by rw [nI_toInt (by omega)] at c; omega
    have hv := vp_in_nI (show i < 50 by omega) (by decide)
    obtain ⟨y1, y2, y3⟩ := h7 i hin
    have nz : ∀ (hz : ¬ p2 = 0 ∧ ¬ p2 = 1 ∧ ¬ p2 = 2 ∧ ¬ p2 = 3), ∀ μ1' : mw_M, μ1' = mw_I m 0 56 0 → P11_isBody (nI i) μ1' ((vp_in (nI i) 50 ∧ (∀ μ5 : mw_M, μ5 = mw_I μ1' 0 57 (μ1'.1 21 (nI i).toNatClampNeg) → (∀ μ6 : mw_M, μ6 = mw_I μ5 0 58 (nI i) → ((p2 = 0 → P11_clingsAs (μ6.1 0 57) p3 μ6 (fun r8 μ9 => Q 0 r8 μ1 μ9)) ∧ (p2 = 1 → P11_shakesAs (μ6.1 0 57) p3 μ6 (fun r11 μ12 => Q 0 r11 μ1 μ12)) ∧ (p2 = 2 → P11_hopsAs (μ6.1 0 57) p3 μ6 (fun r14 μ15 => Q 0 r14 μ1 μ15)) ∧ (p2 = 3 → P11_tellsAs (μ6.1 0 57) p3 μ6 (fun r17 μ18 => Q 0 r17 μ1 μ18)) ∧ (¬ p2 = 0 → ¬ p2 = 1 → ¬ p2 = 2 → ¬ p2 = 3 → Q 0 0 μ1 μ6)))))) (Q 0 0 μ1 μ1') := by
      intro hz w ew
      rw [ref0 w ew, if_pos c]
      refine ⟨hv, fun μ5 e5 μ6 e6 => ⟨fun e => absurd e hz.1, fun e => absurd e hz.2.1, fun e => absurd e hz.2.2.1, fun e => absurd e hz.2.2.2, fun _ _ _ _ => zero _ (Or.inr ⟨w.1 21 (nI i).toNatClampNeg, nI i, by rw [e6, e5, ew]⟩)⟩⟩
    refine ⟨fun d => nz ⟨fun e => ?_, fun e => ?_, fun e => ?_, fun e => ?_⟩, fun d => ⟨fun d2 => ?_, fun d2 => nz ⟨fun e => ?_, fun e => ?_, fun e => ?_, fun e => ?_⟩⟩⟩
    · rw [e] at d; exact absurd d (by decide)
    · rw [e] at d; exact absurd d (by decide)
    · rw [e] at d; exact absurd d (by decide)
    · rw [e] at d; exact absurd d (by decide)
    · intro μ6 e6
      refine ⟨hv, fun μ8 e8 => ?_⟩
      rw [nI_clamp (by omega)] at e8
      have k6 : μ6.1 63 i = nI (k i) := by rw [e6, mw_I_ne (by decide), e1, mw_I_ne (by decide)]; exact y1
      rw [k6] at e8
      have x5 : μ8.1 62 5 = nI (k i) := by rw [e8, mw_I_eq]
      have x4 : μ8.1 62 4 = nI i := by rw [e8, mw_I_nj (by decide), e6, mw_I_eq]
      have x3 : μ8.1 62 3 = nI 0 := by rw [e8, mw_I_nj (by decide), e6, mw_I_nj (by decide), e1, mw_I_eq]; rfl
      have FX8 : FX [62, 64] a μ8 := by rw [e8, e6, e1]; exact ((FX.rf.I (by decide)).I (by decide)).I (by decide)
      have U8 : ∀ j, j ≠ 3 → j ≠ 4 → j ≠ 5 → μ8.1 62 j = a.1 62 j := fun j j3 j4 j5 => by rw [e8, mw_I_nj j5, e6, mw_I_nj j4, e1, mw_I_nj j3]
      have T0 : TX μ8 μ8 [] := ⟨FX.rf, fun _ _ => rfl, x3, fun _ hi => absurd hi (Nat.not_lt_zero _)⟩
      rw [x5]
      obtain ⟨act, hact, e2⟩ := nI_get (npos d)
      have hact4 : act < 4 := by
        rw [e2, zlt, nI_toInt (by omega)] at d2
        simp only [Int32.reduceToInt] at d2
        omega
      have hl := T_len (k i) y3 (k i) y3
      have go : ∀ (T : List Nat) (V : Int32 → Int32), T.length ≤ 20 → XA μ8 (G1 64).1 (k i) act 0 T V → (∀ (w : mw_M) (K : Int32 → mw_M → Prop), w.1 0 58 = nI i → w.1 0 57 = nI (k i) → TM w w [] → (∀ v', TM w v' T → K (V p3) v') → ((p2 = 0 → P11_clingsAs (nI (k i)) p3 w K) ∧ (p2 = 1 → P11_shakesAs (nI (k i)) p3 w K) ∧ (p2 = 2 → P11_hopsAs (nI (k i)) p3 w K) ∧ (p2 = 3 → P11_tellsAs (nI (k i)) p3 w K) ∧ (¬ p2 = 0 → ¬ p2 = 1 → ¬ p2 = 2 → ¬ p2 = 3 → K 0 w))) → P0_acted (nI (k i)) p2 p3 0 μ8 (fun r9 μ10 => ∀ μ1' : mw_M, μ1' = mw_I m 0 56 0 → P11_isBody (nI i) μ1' ((vp_in (nI i) 50 ∧ (∀ μ5 : mw_M, μ5 = mw_I μ1' 0 57 (μ1'.1 21 (nI i).toNatClampNeg) → (∀ μ6 : mw_M, μ6 = mw_I μ5 0 58 (nI i) → ((p2 = 0 → P11_clingsAs (μ6.1 0 57) p3 μ6 (fun r8 μ9 => Q r9 r8 μ10 μ9)) ∧ (p2 = 1 → P11_shakesAs (μ6.1 0 57) p3 μ6 (fun r11 μ12 => Q r9 r11 μ10 μ12)) ∧ (p2 = 2 → P11_hopsAs (μ6.1 0 57) p3 μ6 (fun r14 μ15 => Q r9 r14 μ10 μ15)) ∧ (p2 = 3 → P11_tellsAs (μ6.1 0 57) p3 μ6 (fun r17 μ18 => Q r9 r17 μ10 μ18)) ∧ (¬ p2 = 0 → ¬ p2 = 1 → ¬ p2 = 2 → ¬ p2 = 3 → Q r9 0 μ10 μ6)))))) (Q r9 0 μ10 μ1')) := by
        intro T V hT20 hx hm
        rw [e2]
        refine hx p3 [] μ8 _ T0 (by simp) (fun u hu => ?_)
        rw [List.nil_append] at hu
        rw [← e2]
        intro w ew
        rw [ref0 w ew, if_pos c]
        refine ⟨hv, fun μ5 e5 μ6' e6' => ?_⟩
        rw [nI_clamp (by omega)] at e5
        have w57 : w.1 21 i = nI (k i) := by rw [ew, mw_I_ne (by decide)]; exact y2
        rw [w57] at e5
        have z57 : μ6'.1 0 57 = nI (k i) := by rw [e6', mw_I_nj (by decide), e5, mw_I_eq]
        have z58 : μ6'.1 0 58 = nI i := by rw [e6', mw_I_eq]
        have z56 : μ6'.1 0 56 = nI 0 := by rw [e6', mw_I_nj (by decide), e5, mw_I_nj (by decide), ew, mw_I_eq]; rfl
        rw [z57]
        have FM6 : FM [22] [56, 57, 58] m μ6' := by rw [e6', e5, ew]; exact ((FM.rf.O (by decide)).O (by decide)).O (by decide)
        refine hm μ6' (fun r' v => Q (V p3) r' u v) z58 z57 ⟨FM.rf, z56, fun _ hi => absurd hi (Nat.not_lt_zero _)⟩ (fun v hv' => ?_)
        refine hQ _ u v (FX8.tr hu.1) (by rw [hu.2.1 2 (by decide), U8 2 (by decide) (by decide) (by decide)]) (FM6.tr (hv'.1.mono (by decide) (by decide))) (ra_mk (L := T) hA (by omega) (fun j j3 j4 j5 => by rw [hu.2.1 j j3, U8 j j3 j4 j5]) ?_ hu.2.2.1 hu.2.2.2 ?_ ?_ hv'.2.1 hv'.2.2)
        · rw [(hu.1 63 (by decide)).1, (FX8 63 (by decide)).1]
        · rw [hv'.1.2 53 (by decide), FM6.2 53 (by decide)]
        · rw [(hv'.1.1 21 (by decide) (by decide)).1, (FM6.1 21 (by decide) (by decide)).1]
      rcases (show act = 0 ∨ act = 1 ∨ act = 2 ∨ act = 3 by omega) with rfl | rfl | rfl | rfl
      · refine go (clT (k i)) (clV (k i) (nI i)) (by omega) (x_cl x4 (n := 60) y3 (by decide)) (fun w K w8 w7 tw hK => ?_)
        rw [e2]
        exact ⟨fun _ => m_cl w8 (n := 6) y3 p3 [] w K tw (by simp) hK, fun e => absurd e (by decide), fun e => absurd e (by decide), fun e => absurd e (by decide), fun e => absurd rfl e⟩
      · refine go (shT (k i) (k i)) (shV (k i) (nI i) (k i)) (by omega) (x_sh x4 x5 y3 (n := 54) y3 (by decide)) (fun w K w8 w7 tw hK => ?_)
        rw [e2]
        exact ⟨fun e => absurd e (by decide), fun _ => m_sh w8 w7 y3 (n := 5) y3 p3 [] w K tw (by simp) hK, fun e => absurd e (by decide), fun e => absurd e (by decide), fun _ e => absurd rfl e⟩
      · refine go (hoT (k i) (k i)) (hoV (k i) (nI i) (k i)) (by omega) (x_ho x4 x5 y3 (n := 58) y3 (by decide)) (fun w K w8 w7 tw hK => ?_)
        rw [e2]
        exact ⟨fun e => absurd e (by decide), fun e => absurd e (by decide), fun _ => m_ho w8 w7 y3 (n := 6) y3 p3 [] w K tw (by simp) hK, fun e => absurd e (by decide), fun _ _ e => absurd rfl e⟩
      · refine go (teT (k i) (k i)) (teV (k i) (nI i) (k i)) (by omega) (x_te x4 x5 y3 (n := 50) y3 (by decide)) (fun w K w8 w7 tw hK => ?_)
        rw [e2]
        exact ⟨fun e => absurd e (by decide), fun e => absurd e (by decide), fun e => absurd e (by decide), fun _ => m_te w8 w7 y3 (n := 6) y3 p3 [] w K tw (by simp) hK, fun _ _ _ e => absurd rfl e⟩
    · rw [e] at d2; exact absurd (by decide) d2
    · rw [e] at d2; exact absurd (by decide) d2
    · rw [e] at d2; exact absurd (by decide) d2
    · rw [e] at d2; exact absurd (by decide) d2
  · rw [if_neg c]
    intro w ew
    rw [ref0 w ew, if_neg c]
    exact zero w (Or.inl ew)
