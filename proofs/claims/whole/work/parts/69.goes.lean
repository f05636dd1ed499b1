/-! a whole walk on each side -/
theorem s2_lieG {b d : Nat} (hbd : b + 4 < d ∨ d + 4 < b) {a : mw_M} {n c : Nat} {f : Nat → Nat → Nat} (hn : n ≤ 12) (hX : XL d a n f c) {Q : mw_M → Prop} (hQ : ∀ u, FX [b, b + 1, b + 2, b + 3, b + 4] a u → (∀ j, j ≠ 4 → j ≠ 5 → u.1 b j = a.1 b j) → XL b u n f c → Q u) : P2_lieAs b d a Q := by
  unfold P2_lieAs
  intro μ1 e1 μ2 e2
  have e15 : μ1.1 d 5 = nI c := by rw [e1, mw_I_ne (by omega)]; exact hX.2.1
  rw [hX.1] at e1
  rw [e15, e1] at e2
  have L : ∀ k i u, i + k = n → FX [b, b + 1, b + 2, b + 3, b + 4] a u → (∀ j, j ≠ 4 → j ≠ 5 → u.1 b j = a.1 b j) → u.1 b 4 = nI n → u.1 b 5 = nI c → (∀ q, q < i → u.1 (b + 1) q = nI (f 0 q) ∧ u.1 (b + 2) q = nI (f 1 q) ∧ u.1 (b + 3) q = nI (f 2 q) ∧ u.1 (b + 4) q = nI (f 3 q)) → L2_lieAs_18 b d Q (k + 1) (nI i) u := by
    intro k
    induction k with
    | zero =>
      intro i u hi hF hS h4 h5 hr
      have e : i = n := by omega
      subst e
      unfold L2_lieAs_18
      rw [h4]
      exact ⟨fun _ => hQ u hF hS ⟨h4, h5, hr⟩, fun z => absurd (nI_le (Nat.le_refl _) (by omega)) z⟩
    | succ k ih =>
      intro i u hi hF hS h4 h5 hr
      unfold L2_lieAs_18
      rw [h4]
      have hv := vp_in_nI (show i < 12 by omega) (by decide)
      obtain ⟨x1, x2, x3, x4⟩ := hX.2.2 i (by omega)
      have r2 : u.1 (d + 1) = a.1 (d + 1) := (hF (d + 1) (by simp; omega)).1
      have r3 : u.1 (d + 2) = a.1 (d + 2) := (hF (d + 2) (by simp; omega)).1
      have r4 : u.1 (d + 3) = a.1 (d + 3) := (hF (d + 3) (by simp; omega)).1
      have r5 : u.1 (d + 4) = a.1 (d + 4) := (hF (d + 4) (by simp; omega)).1
      refine ⟨fun z => absurd z (by rw [zle, nI_toInt (by omega), nI_toInt (by omega)]; omega), fun _ => ⟨fun z => absurd z (by rw [zle, nI_toInt (by omega)]; simp only [Int32.reduceToInt]; omega), fun _ => ?_⟩⟩
      simp only [nI_clamp (show i < 2 ^ 31 by omega), forall_eq]
      refine ⟨hv, hv, hv, hv, hv, hv, hv, hv, ?_⟩
      rw [show nI i + 1 = nI (i + 1) from nI_add i 1]
      rw [mw_I_ne (show d + 4 ≠ b + 3 by omega), mw_I_ne (show d + 4 ≠ b + 2 by omega), mw_I_ne (show d + 4 ≠ b + 1 by omega), mw_I_ne (show d + 3 ≠ b + 2 by omega), mw_I_ne (show d + 3 ≠ b + 1 by omega), mw_I_ne (show d + 2 ≠ b + 1 by omega), r2, r3, r4, r5, x1, x2, x3, x4]
      refine ih (i + 1) _ (by omega) ((((hF.I (by simp)).I (by simp)).I (by simp)).I (by simp)) (fun j j4 j5 => ?_) ?_ ?_ (fun q hq => ?_)
      · rw [mw_I_ne (by omega), mw_I_ne (by omega), mw_I_ne (by omega), mw_I_ne (by omega)]; exact hS j j4 j5
      · rw [mw_I_ne (by omega), mw_I_ne (by omega), mw_I_ne (by omega), mw_I_ne (by omega)]; exact h4
      · rw [mw_I_ne (by omega), mw_I_ne (by omega), mw_I_ne (by omega), mw_I_ne (by omega)]; exact h5
      · by_cases y : q = i
        · subst y
          refine ⟨?_, ?_, ?_, ?_⟩
          · rw [mw_I_ne (by omega), mw_I_ne (by omega), mw_I_ne (by omega), mw_I_eq]
          · rw [mw_I_ne (by omega), mw_I_ne (by omega), mw_I_eq]
          · rw [mw_I_ne (by omega), mw_I_eq]
          · rw [mw_I_eq]
        · obtain ⟨y1, y2, y3, y4⟩ := hr q (by omega)
          refine ⟨?_, ?_, ?_, ?_⟩
          · rw [mw_I_ne (by omega), mw_I_ne (by omega), mw_I_ne (by omega), mw_I_nj y]; exact y1
          · rw [mw_I_ne (by omega), mw_I_ne (by omega), mw_I_nj y, mw_I_ne (by omega)]; exact y2
          · rw [mw_I_ne (by omega), mw_I_nj y, mw_I_ne (by omega), mw_I_ne (by omega)]; exact y3
          · rw [mw_I_nj y, mw_I_ne (by omega), mw_I_ne (by omega), mw_I_ne (by omega)]; exact y4
  refine ⟨n + 1, L n 0 μ2 (by omega) ?_ (fun j j4 j5 => ?_) ?_ ?_ (fun q hq => absurd hq (Nat.not_lt_zero _))⟩
  · rw [e2]; exact (FX.rf.I (by simp)).I (by simp)
  · rw [e2, mw_I_nj j5, mw_I_nj j4]
  · rw [e2, mw_I_nj (by decide), mw_I_eq]
  · rw [e2, mw_I_eq]
theorem ini_WI {n c0 : Nat} {seed : Int32} {f : Nat → Nat → Nat} (hL : LOK n f c0) : WI n c0 (iniW seed f (lopN n f c0)) 0 := ⟨hL, rfl, ⟨0, by decide, rfl, rfl⟩, Or.inl rfl⟩
theorem x_through {b : Nat} (h32 : 32 ≤ b) {a m : mw_M} {W : Option (List LN)} {ls : List LN} {n c0 be da de no wa fl i g li nl N : Nat} {sx sy goal seed : Int32} {f : Nat → Nat → Nat} (hN : NOK be da de no wa fl i g) (hM : MCx a be da de no wa fl i g sx sy) (hl : LAWl a li ls) (hnl : nl ≤ 4) (h15 : a.1 15 3 = nI nl) (hli : li < nl) (hW : WAT a m W) (hL : LOK n f c0) (hX : XL 1 a n f c0) (hNN : N ≤ 200) {Q : mw_M → Prop} (hQ : ∀ u, FW b a u → XG b u (WN W ls n c0 be da de no g sx sy goal (iniW seed f (lopN n f c0)) N).1 (lopN n f c0) (KFN W ls n c0 be da de no g sx sy goal (iniW seed f (lopN n f c0))) n c0 N (WN W ls n c0 be da de no g sx sy goal (iniW seed f (lopN n f c0)) N).2.1 → u.1 b 12 = nI N → u.1 b 16 = (if (WN W ls n c0 be da de no g sx sy goal (iniW seed f (lopN n f c0)) N).1 9 ≤ nI wa then 0 else 1) → Q u) : P9_through b 1 (nI li) (nI i) goal (nI N) seed a Q := by
  unfold P9_through
  refine s9_begin h32 hL hX (fun u hu hr => ?_)
  intro x2 e2
  obtain ⟨r1, ⟨q0, q1, q2, q3, q4, q5, q6, q7, q8, q9⟩, r3, r4, r5⟩ := hr
  rw [r4] at e2
  subst e2
  have F0 : FW b a u := FW.of hu (fun q hq => by rw [(hu q (by have := hq.lt; simp; omega)).1]) (fun k hk => by simp [SW] at hk ⊢; omega)
  have X0 : XG b u (iniW seed f (lopN n f c0)).1 (lopN n f c0) (KFN W ls n c0 be da de no g sx sy goal (iniW seed f (lopN n f c0))) n c0 0 f := ⟨r1, fun k hk => by
    rcases (show k = 0 ∨ k = 1 ∨ k = 2 ∨ k = 3 ∨ k = 4 ∨ k = 5 ∨ k = 6 ∨ k = 7 ∨ k = 8 ∨ k = 9 by omega) with rfl | rfl | rfl | rfl | rfl | rfl | rfl | rfl | rfl | rfl
    · exact q0
    · exact q1
    · exact q2
    · exact q3
    · exact q4
    · exact q5
    · exact q6
    · exact q7
    · exact q8
    · exact q9, r4, fun _ j _ hj => absurd hj (Nat.not_lt_zero j)⟩
  refine ⟨N + 1, xw_loop h32 hN hM hl hnl h15 hli hW (ini_WI hL) hNN (fun v hF hX h12 _ _ _ => ?_) N 0 u (Nat.zero_add N) F0 X0 r3⟩
  have e9 : v.1 b 15 = (WN W ls n c0 be da de no g sx sy goal (iniW seed f (lopN n f c0)) N).1 9 := hX.2.1 9 (by decide)
  have ew : v.1 11 4 = nI wa := (hM.fw h32 hF).1.2.2.2.2.1
  rw [e9, ew]
  have fin : ∀ z, z = (if (WN W ls n c0 be da de no g sx sy goal (iniW seed f (lopN n f c0)) N).1 9 ≤ nI wa then 0 else 1) → Q (mw_I v b 16 z) := fun z ez => by
    refine hQ _ (hF.I h32 (by simp [SW]) (by omega)) ⟨xl_rows hX.1 (fun q _ _ => mw_I_row (by omega)), fun k hk => ?_, ?_, fun w j hw hj => ?_⟩ ?_ (by rw [mw_I_eq]; exact ez)
    · rw [mw_I_nj (Ne.symm (slW_7 k hk).2.2)]; exact hX.2.1 k hk
    · rw [mw_I_nj (by decide)]; exact hX.2.2.1
    · rw [mw_I_ne (by omega)]; exact hX.2.2.2 w j hw hj
    · rw [mw_I_nj (by decide)]; exact h12
  refine ⟨fun c μ e => ?_, fun c μ e => ?_⟩
  · rw [e]; exact fin 0 (by rw [if_pos c])
  · rw [e]; exact fin 1 (by rw [if_neg c])
theorem m_goes {a m : mw_M} {W : Option (List LN)} {ls : List LN} {n c0 be da de no wa fl i g li N : Nat} {sx sy goal seed p6 : Int32} {f : Nat → Nat → Nat} (hN : NOK be da de no wa fl i g) (hC : MCm m be da de no wa fl i g sx sy) (hl : LAWm m li ls) (hW : WAT a m W) (hL : LOK n f c0) (hM : ML m n f c0) (hNN : N ≤ 200) {Q : mw_M → Prop} (hQ : ∀ v, FM SV JV m v → MW v (WN W ls n c0 be da de no g sx sy goal (iniW seed f (lopN n f c0)) N).1 n c0 (WN W ls n c0 be da de no g sx sy goal (iniW seed f (lopN n f c0)) N).2.1 → RP p6 m v (KFN W ls n c0 be da de no g sx sy goal (iniW seed f (lopN n f c0))) N → Q v) : P11_goes (nI li) (nI i) goal (nI N) seed p6 m Q := by
  unfold P11_goes
  simp only [forall_eq]
  refine ⟨N + 1, m_loop (m := m) hN hC hl hW (ini_WI hL) hNN hQ N 0 _ (Nat.zero_add N) ?_ ?_ (fun j hj => absurd hj (Nat.not_lt_zero j)) ⟨fun _ _ j _ hj => absurd hj (Nat.not_lt_zero j), fun _ k hk => by simp only [mw_I_row (show k ≠ 0 by omega)]⟩⟩
  · exact ((((((((FM.rf.O (by decide)).O (by decide)).O (by decide)).O (by decide)).O (by decide)).O (by decide)).O (by decide)).O (by decide)).O (by decide)
  · refine ⟨ml_rows hM (by simp only [mw_I_row (show 1 ≠ 0 by decide)]) (by simp only [mw_I_row (show 5 ≠ 0 by decide)]) ?_, fun k hk k3 => ?_⟩
    · rw [mw_I_nj (by decide), mw_I_nj (by decide), mw_I_nj (by decide), mw_I_nj (by decide), mw_I_nj (by decide), mw_I_nj (by decide), mw_I_nj (by decide), mw_I_nj (by decide), mw_I_nj (by decide)]
    · rcases (show k = 0 ∨ k = 1 ∨ k = 2 ∨ k = 4 ∨ k = 5 ∨ k = 6 ∨ k = 7 ∨ k = 8 ∨ k = 9 by omega) with rfl | rfl | rfl | rfl | rfl | rfl | rfl | rfl | rfl
      all_goals simp (config := { decide := true }) only [mw_I_get, slV, true_and, if_true, if_false, WN, iniW]
theorem s11_keeps {m : mw_M} {Q : mw_M → Prop} (hQ : ∀ v, FM [14] [] m v → (∀ k, k < 37 → v.1 14 k = m.1 1 k) → Q v) : P11_keepsLoad m Q := by
  have L : ∀ k i v, i + k = 37 → FM [14] [] m v → (∀ j, j < i → v.1 14 j = m.1 1 j) → L11_keepsLoad_2 Q (k + 1) (nI i) v := by
    intro k
    induction k with
    | zero =>
      intro i v hi hF h
      have e : i = 37 := by omega
      subst e
      unfold L11_keepsLoad_2
      exact ⟨fun _ => hQ v hF h, fun z => absurd (show (36 : Int32) < nI 37 by decide) z⟩
    | succ k ih =>
      intro i v hi hF h
      have hv := vp_in_nI (show i < 37 by omega) (by decide)
      unfold L11_keepsLoad_2
      refine ⟨fun z => absurd z (by rw [zlt, nI_toInt (by omega)]; simp only [Int32.reduceToInt]; omega), fun _ => ⟨hv, hv, fun μ e x hx => ?_⟩⟩
      rw [nI_clamp (by omega)] at e
      rw [hx, show nI i + 1 = nI (i + 1) from nI_add i 1, e]
      refine ih (i + 1) _ (by omega) (hF.I (by decide) (by decide)) (fun j hj => ?_)
      rw [mw_I_get]
      by_cases q : j = i
      · rw [if_pos ⟨rfl, q⟩, q, (hF.1 1 (by decide) (by decide)).1]
      · rw [if_neg (fun z => q z.2)]; exact h j (by omega)
  exact ⟨38, L 37 0 m rfl FM.rf (fun j hj => absurd hj (Nat.not_lt_zero j))⟩
theorem s11_lays {m : mw_M} {Q : mw_M → Prop} (hQ : ∀ v, FM [1] [] m v → (∀ k, k < 37 → v.1 1 k = m.1 14 k) → Q v) : P11_laysBack m Q := by
  have L : ∀ k i v, i + k = 37 → FM [1] [] m v → (∀ j, j < i → v.1 1 j = m.1 14 j) → L11_laysBack_2 Q (k + 1) (nI i) v := by
    intro k
    induction k with
    | zero =>
      intro i v hi hF h
      have e : i = 37 := by omega
      subst e
      unfold L11_laysBack_2
      exact ⟨fun _ => hQ v hF h, fun z => absurd (show (36 : Int32) < nI 37 by decide) z⟩
    | succ k ih =>
      intro i v hi hF h
      have hv := vp_in_nI (show i < 37 by omega) (by decide)
      unfold L11_laysBack_2
      refine ⟨fun z => absurd z (by rw [zlt, nI_toInt (by omega)]; simp only [Int32.reduceToInt]; omega), fun _ => ⟨hv, hv, fun μ e x hx => ?_⟩⟩
      rw [nI_clamp (by omega)] at e
      rw [hx, show nI i + 1 = nI (i + 1) from nI_add i 1, e]
      refine ih (i + 1) _ (by omega) (hF.I (by decide) (by decide)) (fun j hj => ?_)
      rw [mw_I_get]
      by_cases q : j = i
      · rw [if_pos ⟨rfl, q⟩, q, (hF.1 14 (by decide) (by decide)).1]
      · rw [if_neg (fun z => q z.2)]; exact h j (by omega)
  exact ⟨38, L 37 0 m rfl FM.rf (fun j hj => absurd hj (Nat.not_lt_zero j))⟩
theorem ML.back {m v : mw_M} {n c0 : Nat} {f : Nat → Nat → Nat} (hn : n ≤ 12) (h : ML m n f c0) (h1 : ∀ k, k < 37 → v.1 1 k = m.1 1 k) (h5 : v.1 5 = m.1 5) (h6 : v.1 0 6 = m.1 0 6) : ML v n f c0 := by
  refine ⟨by rw [h6]; exact h.1, by rw [h1 36 (by decide)]; exact h.2.1, fun i hi => ?_⟩
  obtain ⟨y1, y2, y3, y4⟩ := h.2.2 i hi
  exact ⟨by rw [h1 _ (by omega)]; exact y1, by rw [h1 _ (by omega)]; exact y2, by rw [h1 _ (by omega)]; exact y3, by rw [h5]; exact y4⟩
