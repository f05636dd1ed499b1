/-! a drum laid as the load lies -/
theorem s2_lieAs {b : Nat} (h32 : 32 ≤ b) {a : mw_M} {n c : Nat} {f : Nat → Nat → Nat} (hn : n ≤ 12) (hX : XL 1 a n f c) {Q : mw_M → Prop} (hQ : ∀ u, FX [b, b + 1, b + 2, b + 3, b + 4] a u → (∀ j, j ≠ 4 → j ≠ 5 → u.1 b j = a.1 b j) → XL b u n f c → Q u) : P2_lieAs b 1 a Q := by
  unfold P2_lieAs
  intro μ1 e1 μ2 e2
  have e15 : μ1.1 1 5 = nI c := by rw [e1, mw_I_ne (by omega)]; exact hX.2.1
  rw [hX.1] at e1
  rw [e15, e1] at e2
  have L : ∀ k i u, i + k = n → FX [b, b + 1, b + 2, b + 3, b + 4] a u → (∀ j, j ≠ 4 → j ≠ 5 → u.1 b j = a.1 b j) → u.1 b 4 = nI n → u.1 b 5 = nI c → (∀ q, q < i → u.1 (b + 1) q = nI (f 0 q) ∧ u.1 (b + 2) q = nI (f 1 q) ∧ u.1 (b + 3) q = nI (f 2 q) ∧ u.1 (b + 4) q = nI (f 3 q)) → L2_lieAs_18 b 1 Q (k + 1) (nI i) u := by
    intro k
    induction k with
    | zero =>
      intro i u hi hF hS h4 h5 hr
      have e : i = n := by omega
      subst e
      unfold L2_lieAs_18
      rw [h4]
      exact ⟨fun _ => hQ u hF hS ⟨h4, h5, hr⟩, fun z => absurd (nI_le (Nat.le_refl _) (by omega)) z⟩
    | succ k ih =>
      intro i u hi hF hS h4 h5 hr
      unfold L2_lieAs_18
      rw [h4]
      have hv := vp_in_nI (show i < 12 by omega) (by decide)
      obtain ⟨x1, x2, x3, x4⟩ := hX.2.2 i (by omega)
      have r2 : u.1 2 = a.1 2 := (hF 2 (by simp; omega)).1
      have r3 : u.1 3 = a.1 3 := (hF 3 (by simp; omega)).1
      have r4 : u.1 4 = a.1 4 := (hF 4 (by simp; omega)).1
      have r5 : u.1 5 = a.1 5 := (hF 5 (by simp; omega)).1
      simp only [Nat.reduceAdd] at x1 x2 x3 x4
      refine ⟨fun z => absurd z (by rw [zle, nI_toInt (by omega), nI_toInt (by omega)]; omega), fun _ => ⟨fun z => absurd z (by rw [zle, nI_toInt (by omega)]; simp only [Int32.reduceToInt]; omega), fun _ => ?_⟩⟩
      simp only [Nat.reduceAdd, nI_clamp (show i < 2 ^ 31 by omega), forall_eq]
      refine ⟨hv, hv, hv, hv, hv, hv, hv, hv, ?_⟩
      rw [show nI i + 1 = nI (i + 1) from nI_add i 1]
      rw [mw_I_ne (show 5 ≠ b + 3 by omega), mw_I_ne (show 5 ≠ b + 2 by omega), mw_I_ne (show 5 ≠ b + 1 by omega), mw_I_ne (show 4 ≠ b + 2 by omega), mw_I_ne (show 4 ≠ b + 1 by omega), mw_I_ne (show 3 ≠ b + 1 by omega), r2, r3, r4, r5, x1, x2, x3, x4]
      refine ih (i + 1) _ (by omega) ((((hF.I (by simp)).I (by simp)).I (by simp)).I (by simp)) (fun j j4 j5 => ?_) ?_ ?_ (fun q hq => ?_)
      · rw [mw_I_ne (by omega), mw_I_ne (by omega), mw_I_ne (by omega), mw_I_ne (by omega)]; exact hS j j4 j5
      · rw [mw_I_ne (by omega), mw_I_ne (by omega), mw_I_ne (by omega), mw_I_ne (by omega)]; exact h4
      · rw [mw_I_ne (by omega), mw_I_ne (by omega), mw_I_ne (by omega), mw_I_ne (by omega)]; exact h5
      · by_cases y : q = i
        · subst y
          refine ⟨?_, ?_, ?_, ?_⟩
          · rw [mw_I_ne (by omega), mw_I_ne (by omega), mw_I_ne (by omega), mw_I_eq]
          · rw [mw_I_ne (by omega), mw_I_ne (by omega), mw_I_eq]
          · rw [mw_I_ne (by omega), mw_I_eq]
          · rw [mw_I_eq]
        · obtain ⟨y1, y2, y3, y4⟩ := hr q (by omega)
          refine ⟨?_, ?_, ?_, ?_⟩
          · rw [mw_I_ne (by omega), mw_I_ne (by omega), mw_I_ne (by omega), mw_I_nj y]; exact y1
          · rw [mw_I_ne (by omega), mw_I_ne (by omega), mw_I_nj y, mw_I_ne (by omega)]; exact y2
          · rw [mw_I_ne (by omega), mw_I_nj y, mw_I_ne (by omega), mw_I_ne (by omega)]; exact y3
          · rw [mw_I_nj y, mw_I_ne (by omega), mw_I_ne (by omega), mw_I_ne (by omega)]; exact y4
  refine ⟨n + 1, L n 0 μ2 (by omega) ?_ (fun j j4 j5 => ?_) ?_ ?_ (fun q hq => absurd hq (Nat.not_lt_zero _))⟩
  · rw [e2]; exact (FX.rf.I (by simp)).I (by simp)
  · rw [e2, mw_I_nj j5, mw_I_nj j4]
  · rw [e2, mw_I_nj (by decide), mw_I_eq]
  · rw [e2, mw_I_eq]
