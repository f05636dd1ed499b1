/-! weight -/
theorem s2_tell4 {b n c : Nat} {a : mw_M} {f : Nat → Nat → Nat} (hn : n ≤ 12) (hX : XL b a n f c) {v : Int32} {Q : mw_M → Prop} (hQ : Q (mw_I a b 5 v)) : P2_tell b 0 4 v a Q := by
  unfold P2_tell
  refine ⟨fun _ => ?_, fun q => absurd rfl q⟩
  intro μ e
  subst e
  rw [ch2_hasLump (n := n) (by omega) (by rw [mw_I_nj (by decide)]; exact hX.1)]
  by_cases c1 : 0 ≤ (0 : Int32).toInt ∧ (0 : Int32).toInt < n
  · rw [if_pos c1]
    exact ⟨fun q => absurd q (by decide), fun _ => ⟨fun q => absurd q (by decide), fun _ => ⟨fun q => absurd q (by decide), fun _ => hQ⟩⟩⟩
  · rw [if_neg c1]; exact hQ
theorem aX_c {tr : Nat → Int32} {n w j : Nat} {f : Nat → Nat → Nat} (hj : j < 12) : aX tr n f (100 * w + j) = aX tr n f 0 + (nI w * tr j) / 10 := by
  unfold aX sB
  rw [show (100 * w + j) / 100 = w by omega, show (100 * w + j) % 100 = j by omega, show 0 / 100 = 0 from rfl, show nI 0 = 0 from rfl, Int32.zero_mul, show (0 : Int32) / 10 = 0 from rfl, Int32.zero_add, Int32.add_comm]
def cW (k : Nat) : Nat := 100 * (k / 12) + k % 12
def wtS (V : Nat → Int32) : Nat → Int32 × Nat
  | 0 => (V 0, 0)
  | k + 1 => if (wtS V k).1 ≤ V (cW (k + 1)) then wtS V k else (V (cW (k + 1)), cW (k + 1))
theorem wtS_le (V : Nat → Int32) : ∀ k, (wtS V k).2 ≤ cW k
  | 0 => Nat.zero_le _
  | k + 1 => by
    have := wtS_le V k
    show (if (wtS V k).1 ≤ V (cW (k + 1)) then wtS V k else (V (cW (k + 1)), cW (k + 1))).2 ≤ cW (k + 1)
    split
    · unfold cW at this ⊢; omega
    · exact Nat.le_refl _
theorem lop_c0 {n j : Nat} {f : Nat → Nat → Nat} (hj : j < 12) : lopN n f j = lopN n f 0 := by
  have h : ∀ tr : Nat → Int32, aX tr n f j = aX tr n f 0 := fun tr => by
    have := aX_c (tr := tr) (n := n) (w := 0) (f := f) hj
    rw [show 100 * 0 + j = j by omega, show nI 0 = 0 from rfl, Int32.zero_mul, show (0 : Int32) / 10 = 0 from rfl, Int32.add_zero] at this
    exact this
  unfold lopN
  rw [h, h]
theorem wtS_0 {n : Nat} {f : Nat → Nat → Nat} : ∀ k, k < 12 → wtS (lopN n f) k = (lopN n f 0, 0)
  | 0, _ => rfl
  | k + 1, h => by
    have ih := wtS_0 (n := n) (f := f) k (by omega)
    show (if (wtS (lopN n f) k).1 ≤ lopN n f (cW (k + 1)) then wtS (lopN n f) k else _) = _
    rw [ih, show cW (k + 1) = k + 1 by unfold cW; omega, lop_c0 h, if_pos (by rw [zle]; exact Int.le_refl _)]
theorem x_wtI {n w : Nat} {f : Nat → Nat → Nat} {p1 : Int32} {μ2 : mw_M} {Q : Int32 → mw_M → Prop} {K1 : Int32 → Int32 → Int32 → Prop} (hw : 1 ≤ w) (hw2 : w ≤ 99) (hK : ∀ x, K1 x (nI (wtS (lopN n f) (12 * w + 11)).2) (wtS (lopN n f) (12 * w + 11)).1) : ∀ k j, j + k = 12 → L8_bestCounter_60 (nI w) (aX si n f 0) (aX co n f 0) p1 μ2 Q K1 (k + 1) (nI j) (nI (wtS (lopN n f) (12 * w + j - 1)).2) (wtS (lopN n f) (12 * w + j - 1)).1 := by
  intro k
  induction k with
  | zero =>
    intro j hj
    have e : j = 12 := by omega
    subst e
    unfold L8_bestCounter_60
    rw [show 12 * w + 12 - 1 = 12 * w + 11 by omega]
    exact ⟨fun _ => hK _, fun y => absurd (show (12 : Int32) ≤ nI 12 by decide) y⟩
  | succ k ih =>
    intro j hj
    have nxt := ih (j + 1) (by omega)
    rw [show 12 * w + (j + 1) - 1 = (12 * w + j - 1) + 1 by omega] at nxt
    unfold L8_bestCounter_60
    refine ⟨fun y => absurd y (by rw [zle, nI_toInt (by omega)]; simp only [Int32.reduceToInt]; omega), fun _ => ?_⟩
    refine s2_cosine (by omega) (s2_sine (by omega) (s2_lopsidedBy ?_))
    rw [← aX_c (tr := co) (n := n) (f := f) (w := w) (show j < 12 by omega), ← aX_c (tr := si) (n := n) (f := f) (w := w) (show j < 12 by omega), show lopS (aX co n f (100 * w + j)) (aX si n f (100 * w + j)) = lopN n f (100 * w + j) from rfl]
    have ec : cW (12 * w + j - 1 + 1) = 100 * w + j := by unfold cW; omega
    have es : wtS (lopN n f) (12 * w + j - 1 + 1) = if (wtS (lopN n f) (12 * w + j - 1)).1 ≤ lopN n f (100 * w + j) then wtS (lopN n f) (12 * w + j - 1) else (lopN n f (100 * w + j), 100 * w + j) := by rw [← ec]; rfl
    have e1 : ∀ x : Int32, x = nI j + 1 → x = nI (j + 1) := fun x hx => hx.trans (nI_add j 1)
    refine ⟨fun c x hx => ?_, fun c x27 e27 x hx => ?_⟩
    · rw [es, if_pos c] at nxt
      rw [e1 x hx]
      exact nxt
    · rw [es, if_neg c] at nxt
      rw [show (100 : Int32) * nI w = nI (100 * w) from pk_mul 100 w, nI_add] at e27
      rw [e1 x hx, e27]
      exact nxt
theorem x_wt {n : Nat} {f : Nat → Nat → Nat} {p1 : Int32} {μ2 : mw_M} {Q : Int32 → mw_M → Prop} {K1 : Int32 → Int32 → Int32 → Prop} (hK : ∀ x, K1 x (nI (wtS (lopN n f) 1199).2) (wtS (lopN n f) 1199).1) : ∀ k w, w + k = 100 → 1 ≤ w → L8_bestCounter_50 (aX si n f 0) (aX co n f 0) p1 μ2 Q K1 (k + 1) (nI w) (nI (wtS (lopN n f) (12 * w - 1)).2) (wtS (lopN n f) (12 * w - 1)).1 := by
  intro k
  induction k with
  | zero =>
    intro w hw h1
    have e : w = 100 := by omega
    subst e
    unfold L8_bestCounter_50
    exact ⟨fun _ => hK _, fun y => absurd (show (99 : Int32) < nI 100 by decide) y⟩
  | succ k ih =>
    intro w hw h1
    have nxt := ih (w + 1) (by omega) (by omega)
    rw [show 12 * (w + 1) - 1 = 12 * w + 11 by omega] at nxt
    unfold L8_bestCounter_50
    refine ⟨fun y => absurd y (by rw [zlt, nI_toInt (by omega)]; simp only [Int32.reduceToInt]; omega), fun _ => ⟨13, x_wtI h1 (by omega) (fun _ x hx => ?_) 12 0 rfl⟩⟩
    rw [hx, show nI w + 1 = nI (w + 1) from nI_add w 1]
    exact nxt
/-- the reference's state before the i-th counterweight -/
def wtR (V : Nat → Int32) (i : Nat) : Int32 × Int32 := if i = 0 then (0, -1) else ((wtS V (i - 1)).1, nI (wtS V (i - 1)).2)
theorem wtR_s (V : Nat → Int32) (i : Nat) : wtR V (i + 1) = ((wtS V i).1, nI (wtS V i).2) := if_neg (by omega)
theorem ml_c {m : mw_M} {n c c' : Nat} {f : Nat → Nat → Nat} (hn : n ≤ 12) (h : ML m n f c) : ML (mw_I m 1 36 (nI c')) n f c' := by
  refine ⟨by rw [mw_I_ne (by decide)]; exact h.1, mw_I_eq, fun i hi => ?_⟩
  obtain ⟨y1, y2, y3, y4⟩ := h.2.2 i hi
  exact ⟨by rw [mw_I_nj (by omega)]; exact y1, by rw [mw_I_nj (by omega)]; exact y2, by rw [mw_I_nj (by omega)]; exact y3, by rw [mw_I_row (by decide)]; exact y4⟩
theorem m_wtI {m : mw_M} {n w c0 : Nat} {f : Nat → Nat → Nat} {x3 p1 : Int32} {Q : Int32 → mw_M → Prop} {K1 : Int32 → Int32 → Int32 → mw_M → Prop} (hL : LOK n f c0) (hw2 : w ≤ 99) (hK : ∀ x u, FM [1] [] m u → (∀ k, k ≠ 36 → u.1 1 k = m.1 1 k) → (∃ c', ML u n f c') → K1 x (wtR (lopN n f) (12 * w + 12)).1 (wtR (lopN n f) (12 * w + 12)).2 u) : ∀ k j u, j + k = 12 → FM [1] [] m u → (∀ k, k ≠ 36 → u.1 1 k = m.1 1 k) → (∃ c', ML u n f c') → L11_weight_38 (nI w) x3 p1 Q K1 (k + 1) (nI j) (wtR (lopN n f) (12 * w + j)).1 (wtR (lopN n f) (12 * w + j)).2 u := by
  intro k
  induction k with
  | zero =>
    intro j u hj hF h36 hM
    have e : j = 12 := by omega
    subst e
    unfold L11_weight_38
    exact ⟨fun _ => hK _ u hF h36 hM, fun y => absurd (show (12 : Int32) ≤ nI 12 by decide) y⟩
  | succ k ih =>
    intro j u hj hF h36 hM
    obtain ⟨c', hM⟩ := hM
    have hM2 := ml_c (c' := 100 * w + j) hL.1 hM
    have nxt := ih (j + 1) (mw_I u 1 36 (nI (100 * w + j))) (by omega) (hF.I (by decide) (by decide)) (fun q hq => by rw [mw_I_nj hq]; exact h36 q hq) ⟨_, hM2⟩
    rw [show 12 * w + (j + 1) = (12 * w + j) + 1 from rfl, wtR_s] at nxt
    unfold L11_weight_38
    refine ⟨fun y => absurd y (by rw [zle, nI_toInt (by omega)]; simp only [Int32.reduceToInt]; omega), fun _ => ?_⟩
    intro μ16 e16
    rw [show (100 : Int32) * nI w = nI (100 * w) from pk_mul 100 w, nI_add] at e16
    subst e16
    refine s11_lopsided (c := 100 * w + j) ⟨hL.1, ⟨by omega, by omega⟩, hL.2.2⟩ hM2 ?_
    rw [mw_I_eq]
    have e1 : ∀ x : Int32, x = nI j + 1 → x = nI (j + 1) := fun x hx => hx.trans (nI_add j 1)
    by_cases i0 : 12 * w + j = 0
    · have w0 : w = 0 := by omega
      have j0 : j = 0 := by omega
      subst w0; subst j0
      refine ⟨fun c x20 e20 x hx => ?_, fun c => absurd (show (-1 : Int32) < 0 by decide) c⟩
      rw [e1 x hx, e20]
      exact nxt
    · obtain ⟨i, hi⟩ : ∃ i, 12 * w + j = i + 1 := ⟨12 * w + j - 1, by omega⟩
      have ec : cW (i + 1) = 100 * w + j := by rw [← hi]; unfold cW; omega
      have es : wtS (lopN n f) (i + 1) = if (wtS (lopN n f) i).1 ≤ lopN n f (100 * w + j) then wtS (lopN n f) i else (lopN n f (100 * w + j), 100 * w + j) := by rw [← ec]; rfl
      have hle := wtS_le (lopN n f) i
      have hc : cW i ≤ 10000 := by unfold cW; omega
      rw [hi, wtR_s]
      rw [hi] at nxt
      refine ⟨fun c => absurd c (nI_nlt (b := 0) (by omega) (by omega)), fun _ => ⟨fun c x hx => ?_, fun c x24 e24 x hx => ?_⟩⟩
      · rw [es, if_pos c] at nxt
        rw [e1 x hx]
        exact nxt
      · rw [es, if_neg c] at nxt
        rw [e1 x hx, e24]
        exact nxt
theorem m_wt {m : mw_M} {n c0 : Nat} {f : Nat → Nat → Nat} {x3 p1 : Int32} {Q : Int32 → mw_M → Prop} {K1 : Int32 → Int32 → Int32 → mw_M → Prop} (hL : LOK n f c0) (hK : ∀ x u, FM [1] [] m u → (∀ k, k ≠ 36 → u.1 1 k = m.1 1 k) → K1 x (wtS (lopN n f) 1199).1 (nI (wtS (lopN n f) 1199).2) u) : ∀ k w u, w + k = 100 → FM [1] [] m u → (∀ k, k ≠ 36 → u.1 1 k = m.1 1 k) → (∃ c', ML u n f c') → L11_weight_28 x3 p1 Q K1 (k + 1) (nI w) (wtR (lopN n f) (12 * w)).1 (wtR (lopN n f) (12 * w)).2 u := by
  intro k
  induction k with
  | zero =>
    intro w u hw hF h36 hM
    have e : w = 100 := by omega
    subst e
    unfold L11_weight_28
    exact ⟨fun _ => hK _ u hF h36, fun y => absurd (show (99 : Int32) < nI 100 by decide) y⟩
  | succ k ih =>
    intro w u hw hF h36 hM
    unfold L11_weight_28
    refine ⟨fun y => absurd y (by rw [zlt, nI_toInt (by omega)]; simp only [Int32.reduceToInt]; omega), fun _ => ⟨13, m_wtI hL (by omega) (fun _ v fv v36 vM x hx => ?_) 12 0 u rfl hF h36 hM⟩⟩
    rw [hx, show nI w + 1 = nI (w + 1) from nI_add w 1]
    exact ih (w + 1) v (by omega) fv v36 vM
theorem op_weight {a m : mw_M} (hA : RLoad a m) {p1 : Int32} {Q : Int32 → Int32 → mw_M → mw_M → Prop} (hQ : ∀ r u v, FX [45, 46, 47, 48, 49] a u → FM [1] [] m v → RLoad u v → Q r r u v) : P10_weight p1 a (fun r u => P11_weight p1 m (fun r' v => Q r r' u v)) := by
  have hbad : ¬ (0 ≤ p1.toInt ∧ p1.toInt ≤ 1) → P11_weight p1 m (fun r' v => Q (-1) r' a v) := fun h => by
    unfold P11_weight
    rw [ch_within, toL, show (1 : Int64).toInt = 1 from rfl, show (0 : Int64).toInt = 0 from rfl, if_neg h]
    exact hQ _ _ _ FX.rf FM.rf hA
  unfold P10_weight
  refine ⟨fun c => hbad ?_, fun c1 => ⟨fun c2 => ?_, fun c => hbad ?_⟩⟩
  · have := zneg c; omega
  · have c1' := npos c1
    rw [zle, show (1 : Int32).toInt = 1 from rfl] at c2
    obtain ⟨n, f, c0, hL, hX, hM, hC⟩ := id hA
    have ref : ∀ (u : mw_M) (K : Int32 → mw_M → Prop), FX [45, 46, 47, 48, 49] a u → (∀ w, FM [1] [] m w → RLoad u w → (p1 = 0 → K (nI (wtS (lopN n f) 1199).2) w) ∧ (¬ p1 = 0 → K (wtS (lopN n f) 1199).1 w)) → P11_weight p1 m K := by
      intro u K fu hKK
      unfold P11_weight
      rw [ch_within, toL, show (1 : Int64).toInt = 1 from rfl, show (0 : Int64).toInt = 0 from rfl, if_pos ⟨c1', c2⟩]
      intro x3 e3
      refine ⟨101, m_wt hL (fun _ w fw w36 μ27 e27 => ?_) 100 0 m rfl FM.rf (fun _ _ => rfl) ⟨c0, hM⟩⟩
      have F27 : FM [1] [] m μ27 := by rw [e27]; exact fw.I (by decide) (by decide)
      refine hKK μ27 F27 (hA.back fu (by decide) (fun k hk => ?_) (fun k hk => ?_) (fun k hk => ?_))
      · rw [e27]
        by_cases q : k = 36
        · rw [q, mw_I_eq, e3]
        · rw [mw_I_nj q, w36 k q]
      · have : k = 2 ∨ k = 3 ∨ k = 4 ∨ k = 5 := by simpa using hk
        rw [(F27.1 k (by simp; omega) (by omega)).1]
      · rw [F27.2 k (by simp)]
    unfold P8_bestCounter
    refine s2_lieG (Or.inr (by decide)) hL.1 hX (fun u fu _ xu => s2_tell4 hL.1 xu ?_)
    have X2 : XL 45 (mw_I u 45 5 0) n f 0 := ⟨by rw [mw_I_nj (by decide)]; exact xu.1, mw_I_eq, fun i hi => by
      rw [mw_I_row (by decide), mw_I_row (by decide), mw_I_row (by decide), mw_I_row (by decide)]
      exact xu.2.2 i hi⟩
    have F2 : FX [45, 46, 47, 48, 49] a (mw_I u 45 5 0) := FX.I (fu) (by decide)
    have L2 : LOK n f 0 := ⟨hL.1, ⟨by decide, by decide⟩, hL.2.2⟩
    refine s2_across L2 X2 (s2_along L2 X2 (s2_lopsidedBy ⟨100, ?_⟩))
    have st := x_wt (n := n) (f := f) (p1 := p1) (μ2 := mw_I u 45 5 0) (Q := fun r u => P11_weight p1 m (fun r' v => Q r r' u v)) (K1 := fun v9 v10 v11 => ((p1 = 0 → P11_weight p1 m (fun r' v => Q v10 r' (mw_I u 45 5 0) v)) ∧ (¬ p1 = 0 → P11_weight p1 m (fun r' v => Q v11 r' (mw_I u 45 5 0) v)))) (fun _ => ⟨fun d => ref _ _ F2 (fun w fw rw' => ⟨fun _ => hQ _ _ _ F2 fw rw', fun d' => absurd d d'⟩), fun d => ref _ _ F2 (fun w fw rw' => ⟨fun d' => absurd d' d, fun _ => hQ _ _ _ F2 fw rw'⟩)⟩) 99 1 rfl (by decide)
    rw [show 12 * 1 - 1 = 11 from rfl, wtS_0 11 (by decide)] at st
    exact st
  · rw [zle, show (1 : Int32).toInt = 1 from rfl] at c; omega
