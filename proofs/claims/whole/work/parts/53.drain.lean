/-! the drum drained -/
def SD (d1 : Nat) : List Nat := [19, 20, 22, 23, 25, 26, 28, 29, 31, d1 + 2]
theorem xl_next {d1 : Nat} {u : mw_M} {n i p c0 : Nat} {W : Option (List LN)} {f : Nat → Nat → Nat} {t lop s c : Int32} (h : XL d1 u n (fDr W f p t lop s c i) c0) : XL d1 (mw_I u (d1 + 1 + 1) i (nI (f 1 i - outN W (f 1 i) (f 3 i) p t lop s c))) n (fDr W f p t lop s c (i + 1)) c0 := by
  refine ⟨by rw [mw_I_ne (by omega)]; exact h.1, by rw [mw_I_ne (by omega)]; exact h.2.1, fun k hk => ?_⟩
  obtain ⟨h1, h2, h3, h4⟩ := h.2.2 k hk
  have g : ∀ w, w ≠ 1 → fDr W f p t lop s c (i + 1) w k = fDr W f p t lop s c i w k := fun w hw => by
    unfold fDr
    rw [if_neg (by omega), if_neg (by omega)]
  refine ⟨by rw [mw_I_ne (by omega), g 0 (by decide)]; exact h1, ?_, by rw [mw_I_ne (by omega), g 2 (by decide)]; exact h3, by rw [mw_I_ne (by omega), g 3 (by decide)]; exact h4⟩
  rw [mw_I_get]
  by_cases q : k = i
  · subst q
    rw [if_pos ⟨by omega, rfl⟩]
    unfold fDr
    rw [if_pos ⟨rfl, by omega⟩]
  · rw [if_neg (fun z => q z.2), h2]
    unfold fDr
    by_cases r : k < i
    · rw [if_pos ⟨rfl, r⟩, if_pos ⟨rfl, by omega⟩]
    · rw [if_neg (by omega), if_neg (by omega)]
theorem xl_rows {d1 : Nat} {u u' : mw_M} {n c0 : Nat} {f : Nat → Nat → Nat} (h : XL d1 u n f c0) (e : ∀ k, d1 ≤ k → k ≤ d1 + 4 → u'.1 k = u.1 k) : XL d1 u' n f c0 := by
  unfold XL at h ⊢
  rw [e d1 (by omega) (by omega), e (d1 + 1) (by omega) (by omega), e (d1 + 2) (by omega) (by omega), e (d1 + 3) (by omega) (by omega), e (d1 + 4) (by omega) (by omega)]
  exact h
theorem x_drainL {d1 : Nat} (h32 : 32 ≤ d1) {a m : mw_M} {n p c0 : Nat} {W : Option (List LN)} {f : Nat → Nat → Nat} {t lop s c : Int32} (hL : LOK n f c0) (hW : WAT a m W) (hp : p ≤ 1200) {Q : mw_M → Prop} (hQ : ∀ u', FX (SD d1) a u' → (∀ b, LB b → u'.1 b 2 = a.1 b 2) → XL d1 u' n (fDr W f p t lop s c n) c0 → Q u') : ∀ k i u, i + k = n → FX (SD d1) a u → (∀ b, LB b → u.1 b 2 = a.1 b 2) → XL d1 u n (fDr W f p t lop s c i) c0 → L4_drain_3 d1 lop (nI p) t s c Q (k + 1) (nI i) u := by
  have hn := hL.1
  intro k
  induction k with
  | zero =>
    intro i u hi hF hS hX
    have e : i = n := by omega
    subst e
    unfold L4_drain_3
    rw [hX.1]
    exact ⟨fun _ => hQ u hF hS hX, fun z => absurd (nI_le (Nat.le_refl _) (by omega)) z⟩
  | succ k ih =>
    intro i u hi hF hS hX
    obtain ⟨-, -, hwt, -, hhd⟩ := hL.2.2 i (by omega)
    unfold L4_drain_3
    rw [hX.1]
    have ew : fDr W f p t lop s c i 1 i = f 1 i := by unfold fDr; rw [if_neg (by omega)]
    have eh : fDr W f p t lop s c i 3 i = f 3 i := by unfold fDr; rw [if_neg (by omega)]
    refine ⟨fun z => absurd z (by rw [zle, nI_toInt (by omega), nI_toInt (by omega)]; omega), fun _ => ?_⟩
    refine s2_toldB (w := 1) hn hX (by decide) (by omega) ?_
    rw [ew]
    intro x7 hx7
    have m1 : f 1 i * p ≤ 99 * 1200 := Nat.mul_le_mul hwt hp
    rw [pk_mul, show (6000 : Int32) = nI 6000 from rfl, zdiv (by omega) (by decide) (by decide)] at hx7
    have ol := outN_le (W := W) (hold := f 3 i) (t := t) (lop := lop) (s := s) (c := c) hwt hp
    have e15 : u.1 15 = a.1 15 := (hF 15 (by unfold SD; simp; omega)).1
    have fin : ∀ u2, FX (SD d1) a u2 → (∀ b, LB b → u2.1 b 2 = a.1 b 2) → XL d1 u2 n (fDr W f p t lop s c i) c0 → ∀ x, x = nI (f 1 i) - nI (outN W (f 1 i) (f 3 i) p t lop s c) → P2_tell d1 (nI i) 1 x u2 (fun μ19 => (∀ x20 : Int32, x20 = nI i + 1 → L4_drain_3 d1 lop (nI p) t s c Q (k + 1) x20 μ19)) := fun u2 h1 h2 h3 x hx => by
      refine s2_tellB (w := 1) hn h3.1 (by decide) (by omega) (fun y hy => ?_)
      rw [pk_sub ol] at hx
      rw [show nI i + 1 = nI (i + 1) from nI_add i 1] at hy
      rw [hx, hy]
      refine ih (i + 1) _ (by omega) (h1.I (by unfold SD; simp)) (fun b hb => ?_) (xl_next h3)
      rcases hb with rfl | rfl | rfl | rfl
      all_goals
        rw [mw_I_ne (by omega)]
        exact h2 _ (by unfold LB; simp)
    rcases hW with ⟨rfl, w1, w2⟩ | ⟨w, ls, n2, j, tb, rfl, hw4, ⟨nl, nl4, hwn, e3⟩, w1, w2, g1, g2, g3, g4, g5, g6⟩
    · rw [e15, w1]
      unfold P4_has
      refine ⟨fun _ => ?_, fun z => absurd (by decide) z⟩
      rw [hx7]
      exact fin u hF hS hX _ rfl
    · rw [ch4_has nl4 (by rw [e15]; exact e3), e15, w1, if_pos (by rw [nI_toInt (by omega)]; omega)]
      refine s2_toldB (w := 3) hn hX (by decide) (by omega) ?_
      rw [eh]
      unfold P4_name
      simp only [forall_eq]
      generalize hu : mw_I (mw_I (mw_I (mw_I (mw_I (mw_I (mw_I (mw_I (mw_I u 19 0 (nI (f 1 i))) 19 1 (nI (f 3 i))) 19 2 (nI p)) 19 3 t) 19 4 lop) 19 5 0) 19 6 0) 19 7 s) 19 8 c = u1
      have fu : FX [19] u u1 := by
        rw [← hu]
        exact ((((((((FX.rf.I (by decide)).I (by decide)).I (by decide)).I (by decide)).I (by decide)).I (by decide)).I (by decide)).I (by decide)).I (by decide)
      have nu : ∀ k, k < 9 → u1.1 19 k = wNm (f 1 i) (f 3 i) p t lop s c k := by
        intro k hk
        rw [← hu]
        unfold wNm
        rcases (show k = 0 ∨ k = 1 ∨ k = 2 ∨ k = 3 ∨ k = 4 ∨ k = 5 ∨ k = 6 ∨ k = 7 ∨ k = 8 by omega) with rfl | rfl | rfl | rfl | rfl | rfl | rfl | rfl | rfl
        all_goals simp (config := { decide := true }) only [mw_I_get, true_and, false_and, if_true, if_false]
      have hb := LB_of hw4
      have hbg := hb.ge
      have e15' : u1.1 15 = a.1 15 := (fu 15 (by decide)).1.trans e15
      rw [e15', w1, nI_clamp (by omega)]
      refine ⟨vp_in_nI (by omega) (by decide), ?_⟩
      have gt := pText_G g1 120 0 (Nat.zero_le _) j ls g4
      have hn1 := g1.1
      have b2 : u1.1 (20 + 3 * w) 2 = nI (txCode ls).length := by rw [(fu (20 + 3 * w) (by simp; omega)).1, hS _ hb]; exact g5
      have bc : u1.1 (20 + 3 * w + 1) = a.1 (20 + 3 * w + 1) := by
        rw [(fu (20 + 3 * w + 1) (by simp; omega)).1]
        exact (hF _ (by unfold SD; simp; omega)).1
      refine x_worth hb gt.2.1 gt.2.2.1 (by have := gt.2.2.2; omega) b2 (by rw [bc]; exact g6) (fun u3 hu3 hj => ?_)
      rw [tx_cong nu ls gt.2.2.1]
      rw [clN_mm (show f 1 i ≤ 1200 by omega)]
      have f13 : FX (SD d1) a u3 := by
        refine hF.tr ((fu.mono (fun k hk => by unfold SD; simp at hk; simp [hk])).tr (hu3.mono (fun k hk => ?_)))
        unfold SD
        simp at hk ⊢
        omega
      have ff := fin u3 f13 (fun b hb2 => ?_) (xl_rows hX (fun k h1 h2 => ?_)) _ rfl
      · simp only [forall_eq] at ff
        exact ff
      · by_cases q : b = 20 + 3 * w
        · subst q
          rw [hj 2 (by decide), b2]; exact g5.symm
        · have hne : b ≠ 20 + 3 * w + 2 := by
            rcases hb2 with rfl | rfl | rfl | rfl <;> omega
          rw [(hu3 b (by simp; omega)).1, (fu b (by have := hb2.ge; simp; omega)).1]
          exact hS b hb2
      · rw [(hu3 k (by simp; omega)).1, (fu k (by simp; omega)).1]
