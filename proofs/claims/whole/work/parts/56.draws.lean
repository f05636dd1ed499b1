/-! what is drawn, and tumbling -/
def dz (z : Int32) : Int32 := z * 1103515245 + 12345
def zI (z : Int32) : Nat → Int32
  | 0 => z
  | k + 1 => dz (zI z k)
def upN (z : Int32) : Nat := z.toBitVec.toNat / 256
theorem upN_lt (z : Int32) : upN z < 16777216 := by
  have := z.toBitVec.isLt
  unfold upN
  omega
theorem ushr8 (z : Int32) : mw_ushr z 8 = nI (upN z) := by
  have h := pk_ushr z 8 8 (by decide)
  have hl := upN_lt z
  refine nI_of_toInt ?_
  show ((z.toUInt32 >>> ((8 : Int32).toUInt32 &&& Int32.toUInt32 31)).toInt32.toBitVec).toInt = _
  have h' : (z.toUInt32 >>> ((8 : Int32).toUInt32 &&& Int32.toUInt32 31)).toInt32.toBitVec.toNat = upN z := h
  rw [BitVec.toInt_eq_toNat_of_lt (by omega), h']
theorem drew {z : Int32} {d : Nat} (h0 : 0 < d) (hd : d < 2147483648) : mw_rem (mw_ushr z 8) (nI d) = nI (upN z % d) := by
  have := upN_lt z
  rw [ushr8, zrem (by omega) h0 hd]
def fTu (f : Nat → Nat → Nat) (z : Int32) (i : Nat) : Nat → Nat → Nat := fun w k => if w = 2 ∧ k < i then upN (zI z (k + 1)) % 12 else f w k
theorem fTu_ok {f : Nat → Nat → Nat} {n c0 : Nat} {z : Int32} (hL : LOK n f c0) (i : Nat) : LOK n (fTu f z i) c0 := by
  refine ⟨hL.1, hL.2.1, fun k hk => ?_⟩
  obtain ⟨h1, h2, h3, h4, h5⟩ := hL.2.2 k hk
  refine ⟨by unfold fTu; rw [if_neg (by omega)]; exact h1, by unfold fTu; rw [if_neg (by omega)]; exact h2, by unfold fTu; rw [if_neg (by omega)]; exact h3, ?_, by unfold fTu; rw [if_neg (by omega)]; exact h5⟩
  unfold fTu
  have := Nat.mod_lt (upN (zI z (k + 1))) (show 12 > 0 by decide)
  split
  · exact this
  · exact h4
theorem xl_tu {d1 : Nat} {u : mw_M} {n i c0 : Nat} {f : Nat → Nat → Nat} {z : Int32} (h : XL d1 u n (fTu f z i) c0) : XL d1 (mw_I u (d1 + 3) i (nI (upN (zI z (i + 1)) % 12))) n (fTu f z (i + 1)) c0 := by
  refine ⟨by rw [mw_I_ne (by omega)]; exact h.1, by rw [mw_I_ne (by omega)]; exact h.2.1, fun k hk => ?_⟩
  obtain ⟨h1, h2, h3, h4⟩ := h.2.2 k hk
  have g : ∀ w, w ≠ 2 → fTu f z (i + 1) w k = fTu f z i w k := fun w hw => by
    unfold fTu
    rw [if_neg (by omega), if_neg (by omega)]
  refine ⟨by rw [mw_I_ne (by omega), g 0 (by decide)]; exact h1, by rw [mw_I_ne (by omega), g 1 (by decide)]; exact h2, ?_, by rw [mw_I_ne (by omega), g 3 (by decide)]; exact h4⟩
  rw [mw_I_get]
  by_cases q : k = i
  · subst q
    rw [if_pos ⟨rfl, rfl⟩]
    unfold fTu
    rw [if_pos ⟨rfl, by omega⟩]
  · rw [if_neg (fun y => q y.2), h3]
    unfold fTu
    by_cases r : k < i
    · rw [if_pos ⟨rfl, r⟩, if_pos ⟨rfl, by omega⟩]
    · rw [if_neg (by omega), if_neg (by omega)]
theorem ml_tu {v : mw_M} {n i c0 : Nat} {f : Nat → Nat → Nat} {z : Int32} (hn : n ≤ 12) (hi : i < n) (h : ML v n (fTu f z i) c0) : ML (mw_I v 1 (24 + i) (nI (upN (zI z (i + 1)) % 12))) n (fTu f z (i + 1)) c0 := by
  refine ⟨by rw [mw_I_ne (by decide)]; exact h.1, by rw [mw_I_nj (by omega)]; exact h.2.1, fun k hk => ?_⟩
  obtain ⟨h1, h2, h3, h4⟩ := h.2.2 k hk
  have g : ∀ w, w ≠ 2 → fTu f z (i + 1) w k = fTu f z i w k := fun w hw => by
    unfold fTu
    rw [if_neg (by omega), if_neg (by omega)]
  refine ⟨by rw [mw_I_nj (by omega), g 0 (by decide)]; exact h1, by rw [mw_I_nj (by omega), g 1 (by decide)]; exact h2, ?_, by rw [mw_I_ne (by decide), g 3 (by decide)]; exact h4⟩
  rw [mw_I_get]
  by_cases q : k = i
  · subst q
    rw [if_pos ⟨rfl, rfl⟩]
    unfold fTu
    rw [if_pos ⟨rfl, by omega⟩]
  · rw [if_neg (fun y => q (by omega)), h3]
    unfold fTu
    by_cases r : k < i
    · rw [if_pos ⟨rfl, r⟩, if_pos ⟨rfl, by omega⟩]
    · rw [if_neg (by omega), if_neg (by omega)]
theorem s2_tumble {d1 : Nat} {a : mw_M} {n c0 : Nat} {f : Nat → Nat → Nat} {z : Int32} (hn : n ≤ 12) (hX : XL d1 a n f c0) {Q : Int32 → mw_M → Prop} (hQ : ∀ u, FX [d1 + 3] a u → XL d1 u n (fTu f z n) c0 → Q (zI z n) u) : P2_tumble d1 z a Q := by
  have h0 : fTu f z 0 = f := by
    funext w k
    unfold fTu
    rw [if_neg (by omega)]
  have L : ∀ k i u, i + k = n → FX [d1 + 3] a u → XL d1 u n (fTu f z i) c0 → L2_tumble_4 d1 z Q (k + 1) (nI i) (zI z i) u := by
    intro k
    induction k with
    | zero =>
      intro i u hi hF h
      have e : i = n := by omega
      subst e
      unfold L2_tumble_4
      rw [h.1]
      exact ⟨fun _ => hQ u hF h, fun y => absurd (nI_le (Nat.le_refl _) (by omega)) y⟩
    | succ k ih =>
      intro i u hi hF h
      unfold L2_tumble_4 P2_drawn
      rw [h.1]
      refine ⟨fun y => absurd y (by rw [zle, nI_toInt (by omega), nI_toInt (by omega)]; omega), fun _ => ⟨vp_in_nI (by omega) (by decide), fun μ9 e9 x hx => ?_⟩⟩
      rw [nI_clamp (by omega), show (12 : Int32) = nI 12 from rfl, drew (by decide) (by decide)] at e9
      rw [show nI i + 1 = nI (i + 1) from nI_add i 1] at hx
      rw [hx, e9]
      exact ih (i + 1) _ (by omega) (hF.I (by simp)) (xl_tu h)
  exact ⟨n + 1, L n 0 a (by omega) FX.rf (by rw [h0]; exact hX)⟩
theorem s11_tumbles {m : mw_M} {n c0 : Nat} {f : Nat → Nat → Nat} (hn : n ≤ 12) (hM : ML m n f c0) {Q : mw_M → Prop} (hQ : ∀ v, FM [1] [25] m v → v.1 0 25 = zI (m.1 0 25) n → ML v n (fTu f (m.1 0 25) n) c0 → Q v) : P11_tumbles m Q := by
  have h0 : fTu f (m.1 0 25) 0 = f := by
    funext w k
    unfold fTu
    rw [if_neg (by omega)]
  have L : ∀ k i v, i + k = n → FM [1] [25] m v → v.1 0 25 = zI (m.1 0 25) i → ML v n (fTu f (m.1 0 25) i) c0 → L11_tumbles_2 Q (k + 1) (nI i) v := by
    intro k
    induction k with
    | zero =>
      intro i v hi hF hz h
      have e : i = n := by omega
      subst e
      unfold L11_tumbles_2
      rw [h.1]
      exact ⟨fun _ => hQ v hF hz h, fun y => absurd (nI_le (Nat.le_refl _) (by omega)) y⟩
    | succ k ih =>
      intro i v hi hF hz h
      unfold L11_tumbles_2 P11_drawn
      rw [h.1, hz]
      refine ⟨fun y => absurd y (by rw [zle, nI_toInt (by omega), nI_toInt (by omega)]; omega), fun _ μ6 e6 => ⟨by decide, ?_⟩⟩
      have e25 : μ6.1 0 25 = zI (m.1 0 25) (i + 1) := by rw [e6, mw_I_eq]; rfl
      rw [e25, show (12 : Int32) = nI 12 from rfl, drew (by decide) (by decide), show (24 : Int32) + nI i = nI (24 + i) from nI_add 24 i, nI_clamp (by omega)]
      refine ⟨vp_in_nI (by omega) (by decide), fun μ8 e8 x hx => ?_⟩
      rw [show nI i + 1 = nI (i + 1) from nI_add i 1] at hx
      have h6 : ML μ6 n (fTu f (m.1 0 25) i) c0 := by
        rw [e6]
        exact ml_rows h (mw_I_row (by decide)) (mw_I_row (by decide)) (mw_I_nj (by decide))
      have f6 : FM [1] [25] m μ6 := by rw [e6]; exact hF.O (by decide)
      rw [hx, e8]
      refine ih (i + 1) _ (by omega) (f6.I (by decide) (by decide)) ?_ (ml_tu hn (by omega) h6)
      rw [mw_I_ne (by decide)]
      exact e25
  exact ⟨n + 1, L n 0 m (by omega) FM.rf rfl (by rw [h0]; exact hM)⟩
