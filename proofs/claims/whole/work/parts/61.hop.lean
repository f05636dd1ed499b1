/-! a hop, the reference's side -/
theorem s11_hopsOn {m : mw_M} {n c i g : Nat} {f : Nat → Nat → Nat} {sx sy sh : Int32} (hL : LOK n f c) (hM : ML m n f c) (ha : sideN n f c < 12) (hi : i < 4) (h7 : m.1 7 i = nI g) (h8 : m.1 8 i = sx) (h9 : m.1 9 i = sy) {Q : mw_M → Prop} (hQ : Q (mw_I (mw_I (mw_I m 0 34 (m.1 0 34 + 1)) 0 39 (held (m.1 0 39 + co (sideN n f c) * (sh - nI g) / 1000 + sx))) 0 40 (held (m.1 0 40 + si (sideN n f c) * (sh - nI g) / 1000 + sy)))) : P11_hopsOn (nI i) sh m Q := by
  unfold P11_hopsOn
  refine s11_side hL hM ?_
  have hv := vp_in_nI hi (by decide)
  simp only [forall_eq, nI_clamp (show i < 2 ^ 31 by omega)]
  refine s11_cosine ha ⟨hv, hv, s11_held ?_⟩
  refine s11_sine ha ⟨hv, hv, s11_held ?_⟩
  simp (config := { decide := true }) only [mw_I_get, true_and, false_and, if_true, if_false, h7, h8, h9]
  exact hQ
