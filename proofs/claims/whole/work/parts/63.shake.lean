/-! shake and hop, the class's side -/
def xTail (b : Nat) (p1 p3 r1 : Int32) (μ : mw_M) (Q : mw_M → Prop) : Prop := P9_walked b μ (fun r8 => (∀ μ10 : mw_M, μ10 = mw_I μ b 15 (mw_max (μ.1 b 15) r8) → (vp_in p1 200 ∧ (∀ μ12 : mw_M, μ12 = mw_I μ10 (b + 7) p1.toNatClampNeg (μ10.1 b 13) → (vp_in p1 200 ∧ (∀ μ14 : mw_M, μ14 = mw_I μ12 ((b + 7) + 1) p1.toNatClampNeg p3 → (vp_in p1 200 ∧ (∀ μ16 : mw_M, μ16 = mw_I μ14 ((b + 7) + 2) p1.toNatClampNeg r1 → (vp_in p1 200 ∧ (∀ μ18 : mw_M, μ18 = mw_I μ16 ((b + 7) + 3) p1.toNatClampNeg (μ16.1 b 5) → (vp_in p1 200 ∧ (∀ μ20 : mw_M, μ20 = mw_I μ18 ((b + 7) + 4) p1.toNatClampNeg (μ18.1 b 6) → (∀ μ21 : mw_M, μ21 = mw_I μ20 b 12 (p1 + 1) → Q μ21)))))))))))))
def tlM (b t : Nat) (lop sh : Int32) (μ : mw_M) : mw_M := mw_I (mw_I (mw_I (mw_I (mw_I (mw_I (mw_I μ b 15 (mw_max (μ.1 b 15) (mw_abs (μ.1 b 5) + mw_abs (μ.1 b 6)))) (b + 7) t (μ.1 b 13)) (b + 7 + 1) t lop) (b + 7 + 2) t sh) (b + 7 + 3) t (μ.1 b 5)) (b + 7 + 4) t (μ.1 b 6)) b 12 (nI (t + 1))
theorem s9_tail {b t : Nat} (ht : t < 200) {lop sh : Int32} {μ : mw_M} {Q : mw_M → Prop} (hQ : Q (tlM b t lop sh μ)) : xTail b (nI t) lop sh μ Q := by
  have hv := vp_in_nI ht (by decide)
  unfold xTail P9_walked
  simp only [forall_eq, nI_clamp (show t < 2 ^ 31 by omega), show nI t + 1 = nI (t + 1) from nI_add t 1]
  refine ⟨hv, hv, hv, hv, hv, ?_⟩
  have e0 : (b = b + 7) = False := eq_false (by omega)
  have e1 : (b = b + 7 + 1) = False := eq_false (by omega)
  have e2 : (b = b + 7 + 2) = False := eq_false (by omega)
  have e3 : (b = b + 7 + 3) = False := eq_false (by omega)
  simp (config := { decide := true }) only [mw_I_get, e0, e1, e2, e3, true_and, false_and, if_true, if_false]
  exact hQ
def xHop (b : Nat) (p2 x5 : Int32) (μ : mw_M) (K : mw_M → Prop) : Prop := P2_side (b + 1) μ (fun r22 => (∀ μ24 : mw_M, μ24 = mw_I μ b 11 ((μ.1 b 11) + 1) → P2_cosine r22 (fun r25 => P5_slopeX p2 μ24 (fun r27 => P9_within (((μ24.1 b 5) + ((r25 * x5) / 1000)) + r27) (fun r29 => (∀ μ31 : mw_M, μ31 = mw_I μ24 b 5 r29 → P2_sine r22 (fun r32 => P5_slopeY p2 μ31 (fun r34 => P9_within (((μ31.1 b 6) + ((r32 * x5) / 1000)) + r34) (fun r36 => (∀ μ38 : mw_M, μ38 = mw_I μ31 b 6 r36 → K μ38))))))))))
theorem s5_grip {a : mw_M} {fl i : Nat} {v : Int32} (hfl : fl ≤ 4) (h8 : a.1 11 8 = nI fl) (hi : i < fl) (h : a.1 12 i = v) {Q : Int32 → Prop} (hQ : Q v) : P5_gripOf (nI i) a Q := by
  unfold P5_gripOf
  rw [ch5_hasFloor hfl h8, if_pos (by rw [nI_toInt (by omega)]; omega), nI_clamp (by omega), h]
  exact ⟨vp_in_nI (by omega) (by decide), hQ⟩
theorem s5_slX {a : mw_M} {fl i : Nat} {v : Int32} (hfl : fl ≤ 4) (h8 : a.1 11 8 = nI fl) (hi : i < fl) (h : a.1 13 i = v) {Q : Int32 → Prop} (hQ : Q v) : P5_slopeX (nI i) a Q := by
  unfold P5_slopeX
  rw [ch5_hasFloor hfl h8, if_pos (by rw [nI_toInt (by omega)]; omega), nI_clamp (by omega), h]
  exact ⟨vp_in_nI (by omega) (by decide), hQ⟩
theorem s5_slY {a : mw_M} {fl i : Nat} {v : Int32} (hfl : fl ≤ 4) (h8 : a.1 11 8 = nI fl) (hi : i < fl) (h : a.1 14 i = v) {Q : Int32 → Prop} (hQ : Q v) : P5_slopeY (nI i) a Q := by
  unfold P5_slopeY
  rw [ch5_hasFloor hfl h8, if_pos (by rw [nI_toInt (by omega)]; omega), nI_clamp (by omega), h]
  exact ⟨vp_in_nI (by omega) (by decide), hQ⟩
def hpM (b : Nat) (x1 y1 : Int32) (μ : mw_M) : mw_M := mw_I (mw_I (mw_I μ b 11 (μ.1 b 11 + 1)) b 5 x1) b 6 y1
theorem s9_hop {b : Nat} (h32 : 32 ≤ b) {μ : mw_M} {n c0 fl i : Nat} {f : Nat → Nat → Nat} {sx sy x5 : Int32} (hL : LOK n f c0) (hX : XL (b + 1) μ n f c0) (hfl : fl ≤ 4) (m8 : μ.1 11 8 = nI fl) (hi : i < fl) (m13 : μ.1 13 i = sx) (m14 : μ.1 14 i = sy) {K : mw_M → Prop} (hK : K (hpM b (held (μ.1 b 5 + co (sideN n f c0) * x5 / 1000 + sx)) (held (μ.1 b 6 + si (sideN n f c0) * x5 / 1000 + sy)) μ)) : xHop b (nI i) x5 μ K := by
  unfold xHop
  refine s2_side hL hX ?_
  simp only [forall_eq]
  refine s2_cosine side_lt (s5_slX (v := sx) hfl (by rw [mw_I_ne (by omega)]; exact m8) hi (by rw [mw_I_ne (by omega)]; exact m13) ?_)
  unfold P9_within
  refine s2_sine side_lt (s5_slY (v := sy) hfl (by rw [mw_I_ne (by omega), mw_I_ne (by omega)]; exact m8) hi (by rw [mw_I_ne (by omega), mw_I_ne (by omega)]; exact m14) ?_)
  rw [mw_I_nj (show 5 ≠ 11 by decide), mw_I_nj (show 6 ≠ 5 by decide), mw_I_nj (show 6 ≠ 11 by decide)]
  exact hK
def xAct (b : Nat) (p1 p2 p3 r1 x5 : Int32) (μ : mw_M) (Q : mw_M → Prop) : Prop := (x5 ≤ 0 → xTail b p1 p3 r1 μ Q) ∧ (¬ x5 ≤ 0 → xHop b p2 x5 μ (fun μ38 => xTail b p1 p3 r1 μ38 Q))
theorem sub_le0 {s g : Nat} (hs : s ≤ 99999) (hg : g ≤ 999) : (nI s - nI g ≤ 0) = (¬ nI g < nI s) := by
  rw [eq_iff_iff, zle, zlt, Int32.toInt_sub, nI_toInt (by omega), nI_toInt (by omega), bmE (by omega) (by omega)]
  simp only [Int32.reduceToInt]
  omega
/-- the memory behind shake and hop -/
def sknM (b : Nat) (sh : Int32) (μ : mw_M) : mw_M := if sh ≤ 500 then μ else mw_I μ b 10 (μ.1 b 10 + 1)
def shpM (b : Nat) (g a : Nat) (sh sx sy : Int32) (μ : mw_M) : mw_M := if nI g < sh then hpM b (held (μ.1 b 5 + co a * (sh - nI g) / 1000 + sx)) (held (μ.1 b 6 + si a * (sh - nI g) / 1000 + sy)) μ else μ
theorem sknM_row {b k : Nat} {sh : Int32} {μ : mw_M} (h : k ≠ b) : (sknM b sh μ).1 k = μ.1 k := by
  unfold sknM
  split
  · rfl
  · exact mw_I_row h
theorem shpM_row {b k g a : Nat} {sh sx sy : Int32} {μ : mw_M} (h : k ≠ b) : (shpM b g a sh sx sy μ).1 k = μ.1 k := by
  unfold shpM hpM
  split
  · rw [mw_I_row h, mw_I_row h, mw_I_row h]
  · rfl
theorem s9_act {b t : Nat} (h32 : 32 ≤ b) (ht : t < 200) {μ : mw_M} {n c0 fl i g s : Nat} {f : Nat → Nat → Nat} {sx sy : Int32} (hL : LOK n f c0) (hX : XL (b + 1) μ n f c0) (hfl : fl ≤ 4) (m8 : μ.1 11 8 = nI fl) (hi : i < fl) (hg : g ≤ 999) (hs : s ≤ 99999) (m13 : μ.1 13 i = sx) (m14 : μ.1 14 i = sy) {lop : Int32} {Q : mw_M → Prop} (hQ : Q (tlM b t lop (nI s) (shpM b g (sideN n f c0) (nI s) sx sy μ))) : xAct b (nI t) (nI i) lop (nI s) (nI s - nI g) μ Q := by
  unfold xAct
  rw [sub_le0 hs hg]
  unfold shpM at hQ
  refine ⟨fun h => ?_, fun h => ?_⟩
  · rw [if_neg h] at hQ
    exact s9_tail ht hQ
  · rw [if_pos (Decidable.not_not.1 h)] at hQ
    exact s9_hop h32 hL hX hfl m8 hi m13 m14 (s9_tail ht hQ)
theorem s9_shake {b t : Nat} (h32 : 32 ≤ b) (ht : t < 200) {u : mw_M} {n c0 fl i g be da p : Nat} {f : Nat → Nat → Nat} {sx sy : Int32} (hL : LOK n f c0) (hX : XL (b + 1) u n f c0) (hbe : be ≤ 900) (hda : 1 ≤ da ∧ da ≤ 9999) (hp : p ≤ 1200) (m0 : u.1 11 0 = nI be) (m1 : u.1 11 1 = nI da) (hfl : fl ≤ 4) (m8 : u.1 11 8 = nI fl) (hi : i < fl) (hg : g ≤ 999) (m12 : u.1 12 i = nI g) (m13 : u.1 13 i = sx) (m14 : u.1 14 i = sy) (h13 : u.1 b 13 = nI p) {Q : mw_M → Prop} (hQ : Q (tlM b t (lopN n f c0) (shS be da (lopN n f c0) p) (shpM b g (sideN n f c0) (shS be da (lopN n f c0) p) sx sy (sknM b (shS be da (lopN n f c0) p) u)))) : P9_shakeAndHop b (nI t) (nI i) (lopN n f c0) u Q := by
  obtain ⟨s, hs, es⟩ := sh_N hL hbe hda hp
  unfold P9_shakeAndHop
  rw [h13]
  refine s5_shakeOf hbe hda hp m0 m1 (s5_grip hfl m8 hi m12 ?_)
  rw [es] at hQ ⊢
  intro x5 e5
  subst e5
  unfold sknM at hQ
  refine ⟨fun c => ?_, fun c => ?_⟩
  · rw [if_pos c] at hQ
    exact s9_act h32 ht hL hX hfl m8 hi hg hs m13 m14 hQ
  · rw [if_neg c] at hQ
    intro μ53 e53
    subst e53
    exact s9_act h32 ht hL (xl_rows hX (fun k _ _ => mw_I_row (by omega))) hfl (by rw [mw_I_ne (by omega)]; exact m8) hi hg hs (by rw [mw_I_ne (by omega)]; exact m13) (by rw [mw_I_ne (by omega)]; exact m14) hQ
