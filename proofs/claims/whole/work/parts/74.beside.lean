/-! beside -/
def bdS (W : Option (List LN)) (n c0 p : Nat) (f : Nat → Nat → Nat) : Nat → Nat → Nat → Nat
  | 0 => f
  | t + 1 => fDr W (bdS W n c0 p f t) p (nI t) (lopN n (bdS W n c0 p f t) c0) (nI t) 0 n
theorem bdS_ok {W : Option (List LN)} {n c0 p : Nat} {f : Nat → Nat → Nat} (hL : LOK n f c0) : ∀ t, LOK n (bdS W n c0 p f t) c0
  | 0 => hL
  | t + 1 => fDr_ok (bdS_ok hL t) n
/-- the first tick, of k from t on, at which the wet is at most M -/
def bsF (w : Nat → Nat) (M : Nat) : Nat → Nat → Int32
  | 0, _ => -2
  | k + 1, t => if w t ≤ M then nI t else bsF w M k (t + 1)
theorem wet_lt {n c0 : Nat} {f : Nat → Nat → Nat} (hL : LOK n f c0) : wetN f n ≤ 1188 := by
  have h1 := wetN_le n f (fun i hi => (hL.2.2 i hi).2.2.1)
  have h2 := hL.1
  omega
theorem x_dry {a m : mw_M} {W : Option (List LN)} {n c0 p M : Nat} {f : Nat → Nat → Nat} (hL : LOK n f c0) (hW : WAT a m W) (hp : p ≤ 1200) (hM : M ≤ 9999) {R : Int32} {Q : Int32 → mw_M → Prop} (hQ : ∀ u, FW 45 a u → Q R u) : ∀ k t u, t + k = 201 → bsF (fun t => wetN (bdS W n c0 p f t) n) M k t = R → FW 45 a u → XL 45 u n (bdS W n c0 p f t) c0 → L8_ticksTillDry_13 (nI p) (nI M) Q (k + 1) (nI t) u := by
  intro k
  induction k with
  | zero =>
    intro t u hk hR hF hX
    have e : t = 201 := by omega
    subst e
    unfold L8_ticksTillDry_13
    have e2 : (-2 : Int32) = R := hR
    rw [e2]
    exact ⟨fun _ => hQ u hF, fun y => absurd (show (200 : Int32) < nI 201 by decide) y⟩
  | succ k ih =>
    intro t u hk hR hF hX
    have HL := bdS_ok (W := W) (p := p) hL t
    have hw := wet_lt HL
    unfold L8_ticksTillDry_13
    refine ⟨fun y => absurd y (by rw [zlt, nI_toInt (by omega)]; simp only [Int32.reduceToInt]; omega), fun _ => s2_wetOfAll HL hX ⟨fun c => ?_, fun c => ?_⟩⟩
    · rw [zlt, nI_toInt (by omega), nI_toInt (by omega)] at c
      have hR' : bsF (fun t => wetN (bdS W n c0 p f t) n) M k (t + 1) = R := by
        rw [← hR]
        exact (if_neg (show ¬ wetN (bdS W n c0 p f t) n ≤ M by omega)).symm
      refine s2_lopsided HL hX (s4_drain (by decide) HL hX (hW.fw (by decide) hF) hp (fun v f1 f2 f3 => ?_))
      intro x hx
      rw [hx, show nI t + 1 = nI (t + 1) from nI_add t 1]
      exact ih (t + 1) v (by omega) hR' (hF.tr (FW.of f1 f2 (by decide))) f3
    · rw [zlt, nI_toInt (by omega), nI_toInt (by omega)] at c
      have e : nI t = R := by
        rw [← hR]
        exact (if_pos (show wetN (bdS W n c0 p f t) n ≤ M by omega)).symm
      rw [e]
      exact hQ u hF
theorem m_dry {a m : mw_M} {W : Option (List LN)} {n c0 p M : Nat} {f : Nat → Nat → Nat} (hL : LOK n f c0) (hW : WAT a m W) (hp : p ≤ 1200) (hM : M ≤ 9999) {R : Int32} {Q : Int32 → mw_M → Prop} {K1 : Int32 → mw_M → Prop} (hK : ∀ t u, FM [1, 13] SM m u → ML u n (bdS W n c0 p f t) c0 → (wetN (bdS W n c0 p f t) n ≤ M → R = nI t) → (¬ wetN (bdS W n c0 p f t) n ≤ M → R = -2) → K1 (nI t) u) : ∀ k t u, t + k = 200 → bsF (fun t => wetN (bdS W n c0 p f t) n) M (k + 1) t = R → FM [1, 13] SM m u → ML u n (bdS W n c0 p f t) c0 → L11_beside_34 (nI p) (nI M) Q K1 (k + 1) (nI t) u := by
  intro k
  induction k with
  | zero =>
    intro t u hk hR hF hX
    have e : t = 200 := by omega
    subst e
    unfold L11_beside_34
    refine ⟨fun _ => hK 200 u hF hX (fun c => ?_) (fun c => ?_), fun y => absurd (show (200 : Int32) ≤ nI 200 by decide) y⟩
    · rw [← hR]; exact if_pos c
    · rw [← hR]; exact if_neg c
  | succ k ih =>
    intro t u hk hR hF hX
    have HL := bdS_ok (W := W) (p := p) hL t
    have hw := wet_lt HL
    unfold L11_beside_34
    refine ⟨fun y => absurd y (by rw [zle, nI_toInt (by omega)]; simp only [Int32.reduceToInt]; omega), fun _ => s11_allWet HL hX ⟨fun c => ?_, fun c => ?_⟩⟩
    · rw [zle, nI_toInt (by omega), nI_toInt (by omega)] at c
      refine hK t u hF hX (fun d => ?_) (fun d => absurd (by omega) d)
      rw [← hR]; exact if_pos d
    · rw [zle, nI_toInt (by omega), nI_toInt (by omega)] at c
      have hR' : bsF (fun t => wetN (bdS W n c0 p f t) n) M (k + 1) (t + 1) = R := by
        rw [← hR]
        exact (if_neg (show ¬ wetN (bdS W n c0 p f t) n ≤ M by omega)).symm
      refine s11_leaves HL hX (hW.fm hF ⟨by decide, by decide, by decide⟩) hp (fun v f1 f2 => ?_)
      intro x hx
      rw [hx, show nI t + 1 = nI (t + 1) from nI_add t 1]
      exact ih (t + 1) v (by omega) hR' (hF.tr f1) f2
theorem op_beside {a m : mw_M} (hA : RLoad a m) (hR : RLaws a m) {p1 p2 : Int32} {Q : Int32 → Int32 → mw_M → mw_M → Prop} (hQ : ∀ r u v, FW 45 a u → FM [1, 13, 14] SM m v → RLoad u v → Q r r u v) : P10_beside p1 p2 a (fun r u => P11_beside p1 p2 m (fun r' v => Q r r' u v)) := by
  have hbad : ¬ ((60 ≤ p1.toInt ∧ p1.toInt ≤ 1200) ∧ 0 ≤ p2.toInt ∧ p2.toInt ≤ 9999) → P11_beside p1 p2 m (fun r' v => Q (-1) r' a v) := fun h => by
    unfold P11_beside
    rw [ch_within, ch_within, toL, toL, show (60 : Int64).toInt = 60 from rfl, show (1200 : Int64).toInt = 1200 from rfl, show (0 : Int64).toInt = 0 from rfl, show (9999 : Int64).toInt = 9999 from rfl]
    by_cases c : 60 ≤ p1.toInt ∧ p1.toInt ≤ 1200
    · rw [if_pos c, if_neg (fun d => h ⟨c, d⟩)]
      exact hQ _ _ _ FW.rf FM.rf hA
    · rw [if_neg c]
      exact hQ _ _ _ FW.rf FM.rf hA
  unfold P10_beside
  refine ⟨fun c => hbad ?_, fun c1 => ?_⟩
  · rw [zlt, show (60 : Int32).toInt = 60 from rfl] at c; omega
  rw [ch5_isPace]
  rw [zlt, show (60 : Int32).toInt = 60 from rfl] at c1
  by_cases c2 : 0 ≤ p1.toInt ∧ p1.toInt ≤ 1200
  · rw [if_pos c2]
    refine ⟨fun c => hbad ?_, fun c3 => ⟨fun c4 => ?_, fun c => hbad ?_⟩⟩
    · have := zneg c; omega
    · have c3' := npos c3
      rw [zle, show (9999 : Int32).toInt = 9999 from rfl] at c4
      obtain ⟨p, hp, rfl⟩ := nI_get (x := p1) (by omega)
      obtain ⟨M, hM, rfl⟩ := nI_get (x := p2) (by omega)
      rw [nI_toInt (by omega)] at c1 c2 c4
      obtain ⟨n, f, c0, hL, hX, hM', hC⟩ := id hA
      obtain ⟨W, hW⟩ := hR.wat
      unfold P8_ticksTillDry
      refine s2_lieG (Or.inr (by decide)) hL.1 hX (fun u fu _ xu => ⟨202, x_dry hL hW (by omega) (by omega) (R := bsF (fun t => wetN (bdS W n c0 p f t) n) M 201 0) (fun v fv => ?_) 201 0 u rfl rfl (FW.of fu (fun q hq => by rw [(fu q (by have := hq.lt; simp; omega)).1]) (by decide)) xu⟩)
      show P11_beside (nI p) (nI M) m (fun r' w => Q _ r' v w)
      unfold P11_beside
      rw [ch_within, ch_within, toL, toL, show (60 : Int64).toInt = 60 from rfl, show (1200 : Int64).toInt = 1200 from rfl, show (0 : Int64).toInt = 0 from rfl, show (9999 : Int64).toInt = 9999 from rfl, if_pos (by rw [nI_toInt (by omega)]; omega), if_pos (by rw [nI_toInt (by omega)]; omega)]
      refine s11_keeps (fun v0 f0 k0 => ?_)
      have F0 : FM [1, 13, 14] SM m v0 := f0.mono (by decide) (by decide)
      have fin : ∀ w x, FM [1, 13] SM v0 w → FM [1] [] w x → (∀ k, k < 37 → x.1 1 k = w.1 14 k) → Q (bsF (fun t => wetN (bdS W n c0 p f t) n) M 201 0) (bsF (fun t => wetN (bdS W n c0 p f t) n) M 201 0) v x := fun w x fw fx kx => by
        refine hQ _ v x fv ((F0.tr (fw.mono (by decide) (by decide))).tr (fx.mono (by decide) (by decide))) (hA.back fv.1 (by decide) (fun k hk => ?_) (fun k hk => ?_) (fun k hk => ?_))
        · rw [kx k hk, (fw.1 14 (by decide) (by decide)).1, k0 k hk]
        · have : k = 2 ∨ k = 3 ∨ k = 4 ∨ k = 5 := by simpa using hk
          rw [(fx.1 k (by simp; omega) (by omega)).1, (fw.1 k (by simp; omega) (by omega)).1, (f0.1 k (by simp; omega) (by omega)).1]
        · have : k = 4 ∨ k = 5 ∨ k = 6 := by simpa using hk
          rw [fx.2 k (by simp), fw.2 k (by simp [SM]; omega), f0.2 k (by simp)]
      refine ⟨201, m_dry hL (hW.fm f0 ⟨by decide, by decide, by decide⟩) (by omega) (by omega) (R := bsF (fun t => wetN (bdS W n c0 p f t) n) M 201 0) (fun t w fw hw w1 w2 => ?_) 200 0 v0 rfl rfl FM.rf (ml_rows hM' (f0.1 1 (by decide) (by decide)).1 (f0.1 5 (by decide) (by decide)).1 (f0.2 6 (by decide)))⟩
      have HL := bdS_ok (W := W) (p := p) hL t
      have hwt := wet_lt HL
      refine s11_allWet HL hw ⟨fun d => s11_lays (fun x fx kx => ?_), fun d => s11_lays (fun x fx kx => ?_)⟩
      · rw [zlt, nI_toInt (by omega), nI_toInt (by omega)] at d
        rw [← w2 (by omega)]
        exact fin w x fw fx kx
      · rw [zlt, nI_toInt (by omega), nI_toInt (by omega)] at d
        rw [← w1 (by omega)]
        exact fin w x fw fx kx
    · rw [zle, show (9999 : Int32).toInt = 9999 from rfl] at c; omega
  · rw [if_neg c2]
    exact hbad (fun q => c2 (by omega))
