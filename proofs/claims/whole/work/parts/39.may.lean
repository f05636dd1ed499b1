/-! may -/
theorem shS_N {be da p lop : Nat} (hbe : be ≤ 900) (hda : 1 ≤ da ∧ da ≤ 9999) (hp : p ≤ 1200) (hl : lop ≤ 99999) : shS be da (nI lop) p = nI (min 99999 (lop * (p / 10) * (p / 10) / stN be da p)) := by
  have hs := stN_lt hbe hda.2 hp
  have h1 : 1 ≤ stN be da p := by unfold stN; omega
  have b1 : lop * (p / 10) ≤ 99999 * 120 := Nat.mul_le_mul hl (by omega)
  have b2 : lop * (p / 10) * (p / 10) ≤ 99999 * 120 * 120 := Nat.mul_le_mul b1 (by omega)
  unfold shS
  rw [nI_l (by omega), lN_mul, lN_mul, pk_lDiv (by omega) h1 (by omega)]
  have b3 := Nat.div_le_self (lop * (p / 10) * (p / 10)) (stN be da p)
  generalize lop * (p / 10) * (p / 10) / stN be da p = w at b3 ⊢
  unfold mw_minL
  by_cases c : w < 99999
  · rw [if_pos (show lN w < (99999 : Int64) from (pk_lLT (b := 99999) (by omega) (by decide)).2 c), lN_i, Nat.min_eq_right (by omega)]
  · rw [if_neg (show ¬ lN w < (99999 : Int64) from fun q => c ((pk_lLT (b := 99999) (by omega) (by decide)).1 q)), Nat.min_eq_left (by omega)]
    rfl
def grN (be da g : Nat) (j : Nat) : Nat := ((g + 1) * stN be da (10 * j) - 1) / (j * j)
def mnS (be da g : Nat) : Nat → Nat
  | 0 => 9999
  | k + 1 => min (mnS be da g k) (grN be da g (k + 1))
theorem mnS_le (be da g : Nat) : ∀ k, mnS be da g k ≤ 9999
  | 0 => Nat.le_refl _
  | k + 1 => Nat.le_trans (Nat.min_le_left _ _) (mnS_le be da g k)
theorem mnS_an (be da g : Nat) : ∀ k j, 1 ≤ j → j ≤ k → mnS be da g k ≤ grN be da g j
  | 0, _, _, _ => by omega
  | k + 1, j, h1, h2 => by
    by_cases q : j = k + 1
    · subst q; exact Nat.min_le_right _ _
    · exact Nat.le_trans (Nat.min_le_left _ _) (mnS_an be da g k j h1 (by omega))
theorem mnS_at (be da g : Nat) : ∀ k, mnS be da g k < 9999 → ∃ j, 1 ≤ j ∧ j ≤ k ∧ mnS be da g k = grN be da g j
  | 0, h => absurd h (Nat.lt_irrefl _)
  | k + 1, h => by
    unfold mnS at h ⊢
    by_cases q : mnS be da g k ≤ grN be da g (k + 1)
    · rw [Nat.min_eq_left q] at h ⊢
      obtain ⟨j, a, b, c⟩ := mnS_at be da g k h
      exact ⟨j, a, by omega, c⟩
    · rw [Nat.min_eq_right (by omega)] at h ⊢
      exact ⟨k + 1, by omega, Nat.le_refl _, rfl⟩
theorem sh_gr {be da g lop j : Nat} (hda : 1 ≤ da) (hg : g ≤ 999) (hj : 1 ≤ j) : min 99999 (lop * (10 * j / 10) * (10 * j / 10) / stN be da (10 * j)) ≤ g ↔ lop ≤ grN be da g j := by
  have h1 : 1 ≤ stN be da (10 * j) := by unfold stN; omega
  have hjj : 0 < j * j := Nat.mul_pos hj hj
  unfold grN
  generalize stN be da (10 * j) = st at h1
  rw [show 10 * j / 10 = j by omega, Nat.le_div_iff_mul_le hjj, Nat.mul_assoc]
  have e : (min 99999 (lop * (j * j) / st) ≤ g) ↔ lop * (j * j) / st < g + 1 := by omega
  rw [e, Nat.div_lt_iff_lt_mul h1]
  have : 0 < (g + 1) * st := Nat.mul_pos (by omega) h1
  omega
theorem l5_may {a : mw_M} {be da g fl p : Nat} {q : Nat} (hbe : be ≤ 900) (hda : 1 ≤ da ∧ da ≤ 9999) (hg : g ≤ 999) (hfl : fl ≤ 4) (hp : p < fl) (hq : 100 ≤ q ∧ q ≤ 1200) (h0 : a.1 11 0 = nI be) (h1 : a.1 11 1 = nI da) (h8 : a.1 11 8 = nI fl) (h12 : a.1 12 p = nI g) {Q : Int32 → Prop} (hQ : Q (nI (mnS be da g (q / 10)))) : ∀ k i, i + k = q / 10 → L5_mostLopsided_8 (nI p) (nI q) a Q (k + 1) (nI (10 * (i + 1))) (lN (mnS be da g i)) := by
  intro k
  induction k with
  | zero =>
    intro i hi
    have e : i = q / 10 := by omega
    subst e
    unfold L5_mostLopsided_8
    refine ⟨fun _ => by rw [lN_i]; exact hQ, fun z => absurd (nI_lt (by omega) (by omega)) z⟩
  | succ k ih =>
    intro i hi
    have hl := mnS_le be da g i
    have hs := stN_lt hbe hda.2 (p := 10 * (i + 1)) (by omega)
    have hs1 : 1 ≤ stN be da (10 * (i + 1)) := by unfold stN; omega
    unfold L5_mostLopsided_8
    refine ⟨fun z => absurd z (nI_nlt (by omega) (by omega)), fun _ => ⟨fun z => absurd z (nI_nlt (a := 1200) (by omega) (by decide)), fun _ => ?_⟩⟩
    intro w hw
    rw [d10 (by omega), show 10 * (i + 1) / 10 = i + 1 by omega] at hw
    have em : mw_max 1 (nI (i + 1)) = nI (i + 1) := by
      unfold mw_max
      by_cases c : (1 : Int32) < nI (i + 1)
      · rw [if_pos c]
      · rw [if_neg c]
        have : i = 0 := by
          by_cases z : i = 0
          · exact z
          · exact absurd (nI_lt (a := 1) (by omega) (by omega)) c
        subst this
        rfl
    rw [em, nI_l (by omega)] at hw
    subst hw
    unfold P5_gripOf P5_hasFloor
    rw [h8]
    refine ⟨fun z => absurd z (nI_nlt (b := 0) (by omega) (by omega)), fun _ => ⟨fun z => absurd hp (by rw [zle, nI_toInt (by omega), nI_toInt (by omega)] at z; omega), fun _ => ?_⟩⟩
    rw [nI_clamp (by omega), h12]
    refine ⟨vp_in_nI (by omega) (by decide), s5_stiff hbe hda (by omega) h0 h1 ?_⟩
    have jj : (i + 1) * (i + 1) ≤ 120 * 120 := Nat.mul_le_mul (by omega) (by omega)
    have j1 : 0 < (i + 1) * (i + 1) := Nat.mul_pos (by omega) (by omega)
    have gs : (g + 1) * stN be da (10 * (i + 1)) ≤ 1000 * 24399 := Nat.mul_le_mul (by omega) hs
    have gs1 : 1 ≤ (g + 1) * stN be da (10 * (i + 1)) := Nat.mul_pos (by omega) hs1
    rw [lN_mul, show nI g + 1 = nI (g + 1) from nI_add g 1, nI_l (by omega), lN_mul]
    refine ⟨fun z => ?_, ?_⟩
    · rw [show (0 : Int64) = lN 0 from rfl, lN_eq (by omega) (by decide)] at z
      omega
    · intro w hw x hx
      rw [show (1 : Int64) = lN 1 from rfl, lN_sub gs1, pk_lDiv (by omega) j1 (by omega)] at hw
      rw [nI_10] at hx
      have ew : w = lN (mnS be da g (i + 1)) := by
        rw [hw]
        unfold mw_minL
        have gl : grN be da g (i + 1) ≤ 1000 * 24399 := Nat.le_trans (Nat.div_le_self _ _) (by omega)
        show (if lN (grN be da g (i + 1)) < lN (mnS be da g i) then lN (grN be da g (i + 1)) else lN (mnS be da g i)) = lN (min (mnS be da g i) (grN be da g (i + 1)))
        by_cases c : grN be da g (i + 1) < mnS be da g i
        · rw [if_pos ((lN_lt (by omega) (by omega)).2 c), Nat.min_eq_right (by omega)]
        · rw [if_neg (fun z => c ((lN_lt (by omega) (by omega)).1 z)), Nat.min_eq_left (by omega)]
      rw [ew, hx, show 10 * (i + 1) + 10 = 10 * (i + 1 + 1) by omega]
      exact ih (i + 1) (by omega)
theorem l11_mayI {m : mw_M} {be da g p lop q : Nat} (hbe : be ≤ 900) (hda : 1 ≤ da ∧ da ≤ 9999) (hg : g ≤ 999) (hp : p < 4) (hq : 100 ≤ q ∧ q ≤ 1200) (hlop : lop ≤ 9999) (h0 : m.1 6 0 = nI be) (h1 : m.1 6 1 = nI da) (h7 : m.1 7 p = nI g) {Q K1 K2 : Int32 → Prop} (hK1 : (∀ j, 1 ≤ j → j ≤ q / 10 → lop ≤ grN be da g j) → ∀ x, K1 x) (hK2 : ∀ j, 1 ≤ j → j ≤ q / 10 → ¬ lop ≤ grN be da g j → ∀ x, K2 x) : ∀ k i, i + k = q / 10 → (∀ j, 1 ≤ j → j ≤ i → lop ≤ grN be da g j) → L11_may_38 (nI lop) (nI p) (nI q) m Q K1 K2 (k + 1) (nI (10 * (i + 1))) := by
  intro k
  induction k with
  | zero =>
    intro i hi hA
    have e : i = q / 10 := by omega
    subst e
    unfold L11_may_38
    exact ⟨fun _ => hK1 hA _, fun z => absurd (nI_lt (by omega) (by omega)) z⟩
  | succ k ih =>
    intro i hi hA
    unfold L11_may_38
    refine ⟨fun z => absurd z (nI_nlt (by omega) (by omega)), fun _ => s11_shakeOf hbe hda (by omega) h0 h1 ⟨vp_in_nI hp (by decide), ?_⟩⟩
    have sg := sh_gr (be := be) (da := da) (g := g) (lop := lop) (j := i + 1) hda.1 hg (by omega)
    rw [nI_clamp (by omega), h7, shS_N hbe hda (by omega) (by omega)]
    have mi := Nat.min_le_left 99999 (lop * (10 * (i + 1) / 10) * (10 * (i + 1) / 10) / stN be da (10 * (i + 1)))
    generalize min 99999 (lop * (10 * (i + 1) / 10) * (10 * (i + 1) / 10) / stN be da (10 * (i + 1))) = w at sg mi ⊢
    refine ⟨fun z x hx => ?_, fun z => hK2 (i + 1) (by omega) (by omega) (fun y => z (nI_le (sg.2 y) (by omega))) _⟩
    rw [zle, nI_toInt (by omega), nI_toInt (by omega)] at z
    rw [nI_10] at hx
    rw [hx, show 10 * (i + 1) + 10 = 10 * (i + 1 + 1) by omega]
    refine ih (i + 1) (by omega) (fun j a b => ?_)
    by_cases c : j = i + 1
    · subst c; exact sg.1 (by omega)
    · exact hA j a (by omega)
theorem l11_mayO {m : mw_M} {be da g p q : Nat} (hbe : be ≤ 900) (hda : 1 ≤ da ∧ da ≤ 9999) (hg : g ≤ 999) (hp : p < 4) (hq : 100 ≤ q ∧ q ≤ 1200) (h0 : m.1 6 0 = nI be) (h1 : m.1 6 1 = nI da) (h7 : m.1 7 p = nI g) {Q : Int32 → Prop} (hQ : Q (nI (mnS be da g (q / 10)))) {K : Int32 → Prop} (hK : ∀ x, K (nI (x + 1)) = Q (nI x)) : ∀ k lop, lop + k = mnS be da g (q / 10) + 1 → L11_may_27 (nI p) (nI q) m Q K (k + 1) (nI lop) := by
  have hM := mnS_le be da g (q / 10)
  intro k
  induction k with
  | zero =>
    intro lop hl
    unfold L11_may_27
    by_cases c : lop = 10000
    · refine ⟨fun _ => ?_, fun z => absurd (nI_lt (a := 9999) (b := lop) (by omega) (by omega)) z⟩
      have e : mnS be da g (q / 10) = 9999 := by omega
      rw [e] at hQ
      exact hQ
    · refine ⟨fun z => absurd z (nI_nlt (a := 9999) (by omega) (by decide)), fun _ => ?_⟩
      obtain ⟨j, j1, j2, je⟩ := mnS_at be da g (q / 10) (by omega)
      refine ⟨q / 10 + 1, l11_mayI hbe hda hg hp hq (by omega) h0 h1 h7 (fun z => absurd (z j j1 j2) (by omega)) (fun _ _ _ _ x => ?_) (q / 10) 0 (by omega) (fun j a b => by omega)⟩
      have e : lop = mnS be da g (q / 10) + 1 := by omega
      subst e
      rw [hK]
      exact hQ
  | succ k ih =>
    intro lop hl
    unfold L11_may_27
    refine ⟨fun z => absurd z (nI_nlt (a := 9999) (by omega) (by decide)), fun _ => ?_⟩
    refine ⟨q / 10 + 1, l11_mayI hbe hda hg hp hq (by omega) h0 h1 h7 (fun _ x y hy => ?_) (fun j j1 j2 jn => absurd (Nat.le_trans (show lop ≤ mnS be da g (q / 10) by omega) (mnS_an be da g (q / 10) j j1 j2)) jn) (q / 10) 0 (by omega) (fun j a b => by omega)⟩
    rw [hy, show nI lop + 1 = nI (lop + 1) from nI_add lop 1]
    exact ih (lop + 1) (by omega)
theorem ch5_hasFloor {a : mw_M} {fl : Nat} (hfl : fl ≤ 4) (h8 : a.1 11 8 = nI fl) (p : Int32) (QT QF : Prop) : P5_hasFloor p a QT QF = if 0 ≤ p.toInt ∧ p.toInt < fl then QT else QF := by
  unfold P5_hasFloor
  rw [h8, if_ab, if_ab]
  simp only [zlt, zle, Int32.reduceToInt, nI_toInt (show fl < 2 ^ 31 by omega)]
  by_cases h1 : p.toInt < 0
  · rw [if_pos h1, if_neg (by omega)]
  · rw [if_neg h1]
    by_cases h2 : (fl : Int) ≤ p.toInt
    · rw [if_pos h2, if_neg (by omega)]
    · rw [if_neg h2, if_pos (by omega)]
theorem ch11_floorW {m : mw_M} {fl : Nat} (hfl : fl ≤ 4) (h9 : m.1 0 9 = nI fl) (p : Int32) (QT QF : Prop) : P11_within p.toInt64 0 (m.1 0 9 - 1).toInt64 QT QF = if 0 ≤ p.toInt ∧ p.toInt < fl then QT else QF := by
  rw [ch_within, toL, toL, h9, Int32.toInt_sub, nI_toInt (by omega)]
  have e : ((fl : Int) - (1 : Int32).toInt).bmod (2 ^ 32) = fl - 1 := by rw [show (1 : Int32).toInt = 1 from rfl]; exact bmE (by omega) (by omega)
  rw [e]
  exact if_c (by simp only [Int64.reduceToInt]; omega)
/-- may -/
theorem op_may {a m : mw_M} (hK : RMach a m) {p1 p2 : Int32} {Q : Int32 → Int32 → Prop} (hQ : ∀ r, Q r r) : P10_may p1 p2 a (fun r => P11_may p1 p2 m (fun r' => Q r r')) := by
  obtain ⟨be, da, de, no, wa, fl, g, hO, hx, hm, hg⟩ := hK
  obtain ⟨o1, o2, o3, o4, o5, o6, o7⟩ := hO
  unfold P10_may P11_may
  rw [ch5_hasFloor o6 hx.2.2.2.2.2]
  simp only [ch5_isGoal, ch11_isGoal, ch11_floorW o6 hm.2.2.2.2.2]
  by_cases c1 : 0 ≤ p1.toInt ∧ p1.toInt < fl
  · simp only [if_pos c1]
    by_cases c2 : 100 ≤ p2.toInt ∧ p2.toInt ≤ 1200
    · simp only [if_pos c2]
      obtain ⟨p, hp, rfl⟩ := nI_get c1.1
      obtain ⟨q, hq, rfl⟩ := nI_get (x := p2) (by omega)
      rw [nI_toInt (by omega)] at c1 c2
      have hp2 : p < fl := by omega
      exact ⟨q / 10 + 1, l5_may o1.2 o2 (o7 p hp2).2 o6 hp2 (by omega) hx.1 hx.2.1 hx.2.2.2.2.2 (hg p hp2).1 ⟨_, l11_mayO o1.2 o2 (o7 p hp2).2 (by omega) (by omega) hm.1 hm.2.1 (hg p hp2).2.1 (hQ _) (fun x => by rw [nI_sub1 (by omega)]; rfl) (mnS be da (g p) (q / 10) + 1) 0 (by omega)⟩ (q / 10) 0 (by omega)⟩
    · simp only [if_neg c2]
      exact hQ _
  · simp only [if_neg c1]
    exact hQ _
