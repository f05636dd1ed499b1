/-! the machine: set, floor, shake, fear, may -/
def sqd (u b : Nat) : Nat := if b * b ≤ u * u then u * u - b * b else b * b - u * u
def stN (be da p : Nat) : Nat := sqd (p / 10) (be / 10) + da
theorem sq_le {u k : Nat} (h : u ≤ k) : u * u ≤ k * k := Nat.mul_le_mul h h
theorem sqd_le {u b : Nat} (hu : u ≤ 120) (hb : b ≤ 90) : sqd u b ≤ 14400 := by
  have h1 := sq_le hu
  have h2 := sq_le hb
  unfold sqd
  split <;> omega
theorem toI_lN {n : Nat} (h : n < 2 ^ 63) : (lN n).toInt = (n : Int) := pk_lT h
theorem lN_of {x : Int64} {n : Nat} (h : x.toInt = n) : x = lN n := by
  have h1 := x.toInt_lt
  rw [Leq, toI_lN (by omega), h]
theorem s5_stiff {a : mw_M} {be da p : Nat} (hbe : be ≤ 900) (hda : 1 ≤ da ∧ da ≤ 9999) (hp : p ≤ 1200) (h0 : a.1 11 0 = nI be) (h1 : a.1 11 1 = nI da) {Q : Int64 → Prop} (hQ : Q (lN (stN be da p))) : P5_stiffness (nI p) a Q := by
  have q1 := sq_le (show p / 10 ≤ 120 by omega)
  have q2 := sq_le (show be / 10 ≤ 90 by omega)
  unfold P5_stiffness
  intro w1 e1 w2 e2
  rw [d10 (by omega), nI_l (by omega)] at e1
  rw [h0, d10 (by omega), nI_l (by omega)] at e2
  subst e1; subst e2
  rw [h1, nI_l (show da < 2 ^ 31 by omega)]
  have e : mw_maxL 1 (mw_absL (lN (p / 10) * lN (p / 10) - lN (be / 10) * lN (be / 10)) + lN da) = lN (stN be da p) := by
    rw [lN_mul, lN_mul]
    have d : (lN (p / 10 * (p / 10)) - lN (be / 10 * (be / 10))).toInt = ((p / 10 * (p / 10) : Nat) : Int) - ((be / 10 * (be / 10) : Nat) : Int) := by
      rw [Int64.toInt_sub, toI_lN (by omega), toI_lN (by omega)]; exact bmL (by omega) (by omega)
    have ab : (mw_absL (lN (p / 10 * (p / 10)) - lN (be / 10 * (be / 10)))).toInt = (sqd (p / 10) (be / 10) : Nat) := by
      unfold mw_absL sqd
      by_cases c : (0 : Int64) < lN (p / 10 * (p / 10)) - lN (be / 10 * (be / 10))
      · rw [if_pos c, d]
        rw [Llt, d] at c
        simp only [Int64.reduceToInt] at c
        rw [if_pos (by omega)]; omega
      · rw [if_neg c, Int64.toInt_neg, d, bmL (by omega) (by omega)]
        rw [Llt, d] at c
        simp only [Int64.reduceToInt] at c
        split <;> omega
    have hs := sqd_le (show p / 10 ≤ 120 by omega) (show be / 10 ≤ 90 by omega)
    refine lN_of ?_
    have su : (mw_absL (lN (p / 10 * (p / 10)) - lN (be / 10 * (be / 10))) + lN da).toInt = (stN be da p : Nat) := by
      rw [Int64.toInt_add, ab, toI_lN (by omega), bmL (by omega) (by omega)]
      unfold stN; omega
    unfold mw_maxL
    have hst : 1 ≤ stN be da p := by unfold stN; omega
    by_cases c : mw_absL (lN (p / 10 * (p / 10)) - lN (be / 10 * (be / 10))) + lN da < 1
    · rw [Llt, su] at c
      simp only [Int64.reduceToInt] at c
      omega
    · rw [if_neg c, su]
  rw [e]
  exact hQ
def shS (be da : Nat) (lop : Int32) (p : Nat) : Int32 := Int64.toInt32 (mw_minL 99999 ((lop.toInt64 * lN (p / 10) * lN (p / 10)) / lN (stN be da p)))
theorem stN_0 {be da p : Nat} (hda : 1 ≤ da) (h : stN be da p < 2 ^ 31) : ¬ lN (stN be da p) = 0 := by
  intro q
  rw [show (0 : Int64) = lN 0 from rfl, lN_eq h (by decide)] at q
  unfold stN at q
  omega
theorem stN_lt {be da p : Nat} (hbe : be ≤ 900) (hda : da ≤ 9999) (hp : p ≤ 1200) : stN be da p ≤ 24399 := by
  have := sqd_le (show p / 10 ≤ 120 by omega) (show be / 10 ≤ 90 by omega)
  unfold stN
  omega
theorem s5_shakeOf {a : mw_M} {be da p : Nat} (hbe : be ≤ 900) (hda : 1 ≤ da ∧ da ≤ 9999) (hp : p ≤ 1200) (h0 : a.1 11 0 = nI be) (h1 : a.1 11 1 = nI da) {lop : Int32} {Q : Int32 → Prop} (hQ : Q (shS be da lop p)) : P5_shakeOf lop (nI p) a Q := by
  unfold P5_shakeOf
  intro w hw
  rw [d10 (by omega), nI_l (by omega)] at hw
  subst hw
  have hs := stN_lt hbe hda.2 hp
  exact s5_stiff hbe hda hp h0 h1 ⟨stN_0 hda.1 (by omega), hQ⟩
theorem s11_shakeOf {m : mw_M} {be da p : Nat} (hbe : be ≤ 900) (hda : 1 ≤ da ∧ da ≤ 9999) (hp : p ≤ 1200) (h0 : m.1 6 0 = nI be) (h1 : m.1 6 1 = nI da) {lop : Int32} {Q : Int32 → Prop} (hQ : Q (shS be da lop p)) : P11_shakeOf lop (nI p) m Q := by
  have q1 := sq_le (show p / 10 ≤ 120 by omega)
  have q2 := sq_le (show be / 10 ≤ 90 by omega)
  have hs := stN_lt hbe hda.2 hp
  unfold P11_shakeOf
  intro x1 e1 x2 e2
  rw [d10 (by omega)] at e1
  rw [h0, d10 (by omega)] at e2
  subst e1; subst e2
  refine s11_size ?_
  have ab : mw_abs (nI (p / 10) * nI (p / 10) - nI (be / 10) * nI (be / 10)) = nI (sqd (p / 10) (be / 10)) := by
    rw [pk_mul, pk_mul]
    have d : (nI (p / 10 * (p / 10)) - nI (be / 10 * (be / 10))).toInt = ((p / 10 * (p / 10) : Nat) : Int) - ((be / 10 * (be / 10) : Nat) : Int) := by
      rw [Int32.toInt_sub, nI_toInt (by omega), nI_toInt (by omega)]; exact bmE (by omega) (by omega)
    refine nI_of_toInt ?_
    unfold mw_abs sqd
    by_cases c : (0 : Int32) ≤ nI (p / 10 * (p / 10)) - nI (be / 10 * (be / 10))
    · rw [if_pos c, d]
      rw [zle, d] at c
      simp only [Int32.reduceToInt] at c
      rw [if_pos (by omega)]; omega
    · rw [if_neg c, Int32.zero_sub, Int32.toInt_neg, d, bmE (by omega) (by omega)]
      rw [zle, d] at c
      simp only [Int32.reduceToInt] at c
      rw [if_neg (by omega)]; omega
  rw [ab, h1, nI_add, show sqd (p / 10) (be / 10) + da = stN be da p from rfl, nI_l (by omega), nI_l (by omega)]
  refine ⟨stN_0 hda.1 (by omega), fun w hw => ?_⟩
  subst hw
  rw [lgc_le0]
  unfold shS mw_minL at hQ
  generalize (lop.toInt64 * lN (p / 10) * lN (p / 10)) / lN (stN be da p) = w at hQ ⊢
  refine ⟨fun c => ?_, fun c => ?_⟩
  · by_cases c2 : w < 99999
    · rw [if_pos c2] at hQ; exact hQ
    · rw [if_neg c2] at hQ
      have e : w = 99999 := by rw [Leq]; rw [Lle] at c; rw [Llt] at c2; omega
      rw [e]; exact hQ
  · rw [Lle] at c
    rw [if_neg (by rw [Llt]; omega)] at hQ
    exact hQ
theorem ch5_isPace (p : Int32) (QT QF : Prop) : P5_isPace p QT QF = if 0 ≤ p.toInt ∧ p.toInt ≤ 1200 then QT else QF := by
  unfold P5_isPace
  rw [if_ab, if_ab]
  simp only [zlt, Int32.reduceToInt]
  by_cases h1 : p.toInt < 0
  · rw [if_pos h1, if_neg (by omega)]
  · rw [if_neg h1]
    by_cases h2 : 1200 < p.toInt
    · rw [if_pos h2, if_neg (by omega)]
    · rw [if_neg h2, if_pos (by omega)]
theorem ch5_isGoal (p : Int32) (QT QF : Prop) : P5_isGoal p QT QF = if 100 ≤ p.toInt ∧ p.toInt ≤ 1200 then QT else QF := by
  unfold P5_isGoal
  rw [if_ab, if_ab]
  simp only [zlt, Int32.reduceToInt]
  by_cases h1 : p.toInt < 100
  · rw [if_pos h1, if_neg (by omega)]
  · rw [if_neg h1]
    by_cases h2 : 1200 < p.toInt
    · rw [if_pos h2, if_neg (by omega)]
    · rw [if_neg h2, if_pos (by omega)]
theorem ch11_isGoal (p : Int32) (QT QF : Prop) : P11_isGoal p QT QF = if 100 ≤ p.toInt ∧ p.toInt ≤ 1200 then QT else QF := by
  unfold P11_isGoal
  rw [ch_within, toL]
  rfl
/-- shake -/
theorem op_shake {a m : mw_M} (hR : RLoad a m) (hK : RMach a m) {p1 : Int32} {Q : Int32 → Int32 → Prop} (hQ : ∀ r, Q r r) : P10_shake p1 a (fun r => P11_shake p1 m (fun r' => Q r r')) := by
  obtain ⟨n, f, c, hL, hX, hM, hC⟩ := hR
  obtain ⟨be, da, de, no, wa, fl, g, hO, hx, hm, -⟩ := hK
  unfold P10_shake P11_shake
  simp only [ch5_isPace, ch_within, toL, Int64.reduceToInt]
  by_cases c1 : 0 ≤ p1.toInt ∧ p1.toInt ≤ 1200
  · simp only [if_pos c1]
    obtain ⟨p, hp, rfl⟩ := nI_get c1.1
    rw [nI_toInt (by omega)] at c1
    exact s2_lopsided hL hX (s5_shakeOf hO.1.2 hO.2.1 (by omega) hx.1 hx.2.1 (s11_lopsided hL hM (s11_shakeOf hO.1.2 hO.2.1 (by omega) hm.1 hm.2.1 (hQ _))))
  · simp only [if_neg c1]
    exact hQ _
def feS (sh : Nat → Int32) : Nat → Nat
  | 0 => 10
  | k + 1 => if sh (10 * (k + 2)) ≤ sh (feS sh k) then feS sh k else 10 * (k + 2)
theorem feS_le (sh : Nat → Int32) : ∀ k, feS sh k ≤ 10 * (k + 1)
  | 0 => Nat.le_refl _
  | k + 1 => by
    have h := feS_le sh k
    unfold feS
    split <;> omega
theorem nI_10 (n : Nat) : nI n + 10 = nI (n + 10) := nI_add n 10
theorem l8_fear {a : mw_M} {be da : Nat} (hbe : be ≤ 900) (hda : 1 ≤ da ∧ da ≤ 9999) (h0 : a.1 11 0 = nI be) (h1 : a.1 11 1 = nI da) {lop : Int32} {Q : Int32 → Prop} (hQ : Q (nI (feS (shS be da lop) 119))) : ∀ k i, i + k = 119 → L8_paceToFear_14 lop a Q (k + 1) (nI (10 * (i + 2))) (nI (feS (shS be da lop) i)) := by
  intro k
  induction k with
  | zero =>
    intro i hi
    have e : i = 119 := by omega
    subst e
    unfold L8_paceToFear_14
    exact ⟨fun _ => hQ, fun q => absurd (show (1200 : Int32) < nI 1210 by decide) q⟩
  | succ k ih =>
    intro i hi
    have hl := feS_le (shS be da lop) i
    unfold L8_paceToFear_14
    refine ⟨fun q => absurd q (nI_nlt (a := 1200) (by omega) (by decide)), fun _ => s5_shakeOf hbe hda (by omega) h0 h1 (s5_shakeOf hbe hda (by omega) h0 h1 ⟨fun q x hx => ?_, fun q x hx => ?_⟩)⟩
    · rw [nI_10] at hx
      subst hx
      have h := ih (i + 1) (by omega)
      rw [show feS (shS be da lop) (i + 1) = feS (shS be da lop) i from if_pos q, show 10 * (i + 1 + 2) = 10 * (i + 2) + 10 by omega] at h
      exact h
    · rw [nI_10] at hx
      subst hx
      have h := ih (i + 1) (by omega)
      rw [show feS (shS be da lop) (i + 1) = 10 * (i + 2) from if_neg q, show 10 * (i + 1 + 2) = 10 * (i + 2) + 10 by omega] at h
      exact h
theorem l11_fear {m : mw_M} {be da : Nat} (hbe : be ≤ 900) (hda : 1 ≤ da ∧ da ≤ 9999) (h0 : m.1 6 0 = nI be) (h1 : m.1 6 1 = nI da) {lop p1 : Int32} {Q : Int32 → Prop} {K : Int32 → Int32 → Prop} (hK : ∀ x, K x (nI (feS (shS be da lop) 119))) : ∀ k i, i + k = 119 → L11_fear_24 lop p1 m Q K (k + 1) (nI (10 * (i + 2))) (nI (feS (shS be da lop) i)) := by
  intro k
  induction k with
  | zero =>
    intro i hi
    have e : i = 119 := by omega
    subst e
    unfold L11_fear_24
    exact ⟨fun _ => hK _, fun q => absurd (show (1200 : Int32) < nI 1210 by decide) q⟩
  | succ k ih =>
    intro i hi
    have hl := feS_le (shS be da lop) i
    unfold L11_fear_24
    refine ⟨fun q => absurd q (nI_nlt (a := 1200) (by omega) (by decide)), fun _ => s11_shakeOf hbe hda (by omega) h0 h1 (s11_shakeOf hbe hda (by omega) h0 h1 ⟨fun q x hx => ?_, fun q x hx => ?_⟩)⟩
    · rw [nI_10] at hx
      subst hx
      have h := ih (i + 1) (by omega)
      rw [show feS (shS be da lop) (i + 1) = feS (shS be da lop) i from if_pos q, show 10 * (i + 1 + 2) = 10 * (i + 2) + 10 by omega] at h
      exact h
    · rw [nI_10] at hx
      subst hx
      have h := ih (i + 1) (by omega)
      rw [show feS (shS be da lop) (i + 1) = 10 * (i + 2) from if_neg q, show 10 * (i + 1 + 2) = 10 * (i + 2) + 10 by omega] at h
      exact h
theorem w01 (p : Int32) : (0 ≤ p.toInt ∧ p.toInt ≤ 1) → p = 0 ∨ p = 1 := by
  intro h
  by_cases q : p.toInt = 0
  · exact Or.inl (by rw [zeq]; exact q)
  · exact Or.inr (by rw [zeq]; show p.toInt = 1; omega)
/-- fear -/
theorem op_fear {a m : mw_M} (hR : RLoad a m) (hK : RMach a m) {p1 : Int32} {Q : Int32 → Int32 → Prop} (hQ : ∀ r, Q r r) : P10_fear p1 a (fun r => P11_fear p1 m (fun r' => Q r r')) := by
  obtain ⟨n, f, c, hL, hX, hM, hC⟩ := hR
  obtain ⟨be, da, de, no, wa, fl, g, hO, hx, hm, -⟩ := hK
  unfold P10_fear P11_fear P8_paceToFear
  simp only [ch_within, toL, Int64.reduceToInt, if_ab]
  by_cases c1 : 0 ≤ p1.toInt ∧ p1.toInt ≤ 1
  · have hle := feS_le (shS be da (lopN n f c)) 119
    rw [if_neg (by rw [zlt]; simp only [Int32.reduceToInt]; omega), if_pos (by rw [zle]; simp only [Int32.reduceToInt]; omega)]
    simp only [if_pos c1]
    refine s2_lopsided hL hX ⟨120, l8_fear (lop := lopN n f c) hO.1.2 hO.2.1 hx.1 hx.2.1 ?_ 119 0 rfl⟩
    rcases w01 p1 c1 with rfl | rfl
    · simp only [if_true]
      refine s11_lopsided hL hM ⟨120, l11_fear (lop := lopN n f c) hO.1.2 hO.2.1 hm.1 hm.2.1 (fun x => hQ _) 119 0 rfl⟩
    · simp only [if_neg (show ¬ (1 : Int32) = 0 by decide)]
      refine s2_lopsided hL hX (s5_shakeOf hO.1.2 hO.2.1 (by omega) hx.1 hx.2.1 (s11_lopsided hL hM ⟨120, l11_fear (lop := lopN n f c) hO.1.2 hO.2.1 hm.1 hm.2.1 (fun x => s11_shakeOf hO.1.2 hO.2.1 (by omega) hm.1 hm.2.1 (hQ _)) 119 0 rfl⟩))
  · simp only [if_neg c1]
    by_cases q1 : p1 < 0
    · rw [if_pos q1]; exact hQ _
    · rw [if_neg q1, if_neg (fun q2 => c1 (by rw [zlt] at q1; rw [zle] at q2; simp only [Int32.reduceToInt] at q1 q2; omega))]; exact hQ _
