/-! how a load lies, as both sides work it out -/
def co (j : Nat) : Int32 := mw_sv 0 j
def si (j : Nat) : Int32 := mw_sv 1 j
theorem s2_cosine {j : Nat} (hj : j < 12) {Q : Int32 → Prop} (h : Q (co j)) : P2_cosine (nI j) Q := by
  obtain ⟨f1, f2, f3⟩ := dfac hj (by decide)
  unfold P2_cosine
  rw [f2, f3]
  exact ⟨fun q => absurd q (nI_pos (by omega)), fun _ => ⟨fun q => absurd q (nI_ge (a := j) (b := 12) hj (by decide)), fun _ => ⟨trivial, h⟩⟩⟩
theorem s2_sine {j : Nat} (hj : j < 12) {Q : Int32 → Prop} (h : Q (si j)) : P2_sine (nI j) Q := by
  obtain ⟨f1, f2, f3⟩ := dfac hj (by decide)
  unfold P2_sine
  rw [f2, f3]
  exact ⟨fun q => absurd q (nI_pos (by omega)), fun _ => ⟨fun q => absurd q (nI_ge (a := j) (b := 12) hj (by decide)), fun _ => ⟨trivial, h⟩⟩⟩
theorem s11_cosine {j : Nat} (hj : j < 12) {Q : Int32 → Prop} (h : Q (co j)) : P11_cosine (nI j) Q := by
  unfold P11_cosine
  rcases (show j = 0 ∨ j = 1 ∨ j = 2 ∨ j = 3 ∨ j = 4 ∨ j = 5 ∨ j = 6 ∨ j = 7 ∨ j = 8 ∨ j = 9 ∨ j = 10 ∨ j = 11 by omega) with rfl | rfl | rfl | rfl | rfl | rfl | rfl | rfl | rfl | rfl | rfl | rfl
  all_goals refine ⟨fun q => ?_, fun q x hx => ?_⟩
  all_goals first
    | exact absurd q (by decide)
    | exact absurd (by decide) q
    | skip
  all_goals try subst hx
  all_goals refine ⟨?_, ?_, ?_, ?_, ?_, ?_, ?_⟩
  all_goals first
    | exact fun e => absurd e (by decide)
    | exact fun _ => h
    | exact fun e0 e1 e2 e3 e4 e5 => absurd rfl e0
    | exact fun e0 e1 e2 e3 e4 e5 => absurd rfl e1
    | exact fun e0 e1 e2 e3 e4 e5 => absurd rfl e2
    | exact fun e0 e1 e2 e3 e4 e5 => absurd rfl e3
    | exact fun e0 e1 e2 e3 e4 e5 => absurd rfl e4
    | exact fun e0 e1 e2 e3 e4 e5 => absurd rfl e5
    | exact fun _ _ _ _ _ _ => h
theorem co_si : ∀ j, j < 12 → co ((j + 9) % 12) = si j := by decide
theorem s11_sine {j : Nat} (hj : j < 12) {Q : Int32 → Prop} (h : Q (si j)) : P11_sine (nI j) Q := by
  unfold P11_sine
  rw [show nI j + 9 = nI (j + 9) from nI_add j 9, show mw_rem (nI (j + 9)) 12 = nI ((j + 9) % 12) from zrem (d := 12) (by omega) (by decide) (by decide)]
  exact s11_cosine (by omega) (by rw [co_si j hj]; exact h)
/-- the sum by a table -/
def sm (tr : Nat → Int32) (f : Nat → Nat → Nat) : Nat → Int32
  | 0 => 0
  | n + 1 => sm tr f n + ((nI (f 0 n) + nI (f 1 n)) * tr (f 2 n)) / 10
def sB (tr : Nat → Int32) (c : Nat) : Int32 := (nI (c / 100) * tr (c % 100)) / 10
def aX (tr : Nat → Int32) (n : Nat) (f : Nat → Nat → Nat) (c : Nat) : Int32 := sB tr c + sm tr f n
theorem sm_congr {tr : Nat → Int32} {f g : Nat → Nat → Nat} : ∀ n, (∀ i, i < n → f 0 i = g 0 i ∧ f 1 i = g 1 i ∧ f 2 i = g 2 i) → sm tr f n = sm tr g n
  | 0, _ => rfl
  | n + 1, h => by
    show sm tr f n + _ = sm tr g n + _
    rw [sm_congr n (fun i hi => h i (by omega)), (h n (by omega)).1, (h n (by omega)).2.1, (h n (by omega)).2.2]
def lopS (x y : Int32) : Int32 := (mw_max (mw_abs x) (mw_abs y) + (3 * mw_min (mw_abs x) (mw_abs y)) / 8) / 100
def lopN (n : Nat) (f : Nat → Nat → Nat) (c : Nat) : Int32 := lopS (aX co n f c) (aX si n f c)
section SPX
variable {b n c : Nat} {a : mw_M} {f : Nat → Nat → Nat}
theorem l2_across (hL : LOK n f c) (hX : XL b a n f c) {Q : Int32 → Prop} {s0 : Int32} (hQ : Q (s0 + sm co f n)) : ∀ k i, i + k = n → L2_across_24 b a Q (k + 1) (nI i) (s0 + sm co f i) := by
  have hn := hL.1
  intro k
  induction k with
  | zero =>
    intro i hi
    have e : i = n := by omega
    subst e
    unfold L2_across_24
    rw [hX.1]
    exact ⟨fun _ => hQ, fun q => absurd (nI_le (Nat.le_refl _) (by omega)) q⟩
  | succ k ih =>
    intro i hi
    obtain ⟨x1, x2, x3, x4⟩ := hX.2.2 i (by omega)
    obtain ⟨f1, f2, f3⟩ := dfac (N := 12) (d := i) (by omega) (by decide)
    unfold L2_across_24
    rw [hX.1, f2, f3, x1, x2, x3]
    refine ⟨fun q => absurd q (nI_ge (by omega) (by omega)), fun _ => ⟨trivial, trivial, trivial, s2_cosine (hL.2.2 i (by omega)).2.2.2.1 (fun x hx y hy => ?_)⟩⟩
    rw [Int32.add_assoc] at hx
    rw [nI_1] at hy
    subst hx; subst hy
    exact ih (i + 1) (by omega)
theorem s2_across (hL : LOK n f c) (hX : XL b a n f c) {Q : Int32 → Prop} (hQ : Q (aX co n f c)) : P2_across b a Q := by
  unfold P2_across
  rw [hX.2.1, r100 (by have := hL.2.1.1; omega), d100 (by have := hL.2.1.1; omega)]
  refine s2_cosine hL.2.1.2 (fun x hx => ⟨n + 1, ?_⟩)
  have h := l2_across hL hX (Q := Q) (s0 := sB co c) hQ n 0 (Nat.zero_add _)
  rw [show sB co c + sm co f 0 = x from by rw [hx]; exact Int32.add_zero _] at h
  exact h
theorem l2_along (hL : LOK n f c) (hX : XL b a n f c) {Q : Int32 → Prop} {s0 : Int32} (hQ : Q (s0 + sm si f n)) : ∀ k i, i + k = n → L2_along_24 b a Q (k + 1) (nI i) (s0 + sm si f i) := by
  have hn := hL.1
  intro k
  induction k with
  | zero =>
    intro i hi
    have e : i = n := by omega
    subst e
    unfold L2_along_24
    rw [hX.1]
    exact ⟨fun _ => hQ, fun q => absurd (nI_le (Nat.le_refl _) (by omega)) q⟩
  | succ k ih =>
    intro i hi
    obtain ⟨x1, x2, x3, x4⟩ := hX.2.2 i (by omega)
    obtain ⟨f1, f2, f3⟩ := dfac (N := 12) (d := i) (by omega) (by decide)
    unfold L2_along_24
    rw [hX.1, f2, f3, x1, x2, x3]
    refine ⟨fun q => absurd q (nI_ge (by omega) (by omega)), fun _ => ⟨trivial, trivial, trivial, s2_sine (hL.2.2 i (by omega)).2.2.2.1 (fun x hx y hy => ?_)⟩⟩
    rw [Int32.add_assoc] at hx
    rw [nI_1] at hy
    subst hx; subst hy
    exact ih (i + 1) (by omega)
theorem s2_along (hL : LOK n f c) (hX : XL b a n f c) {Q : Int32 → Prop} (hQ : Q (aX si n f c)) : P2_along b a Q := by
  unfold P2_along
  rw [hX.2.1, r100 (by have := hL.2.1.1; omega), d100 (by have := hL.2.1.1; omega)]
  refine s2_sine hL.2.1.2 (fun x hx => ⟨n + 1, ?_⟩)
  have h := l2_along hL hX (Q := Q) (s0 := sB si c) hQ n 0 (Nat.zero_add _)
  rw [show sB si c + sm si f 0 = x from by rw [hx]; exact Int32.add_zero _] at h
  exact h
theorem s2_lopsidedBy {x y : Int32} {Q : Int32 → Prop} (hQ : Q (lopS x y)) : P2_lopsidedBy x y Q := by
  unfold P2_lopsidedBy
  intro u hu v hv
  subst hu; subst hv
  exact hQ
theorem s2_lopsided (hL : LOK n f c) (hX : XL b a n f c) {Q : Int32 → Prop} (hQ : Q (lopN n f c)) : P2_lopsided b a Q := by
  unfold P2_lopsided
  exact s2_across hL hX (s2_along hL hX (s2_lopsidedBy hQ))
/-- the side: of angles 0 .. k the first of the greatest -/
def sdS (x y : Int32) : Nat → Nat
  | 0 => 0
  | k + 1 => if x * co (k + 1) + y * si (k + 1) ≤ x * co (sdS x y k) + y * si (sdS x y k) then sdS x y k else k + 1
theorem sdS_le (x y : Int32) : ∀ k, sdS x y k ≤ k
  | 0 => Nat.le_refl _
  | k + 1 => by
    have h := sdS_le x y k
    unfold sdS
    split
    · omega
    · omega
theorem l2_side {x y : Int32} {Q : Int32 → Prop} (hQ : Q (nI (sdS x y 11))) : ∀ k i, i + k = 11 → L2_side_15 y x b a Q (k + 1) (nI (i + 1)) (nI (sdS x y i)) := by
  intro k
  induction k with
  | zero =>
    intro i hi
    have e : i = 11 := by omega
    subst e
    unfold L2_side_15
    exact ⟨fun _ => hQ, fun q => absurd (show (12 : Int32) ≤ nI 12 by decide) q⟩
  | succ k ih =>
    intro i hi
    have hs := sdS_le x y i
    unfold L2_side_15
    refine ⟨fun q => absurd q (nI_ge (a := i + 1) (b := 12) (by omega) (by decide)), fun _ => s2_cosine (by omega) (s2_sine (by omega) (s2_cosine (by omega) (s2_sine (by omega) ⟨fun q z hz => ?_, fun q z hz => ?_⟩)))⟩
    · rw [nI_1] at hz
      subst hz
      have h := ih (i + 1) (by omega)
      rw [show sdS x y (i + 1) = sdS x y i from if_pos q] at h
      exact h
    · rw [nI_1] at hz
      subst hz
      have h := ih (i + 1) (by omega)
      rw [show sdS x y (i + 1) = i + 1 from if_neg q] at h
      exact h
def sideN (n : Nat) (f : Nat → Nat → Nat) (c : Nat) : Nat := sdS (aX co n f c) (aX si n f c) 11
theorem s2_side (hL : LOK n f c) (hX : XL b a n f c) {Q : Int32 → Prop} (hQ : Q (nI (sideN n f c))) : P2_side b a Q := by
  unfold P2_side
  exact s2_across hL hX (s2_along hL hX ⟨12, l2_side hQ 11 0 rfl⟩)
def wetN (f : Nat → Nat → Nat) : Nat → Nat
  | 0 => 0
  | n + 1 => wetN f n + f 1 n
theorem l2_wet (hL : LOK n f c) (hX : XL b a n f c) {Q : Int32 → Prop} (hQ : Q (nI (wetN f n))) : ∀ k i, i + k = n → L2_wetOfAll_4 b a Q (k + 1) (nI i) (nI (wetN f i)) := by
  have hn := hL.1
  intro k
  induction k with
  | zero =>
    intro i hi
    have e : i = n := by omega
    subst e
    unfold L2_wetOfAll_4
    rw [hX.1]
    exact ⟨fun _ => hQ, fun q => absurd (nI_le (Nat.le_refl _) (by omega)) q⟩
  | succ k ih =>
    intro i hi
    obtain ⟨x1, x2, x3, x4⟩ := hX.2.2 i (by omega)
    obtain ⟨f1, f2, f3⟩ := dfac (N := 12) (d := i) (by omega) (by decide)
    unfold L2_wetOfAll_4
    rw [hX.1, f2, f3, x2]
    refine ⟨fun q => absurd q (nI_ge (by omega) (by omega)), fun _ => ⟨trivial, fun x hx y hy => ?_⟩⟩
    rw [nI_add] at hx
    rw [nI_1] at hy
    subst hx; subst hy
    exact ih (i + 1) (by omega)
theorem s2_wetOfAll (hL : LOK n f c) (hX : XL b a n f c) {Q : Int32 → Prop} (hQ : Q (nI (wetN f n))) : P2_wetOfAll b a Q := by
  unfold P2_wetOfAll
  exact ⟨n + 1, l2_wet hL hX hQ n 0 (Nat.zero_add _)⟩
theorem wetN_le : ∀ (m : Nat) (f : Nat → Nat → Nat), (∀ i, i < m → f 1 i ≤ 99) → wetN f m ≤ 99 * m
  | 0, _, _ => Nat.le_refl _
  | m + 1, f, h => by
    have h1 := wetN_le m f (fun i hi => h i (by omega))
    have h2 := h m (by omega)
    unfold wetN
    omega
end SPX
section SPM
variable {n c : Nat} {m : mw_M} {f : Nat → Nat → Nat}
theorem l11_sumX (hL : LOK n f c) (hM : ML m n f c) {Q : Int32 → Prop} {s0 : Int32} (hQ : Q (s0 + sm co f n)) : ∀ k i, i + k = n → L11_sumX_30 m Q (k + 1) (nI i) (s0 + sm co f i) := by
  have hn := hL.1
  intro k
  induction k with
  | zero =>
    intro i hi
    have e : i = n := by omega
    subst e
    unfold L11_sumX_30
    rw [hM.1]
    exact ⟨fun _ => hQ, fun q => absurd (nI_le (Nat.le_refl _) (by omega)) q⟩
  | succ k ih =>
    intro i hi
    obtain ⟨y1, y2, y3, y4⟩ := hM.2.2 i (by omega)
    unfold L11_sumX_30
    rw [hM.1, z12, z24, nI_clamp (by omega), nI_clamp (by omega), nI_clamp (by omega), y1, y2, y3]
    refine ⟨fun q => absurd q (nI_ge (by omega) (by omega)), fun _ => ⟨vp_in_nI (by omega) (by decide), vp_in_nI (by omega) (by decide), vp_in_nI (by omega) (by decide), s11_cosine (hL.2.2 i (by omega)).2.2.2.1 (fun x hx y hy => ?_)⟩⟩
    rw [Int32.add_assoc] at hx
    rw [nI_1] at hy
    subst hx; subst hy
    exact ih (i + 1) (by omega)
theorem s11_sumX (hL : LOK n f c) (hM : ML m n f c) {Q : Int32 → Prop} (hQ : Q (aX co n f c)) : P11_sumX m Q := by
  unfold P11_sumX
  rw [hM.2.1, r100 (by have := hL.2.1.1; omega), d100 (by have := hL.2.1.1; omega)]
  refine s11_cosine hL.2.1.2 (fun x hx => ⟨n + 1, ?_⟩)
  have h := l11_sumX hL hM (Q := Q) (s0 := sB co c) hQ n 0 (Nat.zero_add _)
  rw [show sB co c + sm co f 0 = x from by rw [hx]; exact Int32.add_zero _] at h
  exact h
theorem l11_sumY (hL : LOK n f c) (hM : ML m n f c) {Q : Int32 → Prop} {s0 : Int32} (hQ : Q (s0 + sm si f n)) : ∀ k i, i + k = n → L11_sumY_30 m Q (k + 1) (nI i) (s0 + sm si f i) := by
  have hn := hL.1
  intro k
  induction k with
  | zero =>
    intro i hi
    have e : i = n := by omega
    subst e
    unfold L11_sumY_30
    rw [hM.1]
    exact ⟨fun _ => hQ, fun q => absurd (nI_le (Nat.le_refl _) (by omega)) q⟩
  | succ k ih =>
    intro i hi
    obtain ⟨y1, y2, y3, y4⟩ := hM.2.2 i (by omega)
    unfold L11_sumY_30
    rw [hM.1, z12, z24, nI_clamp (by omega), nI_clamp (by omega), nI_clamp (by omega), y1, y2, y3]
    refine ⟨fun q => absurd q (nI_ge (by omega) (by omega)), fun _ => ⟨vp_in_nI (by omega) (by decide), vp_in_nI (by omega) (by decide), vp_in_nI (by omega) (by decide), s11_sine (hL.2.2 i (by omega)).2.2.2.1 (fun x hx y hy => ?_)⟩⟩
    rw [Int32.add_assoc] at hx
    rw [nI_1] at hy
    subst hx; subst hy
    exact ih (i + 1) (by omega)
theorem s11_sumY (hL : LOK n f c) (hM : ML m n f c) {Q : Int32 → Prop} (hQ : Q (aX si n f c)) : P11_sumY m Q := by
  unfold P11_sumY
  rw [hM.2.1, r100 (by have := hL.2.1.1; omega), d100 (by have := hL.2.1.1; omega)]
  refine s11_sine hL.2.1.2 (fun x hx => ⟨n + 1, ?_⟩)
  have h := l11_sumY hL hM (Q := Q) (s0 := sB si c) hQ n 0 (Nat.zero_add _)
  rw [show sB si c + sm si f 0 = x from by rw [hx]; exact Int32.add_zero _] at h
  exact h
theorem s11_size {x : Int32} {Q : Int32 → Prop} (hQ : Q (mw_abs x)) : P11_size x Q := by
  unfold P11_size
  unfold mw_abs at hQ
  refine ⟨fun q => by rw [if_pos q] at hQ; exact hQ, fun q => by rw [if_neg q, Int32.zero_sub] at hQ; exact hQ⟩
theorem s11_lopsided (hL : LOK n f c) (hM : ML m n f c) {Q : Int32 → Prop} (hQ : Q (lopN n f c)) : P11_lopsided m Q := by
  unfold P11_lopsided
  refine s11_sumX hL hM (s11_size (s11_sumY hL hM (s11_size ?_)))
  unfold lopN lopS at hQ
  generalize mw_abs (aX co n f c) = x at hQ ⊢
  generalize mw_abs (aX si n f c) = y at hQ ⊢
  have e1 : x ≤ y → mw_max x y = y ∧ mw_min x y = x := by
    intro h
    unfold mw_max mw_min
    rw [zle] at h
    refine ⟨?_, if_neg (by rw [zlt]; omega)⟩
    by_cases q : x < y
    · rw [if_pos q]
    · rw [if_neg q]; rw [zlt] at q; rw [zeq]; omega
  have e2 : ¬ x ≤ y → mw_max x y = x ∧ mw_min x y = y := by
    intro h
    unfold mw_max mw_min
    rw [zle] at h
    exact ⟨if_neg (by rw [zlt]; omega), if_pos (by rw [zlt]; omega)⟩
  refine ⟨fun q => ⟨fun _ => ?_, fun q2 => absurd q q2⟩, fun q => ⟨fun q2 => absurd q2 q, fun _ => ?_⟩⟩
  · rw [(e1 q).1, (e1 q).2] at hQ; exact hQ
  · rw [(e2 q).1, (e2 q).2] at hQ; exact hQ
theorem l11_side {x y : Int32} {Q : Int32 → Prop} (hQ : Q (nI (sdS x y 11))) : ∀ k i, i + k = 11 → L11_side_15 y x m Q (k + 1) (nI (i + 1)) (nI (sdS x y i)) := by
  intro k
  induction k with
  | zero =>
    intro i hi
    have e : i = 11 := by omega
    subst e
    unfold L11_side_15
    exact ⟨fun _ => hQ, fun q => absurd (show (12 : Int32) ≤ nI 12 by decide) q⟩
  | succ k ih =>
    intro i hi
    have hs := sdS_le x y i
    unfold L11_side_15
    refine ⟨fun q => absurd q (nI_ge (a := i + 1) (b := 12) (by omega) (by decide)), fun _ => s11_cosine (by omega) (s11_sine (by omega) (s11_cosine (by omega) (s11_sine (by omega) ⟨fun q z hz => ?_, fun q z hz => ?_⟩)))⟩
    · rw [nI_1] at hz
      subst hz
      have h := ih (i + 1) (by omega)
      rw [show sdS x y (i + 1) = sdS x y i from if_pos q] at h
      exact h
    · rw [nI_1] at hz
      subst hz
      have h := ih (i + 1) (by omega)
      rw [show sdS x y (i + 1) = i + 1 from if_neg q] at h
      exact h
theorem s11_side (hL : LOK n f c) (hM : ML m n f c) {Q : Int32 → Prop} (hQ : Q (nI (sideN n f c))) : P11_side m Q := by
  unfold P11_side
  exact s11_sumX hL hM (s11_sumY hL hM ⟨12, l11_side hQ 11 0 rfl⟩)
theorem l11_wet (hL : LOK n f c) (hM : ML m n f c) {Q : Int32 → Prop} (hQ : Q (nI (wetN f n))) : ∀ k i, i + k = n → L11_allWet_4 m Q (k + 1) (nI i) (nI (wetN f i)) := by
  have hn := hL.1
  intro k
  induction k with
  | zero =>
    intro i hi
    have e : i = n := by omega
    subst e
    unfold L11_allWet_4
    rw [hM.1]
    exact ⟨fun _ => hQ, fun q => absurd (nI_le (Nat.le_refl _) (by omega)) q⟩
  | succ k ih =>
    intro i hi
    obtain ⟨y1, y2, y3, y4⟩ := hM.2.2 i (by omega)
    unfold L11_allWet_4
    rw [hM.1, z12, nI_clamp (by omega), y2]
    refine ⟨fun q => absurd q (nI_ge (by omega) (by omega)), fun _ => ⟨vp_in_nI (by omega) (by decide), fun x hx y hy => ?_⟩⟩
    rw [nI_add] at hx
    rw [nI_1] at hy
    subst hx; subst hy
    exact ih (i + 1) (by omega)
theorem s11_allWet (hL : LOK n f c) (hM : ML m n f c) {Q : Int32 → Prop} (hQ : Q (nI (wetN f n))) : P11_allWet m Q := by
  unfold P11_allWet
  exact ⟨n + 1, l11_wet hL hM hQ n 0 (Nat.zero_add _)⟩
end SPM
/-- load -/
theorem op_load {a m : mw_M} (hR : RLoad a m) {p1 : Int32} {Q : Int32 → Int32 → Prop} (hQ : ∀ r, Q r r) : P10_load p1 a (fun r => P11_load p1 m (fun r' => Q r r')) := by
  obtain ⟨n, f, c, hL, hX, hM, hC⟩ := hR
  unfold P10_load P11_load
  refine ⟨fun h => ?_, fun h => ?_, fun h => ?_, fun h => ?_, fun h => ?_, fun h0 h1 h2 h3 h4 => ?_⟩
  · subst h
    exact s2_lopsided hL hX ⟨fun _ => s11_lopsided hL hM (hQ _), fun q => absurd q (by decide), fun q => absurd q (by decide), fun q => absurd q (by decide), fun q => absurd q (by decide), fun q => absurd rfl q⟩
  · subst h
    exact s2_across hL hX ⟨fun q => absurd q (by decide), fun _ => s11_sumX hL hM (hQ _), fun q => absurd q (by decide), fun q => absurd q (by decide), fun q => absurd q (by decide), fun _ q => absurd rfl q⟩
  · subst h
    exact s2_along hL hX ⟨fun q => absurd q (by decide), fun q => absurd q (by decide), fun _ => s11_sumY hL hM (hQ _), fun q => absurd q (by decide), fun q => absurd q (by decide), fun _ _ q => absurd rfl q⟩
  · subst h
    exact s2_side hL hX ⟨fun q => absurd q (by decide), fun q => absurd q (by decide), fun q => absurd q (by decide), fun _ => s11_side hL hM (hQ _), fun q => absurd q (by decide), fun _ _ _ q => absurd rfl q⟩
  · subst h
    exact s2_wetOfAll hL hX ⟨fun q => absurd q (by decide), fun q => absurd q (by decide), fun q => absurd q (by decide), fun q => absurd q (by decide), fun _ => s11_allWet hL hM (hQ _), fun _ _ _ _ q => absurd rfl q⟩
  · exact ⟨fun q => absurd q h0, fun q => absurd q h1, fun q => absurd q h2, fun q => absurd q h3, fun q => absurd q h4, fun _ _ _ _ _ => hQ _⟩
