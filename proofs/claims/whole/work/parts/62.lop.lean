/-! how lopsided at most -/
theorem co_bd : ∀ j, j < 12 → -1000 ≤ (co j).toInt ∧ (co j).toInt ≤ 1000 := by decide
theorem si_bd : ∀ j, j < 12 → -1000 ≤ (si j).toInt ∧ (si j).toInt ≤ 1000 := by decide
theorem div10_bd {x : Int32} {k : Int} (hk : 0 ≤ k) (hk2 : 10 * k < 2147483648) (h : -(10 * k) ≤ x.toInt ∧ x.toInt ≤ 10 * k) : -k ≤ (x / 10).toInt ∧ (x / 10).toInt ≤ k := by
  have e : (x / 10).toInt = (x.toInt.tdiv 10).bmod (2 ^ 32) := Int32.toInt_div x 10
  have t : -k ≤ x.toInt.tdiv 10 ∧ x.toInt.tdiv 10 ≤ k := by
    by_cases c : 0 ≤ x.toInt
    · rw [Int.tdiv_eq_ediv_of_nonneg c]; omega
    · have e2 : x.toInt.tdiv 10 = -((-x.toInt).tdiv 10) := by rw [Int.neg_tdiv, Int.neg_neg]
      rw [e2, Int.tdiv_eq_ediv_of_nonneg (by omega)]; omega
  rw [e, bmE (by omega) (by omega)]
  exact t
theorem mul_bd {s : Nat} {y : Int32} {k : Nat} (hs : s ≤ k) (hk : 1000 * k < 2147483648) (h : -1000 ≤ y.toInt ∧ y.toInt ≤ 1000) : -(1000 * (k : Int)) ≤ (nI s * y).toInt ∧ (nI s * y).toInt ≤ 1000 * k := by
  have e : (nI s * y).toInt = ((nI s).toInt * y.toInt).bmod (2 ^ 32) := Int32.toInt_mul (nI s) y
  have h1 : (s : Int) * y.toInt ≤ s * 1000 := Int.mul_le_mul_of_nonneg_left h.2 (by omega)
  have h2 : (s : Int) * (-1000) ≤ s * y.toInt := Int.mul_le_mul_of_nonneg_left h.1 (by omega)
  rw [e, nI_toInt (by omega)]
  generalize (s : Int) * y.toInt = w at h1 h2 ⊢
  rw [bmE (by omega) (by omega)]
  omega
theorem sm_bd {tr : Nat → Int32} (ht : ∀ j, j < 12 → -1000 ≤ (tr j).toInt ∧ (tr j).toInt ≤ 1000) {f : Nat → Nat → Nat} : ∀ n : Nat, n ≤ 12 → (∀ i, i < n → f 0 i ≤ 50 ∧ f 1 i ≤ 99 ∧ f 2 i < 12) → -(14900 * (n : Int)) ≤ (sm tr f n).toInt ∧ (sm tr f n).toInt ≤ 14900 * n
  | 0, _, _ => by
    show -(14900 * ((0 : Nat) : Int)) ≤ (0 : Int32).toInt ∧ (0 : Int32).toInt ≤ 14900 * ((0 : Nat) : Int)
    simp
  | n + 1, hn, h => by
    have ih := sm_bd ht n (by omega) (fun i hi => h i (by omega))
    obtain ⟨h0, h1, h2⟩ := h n (by omega)
    show -(14900 * ((n + 1 : Nat) : Int)) ≤ (sm tr f n + ((nI (f 0 n) + nI (f 1 n)) * tr (f 2 n)) / 10).toInt ∧ (sm tr f n + ((nI (f 0 n) + nI (f 1 n)) * tr (f 2 n)) / 10).toInt ≤ 14900 * ((n + 1 : Nat) : Int)
    rw [nI_add]
    have m := mul_bd (s := f 0 n + f 1 n) (k := 149) (by omega) (by decide) (ht _ h2)
    have d := div10_bd (x := nI (f 0 n + f 1 n) * tr (f 2 n)) (k := 14900) (by decide) (by decide) (by omega)
    rw [Int32.toInt_add, bmE (by omega) (by omega)]
    omega
theorem aX_bd {tr : Nat → Int32} (ht : ∀ j, j < 12 → -1000 ≤ (tr j).toInt ∧ (tr j).toInt ≤ 1000) {n c : Nat} {f : Nat → Nat → Nat} (hL : LOK n f c) : -188700 ≤ (aX tr n f c).toInt ∧ (aX tr n f c).toInt ≤ 188700 := by
  have h1 := hL.1
  have s := sm_bd ht n h1 (fun i hi => ⟨(hL.2.2 i hi).2.1, (hL.2.2 i hi).2.2.1, (hL.2.2 i hi).2.2.2.1⟩)
  have hc := hL.2.1
  have m := mul_bd (s := c / 100) (y := tr (c % 100)) (k := 99) (by omega) (by decide) (ht _ hc.2)
  have d := div10_bd (x := nI (c / 100) * tr (c % 100)) (k := 9900) (by decide) (by decide) (by omega)
  unfold aX sB
  rw [Int32.toInt_add, bmE (by omega) (by omega)]
  omega
theorem abs_N {x : Int32} {k : Nat} (hk : k < 2147483648) (h : -(k : Int) ≤ x.toInt ∧ x.toInt ≤ k) : ∃ n : Nat, n ≤ k ∧ mw_abs x = nI n := by
  unfold mw_abs
  by_cases c : 0 ≤ x
  · rw [if_pos c]
    rw [zle] at c
    simp only [Int32.reduceToInt] at c
    exact ⟨x.toInt.toNat, by omega, nI_of_toInt (by omega)⟩
  · rw [if_neg c]
    rw [zle] at c
    simp only [Int32.reduceToInt] at c
    refine ⟨(-x.toInt).toNat, by omega, nI_of_toInt ?_⟩
    rw [Int32.toInt_sub, show (0 : Int32).toInt = 0 from rfl, bmE (by omega) (by omega)]
    omega
theorem lopS_N {x y : Int32} (hx : -188700 ≤ x.toInt ∧ x.toInt ≤ 188700) (hy : -188700 ≤ y.toInt ∧ y.toInt ≤ 188700) : ∃ L, L ≤ 9999 ∧ lopS x y = nI L := by
  obtain ⟨p, p1, p2⟩ := abs_N (x := x) (k := 188700) (by decide) (by omega)
  obtain ⟨q, q1, q2⟩ := abs_N (x := y) (k := 188700) (by decide) (by omega)
  have mx : mw_max (nI p) (nI q) = nI (max p q) := by
    unfold mw_max
    by_cases c : p < q
    · rw [if_pos (nI_lt c (by omega)), Nat.max_eq_right (by omega)]
    · rw [if_neg (nI_nlt (by omega) (by omega)), Nat.max_eq_left (by omega)]
  have mn : mw_min (nI p) (nI q) = nI (min p q) := by
    unfold mw_min
    by_cases c : q < p
    · rw [if_pos (nI_lt c (by omega)), Nat.min_eq_right (by omega)]
    · rw [if_neg (nI_nlt (by omega) (by omega)), Nat.min_eq_left (by omega)]
  unfold lopS
  rw [p2, q2, mx, mn]
  rw [show (3 : Int32) * nI (min p q) = nI (3 * min p q) from pk_mul 3 _, show nI (3 * min p q) / 8 = nI (3 * min p q / 8) from zdiv (d := 8) (by omega) (by decide) (by decide), nI_add, d100 (by omega)]
  exact ⟨_, by omega, rfl⟩
theorem lop_N {n c : Nat} {f : Nat → Nat → Nat} (hL : LOK n f c) : ∃ L, L ≤ 9999 ∧ lopN n f c = nI L := lopS_N (aX_bd co_bd hL) (aX_bd si_bd hL)
theorem sh_N {n c be da p : Nat} {f : Nat → Nat → Nat} (hL : LOK n f c) (hbe : be ≤ 900) (hda : 1 ≤ da ∧ da ≤ 9999) (hp : p ≤ 1200) : ∃ s, s ≤ 99999 ∧ shS be da (lopN n f c) p = nI s := by
  obtain ⟨L, h1, h2⟩ := lop_N hL
  rw [h2, shS_N hbe hda hp (by omega)]
  exact ⟨_, Nat.min_le_left _ _, rfl⟩
theorem side_lt {n c : Nat} {f : Nat → Nat → Nat} : sideN n f c < 12 := by
  have := sdS_le (aX co n f c) (aX si n f c) 11
  unfold sideN
  omega
