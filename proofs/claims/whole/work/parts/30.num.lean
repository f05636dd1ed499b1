/-! numbers -/
theorem bmE {n : Int} (h1 : -2147483648 ≤ n) (h2 : n < 2147483648) : n.bmod (2 ^ 32) = n := Int.bmod_eq_of_le (by omega) (by omega)
theorem bmL {n : Int} (h1 : -9223372036854775808 ≤ n) (h2 : n < 9223372036854775808) : n.bmod (2 ^ 64) = n := Int.bmod_eq_of_le (by omega) (by omega)
theorem zlo (x : Int32) : -2147483648 ≤ x.toInt := x.le_toInt
theorem zhi (x : Int32) : x.toInt < 2147483648 := x.toInt_lt
theorem zeq {x y : Int32} : x = y ↔ x.toInt = y.toInt := Int32.toInt_inj.symm
theorem zle {x y : Int32} : x ≤ y ↔ x.toInt ≤ y.toInt := Int32.le_iff_toInt_le
theorem zlt {x y : Int32} : x < y ↔ x.toInt < y.toInt := Int32.lt_iff_toInt_lt
theorem Leq {x y : Int64} : x = y ↔ x.toInt = y.toInt := Int64.toInt_inj.symm
theorem Lle {x y : Int64} : x ≤ y ↔ x.toInt ≤ y.toInt := Int64.le_iff_toInt_le
theorem Llt {x y : Int64} : x < y ↔ x.toInt < y.toInt := Int64.lt_iff_toInt_lt
theorem nI_of_toInt {x : Int32} {n : Nat} (h : x.toInt = n) : x = nI n := by
  have h1 := zhi x
  rw [zeq, nI_toInt (by omega), h]
theorem nI_get {x : Int32} (h : 0 ≤ x.toInt) : ∃ n : Nat, n < 2147483648 ∧ x = nI n := by
  have h1 := zhi x
  exact ⟨x.toInt.toNat, by omega, nI_of_toInt (by omega)⟩
theorem zcl {x : Int32} (h : 0 ≤ x.toInt) : (x.toNatClampNeg : Int) = x.toInt := by
  obtain ⟨n, h1, rfl⟩ := nI_get h
  rw [nI_clamp (by omega), nI_toInt (by omega)]
theorem lgc_lt0 (x y : Int64) : (lg_cmp x y < 0) = (x < y) := by
  rw [eq_iff_iff, Llt]
  unfold lg_cmp
  split
  · next h => rw [gt_iff_lt, Llt] at h; constructor
              · intro q; exact absurd q (by decide)
              · intro q; omega
  · split
    · next h => subst h; constructor
                · intro q; exact absurd q (by decide)
                · intro q; omega
    · next h1 h2 => rw [gt_iff_lt, Llt] at h1; rw [Leq] at h2; constructor
                    · intro _; omega
                    · intro _; decide
theorem lgc_gt0 (x y : Int64) : (0 < lg_cmp x y) = (y < x) := by
  rw [eq_iff_iff, Llt]
  unfold lg_cmp
  split
  · next h => rw [gt_iff_lt, Llt] at h; constructor
              · intro _; omega
              · intro _; decide
  · split
    · next h => subst h; constructor
                · intro q; exact absurd q (by decide)
                · intro q; omega
    · next h1 h2 => rw [gt_iff_lt, Llt] at h1; rw [Leq] at h2; constructor
                    · intro q; exact absurd q (by decide)
                    · intro q; omega
theorem lgc_le0 (x y : Int64) : (lg_cmp x y ≤ 0) = (x ≤ y) := by
  have h := lgc_gt0 x y
  rw [eq_iff_iff] at h ⊢
  rw [← Int32.not_lt, ← Int64.not_lt, h]
theorem lgc_eq0 (x y : Int64) : (lg_cmp x y = 0) = (x = y) := by
  rw [eq_iff_iff]
  unfold lg_cmp
  split
  · next h => rw [gt_iff_lt, Llt] at h; constructor
              · intro q; exact absurd q (by decide)
              · intro q; rw [q] at h; omega
  · split
    · next h => exact ⟨fun _ => h, fun _ => rfl⟩
    · next h1 h2 => exact ⟨fun q => absurd q (by decide), fun q => absurd q h2⟩
theorem toL (x : Int32) : x.toInt64.toInt = x.toInt := Int32.toInt_toInt64 x
theorem if_ab {c : Prop} [Decidable c] {A B : Prop} : ((c → A) ∧ (¬ c → B)) = if c then A else B := by
  rw [eq_iff_iff]
  constructor
  · intro h
    split
    · next q => exact h.1 q
    · next q => exact h.2 q
  · intro h
    refine ⟨fun q => by rwa [if_pos q] at h, fun q => by rwa [if_neg q] at h⟩
theorem if_c {c d : Prop} [Decidable c] [Decidable d] {A B : Prop} (h : c ↔ d) : (if c then A else B) = if d then A else B := by
  by_cases q : c
  · rw [if_pos q, if_pos (h.mp q)]
  · rw [if_neg q, if_neg (fun z => q (h.mpr z))]
/-- the reference's within -/
theorem ch_within (x lo hi : Int64) (QT QF : Prop) : P11_within x lo hi QT QF = if lo.toInt ≤ x.toInt ∧ x.toInt ≤ hi.toInt then QT else QF := by
  unfold P11_within
  rw [lgc_lt0, lgc_gt0, if_ab, if_ab]
  simp only [Llt]
  by_cases h1 : x.toInt < lo.toInt
  · rw [if_pos h1, if_neg (by omega)]
  · rw [if_neg h1]
    by_cases h2 : hi.toInt < x.toInt
    · rw [if_pos h2, if_neg (by omega)]
    · rw [if_neg h2, if_pos (by omega)]
theorem ch11_isShelf (p : Int32) (QT QF : Prop) : P11_isShelf p QT QF = if 0 ≤ p.toInt ∧ p.toInt ≤ 5 then QT else QF := by
  unfold P11_isShelf
  rw [ch_within, toL]
  rfl
theorem ch6_isShelf (p : Int32) (QT QF : Prop) : P6_isShelf p QT QF = if 0 ≤ p.toInt ∧ p.toInt ≤ 5 then QT else QF := by
  unfold P6_isShelf
  rw [if_ab, if_ab]
  simp only [zlt, zle, Int32.reduceToInt]
  by_cases h1 : p.toInt < 0
  · rw [if_pos h1, if_neg (by omega)]
  · rw [if_neg h1]
    by_cases h2 : 6 ≤ p.toInt
    · rw [if_pos h2, if_neg (by omega)]
    · rw [if_neg h2, if_pos (by omega)]
