/-! water leaves -/
theorem s2_toldB {b : Nat} {a : mw_M} {n k w c : Nat} {f : Nat → Nat → Nat} (hn : n ≤ 12) (hX : XL b a n f c) (hw : w < 4) (hk : k < n) {Q : Int32 → Prop} (hQ : Q (nI (f w k))) : P2_told b (nI k) (nI w) a Q := by
  unfold P2_told
  obtain ⟨f1, f2, f3⟩ := dfac (N := 12) (d := k) (by omega) (by decide)
  obtain ⟨x1, x2, x3, x4⟩ := hX.2.2 k hk
  refine ⟨fun q => ?_, fun _ => ?_⟩
  · rw [show (4 : Int32) = nI 4 from rfl, nI_eq (by omega) (by decide)] at q; omega
  · rw [ch2_hasLump (show n < 2147483648 by omega) hX.1, if_pos (by rw [f1]; omega)]
    simp only [f2, f3, true_and, x1, x2, x3, x4]
    rcases (show w = 0 ∨ w = 1 ∨ w = 2 ∨ w = 3 by omega) with rfl | rfl | rfl | rfl
    · exact ⟨fun _ => hQ, fun q => absurd q (by decide), fun q => absurd q (by decide), fun q => absurd q (by decide), fun q => absurd rfl q⟩
    · exact ⟨fun q => absurd q (by decide), fun _ => hQ, fun q => absurd q (by decide), fun q => absurd q (by decide), fun _ q => absurd rfl q⟩
    · exact ⟨fun q => absurd q (by decide), fun q => absurd q (by decide), fun _ => hQ, fun q => absurd q (by decide), fun _ _ q => absurd rfl q⟩
    · exact ⟨fun q => absurd q (by decide), fun q => absurd q (by decide), fun q => absurd q (by decide), fun _ => hQ, fun _ _ _ q => absurd rfl q⟩
theorem s2_tellB {b : Nat} {a : mw_M} {n k w : Nat} (hn : n ≤ 12) (h4 : a.1 b 4 = nI n) (hw : w < 3) (hk : k < n) {v : Int32} {Q : mw_M → Prop} (hQ : Q (mw_I a (b + 1 + w) k v)) : P2_tell b (nI k) (nI w) v a Q := by
  unfold P2_tell
  obtain ⟨f1, f2, f3⟩ := dfac (N := 12) (d := k) (by omega) (by decide)
  refine ⟨fun q => ?_, fun _ => ?_⟩
  · rw [show (4 : Int32) = nI 4 from rfl, nI_eq (by omega) (by decide)] at q; omega
  · rw [ch2_hasLump (show n < 2147483648 by omega) h4, if_pos (by rw [f1]; omega)]
    simp only [f2, f3, true_and, forall_eq]
    rcases (show w = 0 ∨ w = 1 ∨ w = 2 by omega) with rfl | rfl | rfl
    · exact ⟨fun _ => ⟨fun q => absurd q (by decide), fun _ => ⟨fun q => absurd q (by decide), fun _ => hQ⟩⟩, fun q => absurd rfl q⟩
    · exact ⟨fun q => absurd q (by decide), fun _ => ⟨fun _ => ⟨fun q => absurd q (by decide), fun _ => hQ⟩, fun q => absurd rfl q⟩⟩
    · exact ⟨fun q => absurd q (by decide), fun _ => ⟨fun q => absurd q (by decide), fun _ => ⟨fun _ => hQ, fun q => absurd rfl q⟩⟩⟩
/-- the names that the water law sees -/
def wNm (wet hold p : Nat) (t lop s c : Int32) (k : Nat) : Int32 := if k = 0 then nI wet else if k = 1 then nI hold else if k = 2 then nI p else if k = 3 then t else if k = 4 then lop else if k = 7 then s else if k = 8 then c else 0
def clN (wet : Nat) (r : Int32) : Nat := if r < 0 then 0 else if nI wet < r then wet else r.toInt.toNat
theorem clN_le {wet : Nat} (hw : wet ≤ 99) {r : Int32} : clN wet r ≤ wet := by
  unfold clN
  split
  · omega
  · split
    · omega
    · rename_i h1 h2
      rw [zlt, nI_toInt (by omega)] at h2
      omega
/-- what leaves a lump: W is no law, or the water law's text -/
def outN (W : Option (List LN)) (wet hold p : Nat) (t lop s c : Int32) : Nat := match W with
  | none => wet * p / 6000
  | some ls => clN wet (txVal (wNm wet hold p t lop s c) ls)
theorem outN_le {W : Option (List LN)} {wet hold p : Nat} {t lop s c : Int32} (hw : wet ≤ 99) (hp : p ≤ 1200) : outN W wet hold p t lop s c ≤ wet := by
  cases W with
  | none =>
    have : wet * p ≤ wet * 1200 := Nat.mul_le_mul_left _ hp
    show wet * p / 6000 ≤ wet
    omega
  | some ls => exact clN_le hw
def fDr (W : Option (List LN)) (f : Nat → Nat → Nat) (p : Nat) (t lop s c : Int32) (i : Nat) : Nat → Nat → Nat := fun w k => if w = 1 ∧ k < i then f 1 k - outN W (f 1 k) (f 3 k) p t lop s c else f w k
theorem fDr_ok {W : Option (List LN)} {f : Nat → Nat → Nat} {n p c0 : Nat} {t lop s c : Int32} (hL : LOK n f c0) (i : Nat) : LOK n (fDr W f p t lop s c i) c0 := by
  refine ⟨hL.1, hL.2.1, fun k hk => ?_⟩
  obtain ⟨h1, h2, h3, h4, h5⟩ := hL.2.2 k hk
  refine ⟨by unfold fDr; rw [if_neg (by omega)]; exact h1, by unfold fDr; rw [if_neg (by omega)]; exact h2, ?_, by unfold fDr; rw [if_neg (by omega)]; exact h4, by unfold fDr; rw [if_neg (by omega)]; exact h5⟩
  unfold fDr
  split <;> omega
/-- the water law on both sides: none, or law w with text ls -/
def WAT (a m : mw_M) (W : Option (List LN)) : Prop := (W = none ∧ a.1 15 4 = -1 ∧ m.1 0 16 = -1) ∨ ∃ (i : Nat) (ls : List LN) (n j : Nat) (tb : Nat → Nat), W = some ls ∧ i < 4 ∧ (∃ nl : Nat, nl ≤ 4 ∧ i < nl ∧ a.1 15 3 = nI nl) ∧ a.1 15 4 = nI i ∧ m.1 0 16 = nI i ∧ TB n tb ∧ m.1 12 i = nI n ∧ (∀ k, k < n → m.1 11 (120 * i + k) = nI (tb k)) ∧ pText tb n 120 0 = (j, some ls) ∧ a.1 (20 + 3 * i) 2 = nI (txCode ls).length ∧ ∀ k, k < (txCode ls).length → a.1 (20 + 3 * i + 1) k = (txCode ls).getD k 0
theorem RLaws.wat {a m : mw_M} (h : RLaws a m) : ∃ W, WAT a m W := by
  obtain ⟨nl, n4, q1, q2, q3, q4, q5⟩ := h
  rcases q4 with q | ⟨i, hi, q⟩
  · exact ⟨none, Or.inl ⟨rfl, by rw [q3]; exact q, q⟩⟩
  · obtain ⟨n, tb, j, ls, g1, g2, g3, g4, g5, g6⟩ := q5 i hi
    exact ⟨some ls, Or.inr ⟨i, ls, n, j, tb, rfl, by omega, ⟨nl, n4, hi, q1⟩, by rw [q3]; exact q, q, g1, g2, g3, g4, g5, g6⟩⟩
theorem clN_mm {wet : Nat} (hw : wet ≤ 1200) (r : Int32) : mw_max 0 (mw_min (nI wet) r) = nI (clN wet r) := by
  unfold mw_max mw_min clN
  by_cases c : r < 0
  · rw [if_pos c]
    have h1 : r < nI wet := by rw [zlt] at c ⊢; rw [nI_toInt (by omega)]; simp only [Int32.reduceToInt] at c; omega
    rw [if_pos h1, if_neg (by rw [zlt] at c ⊢; omega)]
    rfl
  · rw [if_neg c]
    by_cases d : nI wet < r
    · rw [if_pos d, if_neg (show ¬ r < nI wet by rw [zlt] at d ⊢; omega)]
      by_cases e : 0 < nI wet
      · rw [if_pos e]
      · rw [if_neg e]
        rw [zlt, nI_toInt (by omega)] at e
        simp only [Int32.reduceToInt] at e
        have : wet = 0 := by omega
        rw [this]; rfl
    · rw [if_neg d]
      rw [zlt] at c d
      rw [nI_toInt (by omega)] at d
      simp only [Int32.reduceToInt] at c
      have er : r = nI r.toInt.toNat := nI_of_toInt (by omega)
      by_cases e : r < nI wet
      · rw [if_pos e]
        by_cases g : 0 < r
        · rw [if_pos g]; exact er
        · rw [if_neg g]
          rw [zlt] at g
          simp only [Int32.reduceToInt] at g
          rw [show r.toInt.toNat = 0 by omega]; rfl
      · rw [if_neg e]
        rw [zlt, nI_toInt (by omega)] at e
        have e3 : r.toInt.toNat = wet := by omega
        rw [e3]
        by_cases g : 0 < nI wet
        · rw [if_pos g]
        · rw [if_neg g]
          rw [zlt, nI_toInt (by omega)] at g
          simp only [Int32.reduceToInt] at g
          have : wet = 0 := by omega
          rw [this]; rfl
