/-! shelves: keep, row, put, element, shift, taken -/
theorem dfac {d N : Nat} (hd : d < N) (hN : N < 2147483648) : (nI d).toInt = (d : Int) ∧ (vp_in (nI d) N = True) ∧ (nI d).toNatClampNeg = d := ⟨nI_toInt (by omega), eq_true (vp_in_nI hd (by omega)), nI_clamp (by omega)⟩
theorem shl_get {p : Int32} (h : 0 ≤ p.toInt ∧ p.toInt ≤ 5) : ∃ d, d < 6 ∧ p = nI d := by
  obtain ⟨n, h1, rfl⟩ := nI_get h.1
  exact ⟨n, by have := h.2; rw [nI_toInt (by omega)] at this; omega, rfl⟩
theorem shl_if {d : Nat} (hd : d < 6) {A B : Prop} : (if 0 ≤ (nI d).toInt ∧ (nI d).toInt ≤ 5 then A else B) = A := by
  rw [nI_toInt (by omega), if_pos (by omega)]
theorem ch0_hasLoad {a : mw_M} {n : Nat} (hn : n ≤ 50) (h : a.1 62 2 = nI n) (p : Int32) (QT QF : Prop) : P0_hasLoad p a QT QF = if 0 ≤ p.toInt ∧ p.toInt < n then QT else QF := by
  unfold P0_hasLoad
  rw [h, if_ab, if_ab]
  simp only [zlt, zle, Int32.reduceToInt, nI_toInt (show n < 2 ^ 31 by omega)]
  by_cases h1 : p.toInt < 0
  · rw [if_pos h1, if_neg (by omega)]
  · rw [if_neg h1]
    by_cases h2 : (n : Int) ≤ p.toInt
    · rw [if_pos h2, if_neg (by omega)]
    · rw [if_neg h2, if_pos (by omega)]
theorem ch11_isBody {m : mw_M} {n : Nat} (hn : n ≤ 50) (h : m.1 0 53 = nI n) (p : Int32) (QT QF : Prop) : P11_isBody p m QT QF = if 0 ≤ p.toInt ∧ p.toInt < n then QT else QF := by
  unfold P11_isBody
  rw [ch_within, toL, toL, h, Int32.toInt_sub, nI_toInt (by omega)]
  have e : ((n : Int) - (1 : Int32).toInt).bmod (2 ^ 32) = n - 1 := by rw [show (1 : Int32).toInt = 1 from rfl]; exact bmE (by omega) (by omega)
  rw [e]
  exact if_c (by constructor <;> intro q <;> (simp only [Int64.reduceToInt] at q ⊢; omega))

theorem tA {A B : Prop} (h : A = True) : (A ∧ B) = B := by rw [h, true_and]
/-- keep -/
theorem op_keep {a m : mw_M} (hS : RSh a m) (hA : RActs a m) {p1 p2 : Int32} {Q : Int32 → mw_M → Int32 → mw_M → Prop} (hQ : ∀ r u v, FX [66, 67] a u → FM [23, 24] [] m v → RSh u v → Q r u r v) : P10_keep p1 p2 a (fun r u => P11_keep p1 p2 m (fun r' v => Q r u r' v)) := by
  obtain ⟨n, r, kk, tt, hn, hr, e1, e2, -⟩ := hA
  unfold P10_keep P11_keep P6_hold
  simp only [ch6_isShelf, ch11_isShelf, if_ab, ch0_hasLoad hn e1, ch11_isBody hn e2]
  by_cases hp : 0 ≤ p1.toInt ∧ p1.toInt ≤ 5
  · simp only [if_pos hp]
    obtain ⟨d, hd, rfl⟩ := shl_get hp
    obtain ⟨f1, f2, f3⟩ := dfac hd (by decide)
    simp only [f2, f3, true_and, forall_eq]
    have key : ∀ (x y z : Int32), SH1 (a.1 62 2) x y (a.1 68 d) (a.1 69 d) z 0 → RSh (mw_I (mw_I a 66 d x) 67 d y) (mw_I (mw_I m 23 d z) 24 d 0) := by
      intro x y z hs
      refine ⟨fun d' i hd' hi => hS.1 d' i hd' hi, fun d' hd' => ?_⟩
      by_cases hdd : d' = d
      · subst hdd
        simpa [mw_I_get] using hs
      · simpa [mw_I_get, hdd] using hS.2 d' hd'
    have fx : ∀ (x y : Int32), FX [66, 67] a (mw_I (mw_I a 66 d x) 67 d y) := fun x y => (FX.rf.I (by decide)).I (by decide)
    have fm : ∀ (x y : Int32), FM [23, 24] [] m (mw_I (mw_I m 23 d x) 24 d y) := fun x y => (FM.rf.I (by decide) (by decide)).I (by decide) (by decide)
    by_cases h1 : p2 = -1
    · subst h1
      simp only [if_true, if_neg (show ¬ (0 : Int32) ≤ -1 by decide)]
      exact hQ _ _ _ (fx _ _) (fm _ _) (key _ _ _ (Or.inl ⟨rfl, rfl⟩))
    · simp only [if_neg h1]
      by_cases h2 : 0 ≤ p2.toInt ∧ p2.toInt < n
      · obtain ⟨w, hw, rfl⟩ := nI_get h2.1
        rw [nI_toInt (by omega)] at h2
        have h3 : (0 : Int32) ≤ nI w := nI_pos' (by omega)
        simp only [nI_toInt (show w < 2 ^ 31 by omega), if_pos h2, if_pos h3]
        refine hQ _ _ _ (fx _ _) (fm _ _) (key _ _ _ (Or.inr (Or.inl ⟨rfl, w, by omega, ?_, rfl, rfl⟩)))
        rw [e1]
        exact nI_lt (by omega) (by omega)
      · simp only [if_neg h2]
        exact hQ _ _ _ FX.rf FM.rf hS
  · simp only [if_neg hp]
    exact hQ _ _ _ FX.rf FM.rf hS
def mw_z (u : mw_M) (c lo hi : Nat) : mw_M := (u.1, fun c' j => if c' = c ∧ lo ≤ j ∧ j < hi then 0 else u.2 c' j)
theorem mw_z_0 (u : mw_M) (c lo : Nat) : mw_z u c lo lo = u := by
  refine Prod.ext rfl (funext fun c' => funext fun j => ?_)
  exact if_neg (fun h => by omega)
theorem mw_z_s {u : mw_M} {c lo i : Nat} (h : lo ≤ i) : mw_L (mw_z u c lo i) c i 0 = mw_z u c lo (i + 1) := by
  refine Prod.ext rfl (funext fun c' => funext fun j => ?_)
  show (if c' = c ∧ j = i then (0 : Int64) else if c' = c ∧ lo ≤ j ∧ j < i then 0 else u.2 c' j) = if c' = c ∧ lo ≤ j ∧ j < i + 1 then 0 else u.2 c' j
  by_cases h1 : c' = c
  · by_cases h2 : j = i
    · rw [if_pos ⟨h1, h2⟩, if_pos ⟨h1, by omega, by omega⟩]
    · rw [if_neg (fun q => h2 q.2)]
      by_cases q : lo ≤ j ∧ j < i
      · rw [if_pos ⟨h1, q.1, q.2⟩, if_pos ⟨h1, q.1, by omega⟩]
      · rw [if_neg (fun z => q z.2), if_neg (fun z => q ⟨z.2.1, by have := z.2.2; omega⟩)]
  · rw [if_neg (fun q => h1 q.1), if_neg (fun q => h1 q.1), if_neg (fun q => h1 q.1)]
theorem l6_holdRow {d : Nat} (hd : d < 6) {p2 p3 : Int32} {Q : mw_M → Prop} {u : mw_M} (hQ : Q (mw_z u (71 + d) 0 60)) : ∀ k i, i + k = 60 → L6_holdRow_32 (nI d) p2 p3 Q (k + 1) (nI i) (mw_z u (71 + d) 0 i) := by
  intro k
  induction k with
  | zero =>
    intro i hi
    have e : i = 60 := by omega
    subst e
    unfold L6_holdRow_32
    exact ⟨fun _ => hQ, fun h => absurd (show (60 : Int32) ≤ nI 60 by decide) h⟩
  | succ k ih =>
    intro i hi
    unfold L6_holdRow_32
    refine ⟨fun h => absurd h (nI_ge (a := i) (b := 60) (by omega) (by decide)), fun _ => ⟨vp_in_nI hd (by decide), vp_in_nI (by omega) (by decide), fun x hx y hy => ?_⟩⟩
    subst hx; subst hy
    rw [nI_clamp (by omega), nI_clamp (by omega), mw_z_s (Nat.zero_le _), nI_1]
    exact ih (i + 1) (by omega)
theorem l11_row {d : Nat} (hd : d < 6) {p2 p3 : Int32} {Q : Int32 → mw_M → Prop} {u : mw_M} (hQ : Q 1 (mw_z u 25 (60 * d) (60 * d + 60))) : ∀ k i, i + k = 60 → L11_row_57 (nI d) p2 p3 Q (k + 1) (nI (60 * d + i)) (mw_z u 25 (60 * d) (60 * d + i)) := by
  have e60 : (60 : Int32) * nI d + 60 = nI (60 * d + 60) := by rw [show (60 : Int32) = nI 60 from rfl, pk_mul, nI_add]
  intro k
  induction k with
  | zero =>
    intro i hi
    have e : i = 60 := by omega
    subst e
    unfold L11_row_57
    rw [e60]
    exact ⟨fun _ => hQ, fun h => absurd (nI_le (Nat.le_refl _) (by omega)) h⟩
  | succ k ih =>
    intro i hi
    unfold L11_row_57
    rw [e60]
    refine ⟨fun h => absurd h (nI_ge (by omega) (by omega)), fun _ => ⟨vp_in_nI (by omega) (by decide), fun x hx y hy => ?_⟩⟩
    subst hx; subst hy
    rw [nI_clamp (by omega), mw_z_s (by omega), nI_1]
    exact ih (i + 1) (by omega)
theorem ch6_isSort (p : Int32) (QT QF : Prop) : P6_isSort p QT QF = if 0 ≤ p.toInt ∧ p.toInt ≤ 4 then QT else QF := by
  unfold P6_isSort
  rw [if_ab, if_ab]
  simp only [zlt, Int32.reduceToInt]
  by_cases h1 : p.toInt < 0
  · rw [if_pos h1, if_neg (by omega)]
  · rw [if_neg h1]
    by_cases h2 : 4 < p.toInt
    · rw [if_pos h2, if_neg (by omega)]
    · rw [if_neg h2, if_pos (by omega)]
theorem ch11_w04 (p : Int32) (QT QF : Prop) : P11_within p.toInt64 0 4 QT QF = if 0 ≤ p.toInt ∧ p.toInt ≤ 4 then QT else QF := by
  rw [ch_within, toL]
  rfl
/-- row -/
theorem op_row {a m : mw_M} (hS : RSh a m) {p1 p2 p3 : Int32} {Q : Int32 → mw_M → Int32 → mw_M → Prop} (hQ : ∀ r u v, FX [66, 67, 68, 69, 71, 72, 73, 74, 75, 76] a u → FM [23, 24, 25] [] m v → RSh u v → Q r u r v) : P10_row p1 p2 p3 a (fun r u => P11_row p1 p2 p3 m (fun r' v => Q r u r' v)) := by
  unfold P10_row P11_row P6_holdRow
  simp only [ch6_isShelf, ch11_isShelf, if_ab, ch6_isSort, ch11_w04]
  by_cases hp : 0 ≤ p1.toInt ∧ p1.toInt ≤ 5
  · simp only [if_pos hp]
    obtain ⟨d, hd, rfl⟩ := shl_get hp
    obtain ⟨f1, f2, f3⟩ := dfac hd (by decide)
    simp only [f2, f3, true_and, forall_eq]
    by_cases h2 : 0 ≤ p2.toInt ∧ p2.toInt ≤ 4
    · simp only [if_pos h2]
      by_cases h3 : p3 ≤ 60
      · simp only [if_pos h3]
        by_cases h4 : (0 : Int32) ≤ p3
        · simp only [if_pos h4]
          obtain ⟨t, ht, rfl⟩ := nI_get h2.1
          obtain ⟨n, hn, rfl⟩ := nI_get (x := p3) (by rw [zle] at h4; exact h4)
          have ht4 : t < 5 := by have := h2.2; rw [nI_toInt (by omega)] at this; omega
          have hn60 : n ≤ 60 := by rw [zle, nI_toInt (by omega)] at h3; simp only [Int32.reduceToInt] at h3; omega
          have e0 : (60 : Int32) * nI d = nI (60 * d) := by rw [show (60 : Int32) = nI 60 from rfl, pk_mul]
          refine ⟨61, ?_⟩
          have := l6_holdRow hd (p2 := nI t) (p3 := nI n) (u := mw_I (mw_I (mw_I a 66 d 2) 68 d (nI t)) 69 d (nI n)) (Q := fun u => ∃ n14, L11_row_57 (nI d) (nI t) (nI n) (fun r' v => Q 1 u r' v) n14 (60 * nI d) (mw_I (mw_I m 23 d (50 + nI t)) 24 d (nI n))) ?_ 60 0 rfl
          · rw [mw_z_0] at this
            exact this
          · refine ⟨61, ?_⟩
            rw [e0]
            have := l11_row hd (p2 := nI t) (p3 := nI n) (u := mw_I (mw_I m 23 d (50 + nI t)) 24 d (nI n)) (Q := fun r' v => Q 1 (mw_z (mw_I (mw_I (mw_I a 66 d 2) 68 d (nI t)) 69 d (nI n)) (71 + d) 0 60) r' v) ?_ 60 0 rfl
            · simp only [Nat.add_zero, mw_z_0] at this
              exact this
            · refine hQ _ _ _ ?_ ?_ ⟨fun d' i hd' hi => ?_, fun d' hd' => ?_⟩
              · have h : FX [66, 67, 68, 69, 71, 72, 73, 74, 75, 76] a (mw_I (mw_I (mw_I a 66 d 2) 68 d (nI t)) 69 d (nI n)) := ((FX.rf.I (by decide)).I (by decide)).I (by decide)
                refine fun k hk => ⟨(h k hk).1, ?_⟩
                show (fun j => if k = 71 + d ∧ 0 ≤ j ∧ j < 60 then (0 : Int64) else a.2 k j) = _
                funext j
                rw [if_neg]
                rintro ⟨rfl, -⟩
                apply hk
                rcases (show d = 0 ∨ d = 1 ∨ d = 2 ∨ d = 3 ∨ d = 4 ∨ d = 5 by omega) with rfl | rfl | rfl | rfl | rfl | rfl <;> decide
              · have h : FM [23, 24, 25] [] m (mw_I (mw_I m 23 d (50 + nI t)) 24 d (nI n)) := (FM.rf.I (by decide) (by decide)).I (by decide) (by decide)
                refine ⟨fun k hk h0 => ⟨(h.1 k hk h0).1, ?_⟩, h.2⟩
                show (fun j => if k = 25 ∧ 60 * d ≤ j ∧ j < 60 * d + 60 then (0 : Int64) else m.2 k j) = _
                funext j
                rw [if_neg]
                rintro ⟨rfl, -⟩
                exact hk (by decide)
              · show (if 71 + d' = 71 + d ∧ 0 ≤ i ∧ i < 60 then (0 : Int64) else a.2 (71 + d') i) = if 25 = 25 ∧ 60 * d ≤ 60 * d' + i ∧ 60 * d' + i < 60 * d + 60 then (0 : Int64) else m.2 25 (60 * d' + i)
                by_cases hdd : d' = d
                · rw [if_pos (by omega), if_pos (by omega)]
                · rw [if_neg (by omega), if_neg (by omega)]
                  exact hS.1 d' i hd' hi
              · by_cases hdd : d' = d
                · subst hdd
                  refine Or.inr (Or.inr ⟨?_, t, n, ht4, hn60, ?_, ?_, ?_, ?_⟩)
                  · simp [mw_z, mw_I_get]
                  · simp [mw_z, mw_I_get]
                  · simp [mw_z, mw_I_get]
                  · simp only [mw_z, mw_I_get]; simp [nI_add, show (50 : Int32) = nI 50 from rfl]
                  · simp [mw_z, mw_I_get]
                · simpa [mw_z, mw_I_get, hdd] using hS.2 d' hd'
        · simp only [if_neg h4]
          exact hQ _ _ _ FX.rf FM.rf hS
      · simp only [if_neg h3]
        exact hQ _ _ _ FX.rf FM.rf hS
    · simp only [if_neg h2]
      exact hQ _ _ _ FX.rf FM.rf hS
  · simp only [if_neg hp]
    exact hQ _ _ _ FX.rf FM.rf hS
