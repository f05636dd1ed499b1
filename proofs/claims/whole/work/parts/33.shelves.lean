/-! shelves: keep, row, put, element, shift, taken -/
theorem dfac {d N : Nat} (hd : d < N) (hN : N < 2147483648) : (nI d).toInt = (d : Int) ∧ (vp_in (nI d) N = True) ∧ (nI d).toNatClampNeg = d := ⟨nI_toInt (by omega), eq_true (vp_in_nI hd (by omega)), nI_clamp (by omega)⟩
theorem shl_get {p : Int32} (h : 0 ≤ p.toInt ∧ p.toInt ≤ 5) : ∃ d, d < 6 ∧ p = nI d := by
  obtain ⟨n, h1, rfl⟩ := nI_get h.1
  exact ⟨n, by have := h.2; rw [nI_toInt (by omega)] at this; omega, rfl⟩
theorem shl_if {d : Nat} (hd : d < 6) {A B : Prop} : (if 0 ≤ (nI d).toInt ∧ (nI d).toInt ≤ 5 then A else B) = A := by
  rw [nI_toInt (by omega), if_pos (by omega)]
theorem ch0_hasLoad {a : mw_M} {n : Nat} (hn : n ≤ 50) (h : a.1 62 2 = nI n) (p : Int32) (QT QF : Prop) : P0_hasLoad p a QT QF = if 0 ≤ p.toInt ∧ p.toInt < n then QT else QF := by
  unfold P0_hasLoad
  rw [h, if_ab, if_ab]
  simp only [zlt, zle, Int32.reduceToInt, nI_toInt (show n < 2 ^ 31 by omega)]
  by_cases h1 : p.toInt < 0
  · rw [if_pos h1, if_neg (by omega)]
  · rw [if_neg h1]
    by_cases h2 : (n : Int) ≤ p.toInt
    · rw [if_pos h2, if_neg (by omega)]
    · rw [if_neg h2, if_pos (by omega)]
theorem ch11_isBody {m : mw_M} {n : Nat} (hn : n ≤ 50) (h : m.1 0 53 = nI n) (p : Int32) (QT QF : Prop) : P11_isBody p m QT QF = if 0 ≤ p.toInt ∧ p.toInt < n then QT else QF := by
  unfold P11_isBody
  rw [ch_within, toL, toL, h, Int32.toInt_sub, nI_toInt (by omega)]
  have e : ((n : Int) - (1 : Int32).toInt).bmod (2 ^ 32) = n - 1 := by rw [show (1 : Int32).toInt = 1 from rfl]; exact bmE (by omega) (by omega)
  rw [e]
  exact if_c (by constructor <;> intro q <;> (simp only [Int64.reduceToInt] at q ⊢; omega))

theorem tA {A B : Prop} (h : A = True) : (A ∧ B) = B := by rw [h, true_and]
/-- keep -/
theorem op_keep {a m : mw_M} (hS : RSh a m) (hA : RActs a m) {p1 p2 : Int32} {Q : Int32 → mw_M → Int32 → mw_M → Prop} (hQ : ∀ r u v, FX [66, 67] a u → FM [23, 24] [] m v → RSh u v → Q r u r v) : P10_keep p1 p2 a (fun r u => P11_keep p1 p2 m (fun r' v => Q r u r' v)) := by
  obtain ⟨n, r, kk, tt, hn, hr, e1, e2, -⟩ := hA
  unfold P10_keep P11_keep P6_hold
  simp only [ch6_isShelf, ch11_isShelf, if_ab, ch0_hasLoad hn e1, ch11_isBody hn e2]
  by_cases hp : 0 ≤ p1.toInt ∧ p1.toInt ≤ 5
  · simp only [if_pos hp]
    obtain ⟨d, hd, rfl⟩ := shl_get hp
    obtain ⟨f1, f2, f3⟩ := dfac hd (by decide)
    simp only [f2, f3, true_and, forall_eq]
    have key : ∀ (x y z : Int32), ¬ x = 2 → SH1 (a.1 62 2) x y (a.1 68 d) (a.1 69 d) z 0 → RSh (mw_I (mw_I a 66 d x) 67 d y) (mw_I (mw_I m 23 d z) 24 d 0) := by
      intro x y z hx2 hs
      refine ⟨fun d' i hd' hi => hS.1 d' i hd' hi, fun d' hd' => ?_, fun d' hd' h6 h8 => ?_⟩
      · by_cases hdd : d' = d
        · subst hdd
          simpa [mw_I_get] using hs
        · simpa [mw_I_get, hdd] using hS.2.1 d' hd'
      · by_cases hdd : d' = d
        · subst hdd
          exact absurd (by simpa [mw_I_get] using h6) hx2
        · exact hS.2.2 d' hd' (by simpa [mw_I_get, hdd] using h6) (by simpa [mw_I_get, hdd] using h8)
    have fx : ∀ (x y : Int32), FX [66, 67] a (mw_I (mw_I a 66 d x) 67 d y) := fun x y => (FX.rf.I (by decide)).I (by decide)
    have fm : ∀ (x y : Int32), FM [23, 24] [] m (mw_I (mw_I m 23 d x) 24 d y) := fun x y => (FM.rf.I (by decide) (by decide)).I (by decide) (by decide)
    by_cases h1 : p2 = -1
    · subst h1
      simp only [if_true, if_neg (show ¬ (0 : Int32) ≤ -1 by decide)]
      exact hQ _ _ _ (fx _ _) (fm _ _) (key _ _ _ (by decide) (Or.inl ⟨rfl, rfl⟩))
    · simp only [if_neg h1]
      by_cases h2 : 0 ≤ p2.toInt ∧ p2.toInt < n
      · obtain ⟨w, hw, rfl⟩ := nI_get h2.1
        rw [nI_toInt (by omega)] at h2
        have h3 : (0 : Int32) ≤ nI w := nI_pos' (by omega)
        simp only [nI_toInt (show w < 2 ^ 31 by omega), if_pos h2, if_pos h3]
        refine hQ _ _ _ (fx _ _) (fm _ _) (key _ _ _ (by decide) (Or.inr (Or.inl ⟨rfl, w, by omega, ?_, rfl, rfl⟩)))
        rw [e1]
        exact nI_lt (by omega) (by omega)
      · simp only [if_neg h2]
        exact hQ _ _ _ FX.rf FM.rf hS
  · simp only [if_neg hp]
    exact hQ _ _ _ FX.rf FM.rf hS
def mw_z (u : mw_M) (c lo hi : Nat) : mw_M := (u.1, fun c' j => if c' = c ∧ lo ≤ j ∧ j < hi then 0 else u.2 c' j)
theorem mw_z_0 (u : mw_M) (c lo : Nat) : mw_z u c lo lo = u := by
  refine Prod.ext rfl (funext fun c' => funext fun j => ?_)
  exact if_neg (fun h => by omega)
theorem mw_z_s {u : mw_M} {c lo i : Nat} (h : lo ≤ i) : mw_L (mw_z u c lo i) c i 0 = mw_z u c lo (i + 1) := by
  refine Prod.ext rfl (funext fun c' => funext fun j => ?_)
  show (if c' = c ∧ j = i then (0 : Int64) else if c' = c ∧ lo ≤ j ∧ j < i then 0 else u.2 c' j) = if c' = c ∧ lo ≤ j ∧ j < i + 1 then 0 else u.2 c' j
  by_cases h1 : c' = c
  · by_cases h2 : j = i
    · rw [if_pos ⟨h1, h2⟩, if_pos ⟨h1, by omega, by omega⟩]
    · rw [if_neg (fun q => h2 q.2)]
      by_cases q : lo ≤ j ∧ j < i
      · rw [if_pos ⟨h1, q.1, q.2⟩, if_pos ⟨h1, q.1, by omega⟩]
      · rw [if_neg (fun z => q z.2), if_neg (fun z => q ⟨z.2.1, by have := z.2.2; omega⟩)]
  · rw [if_neg (fun q => h1 q.1), if_neg (fun q => h1 q.1), if_neg (fun q => h1 q.1)]
theorem l6_holdRow {d : Nat} (hd : d < 6) {p2 p3 : Int32} {Q : mw_M → Prop} {u : mw_M} (hQ : Q (mw_z u (71 + d) 0 60)) : ∀ k i, i + k = 60 → L6_holdRow_32 (nI d) p2 p3 Q (k + 1) (nI i) (mw_z u (71 + d) 0 i) := by
  intro k
  induction k with
  | zero =>
    intro i hi
    have e : i = 60 := by omega
    subst e
    unfold L6_holdRow_32
    exact ⟨fun _ => hQ, fun h => absurd (show (60 : Int32) ≤ nI 60 by decide) h⟩
  | succ k ih =>
    intro i hi
    unfold L6_holdRow_32
    refine ⟨fun h => absurd h (nI_ge (a := i) (b := 60) (by omega) (by decide)), fun _ => ⟨vp_in_nI hd (by decide), vp_in_nI (by omega) (by decide), fun x hx y hy => ?_⟩⟩
    subst hx; subst hy
    rw [nI_clamp (by omega), nI_clamp (by omega), mw_z_s (Nat.zero_le _), nI_1]
    exact ih (i + 1) (by omega)
theorem l11_row {d : Nat} (hd : d < 6) {p2 p3 : Int32} {Q : Int32 → mw_M → Prop} {u : mw_M} (hQ : Q 1 (mw_z u 25 (60 * d) (60 * d + 60))) : ∀ k i, i + k = 60 → L11_row_57 (nI d) p2 p3 Q (k + 1) (nI (60 * d + i)) (mw_z u 25 (60 * d) (60 * d + i)) := by
  have e60 : (60 : Int32) * nI d + 60 = nI (60 * d + 60) := by rw [show (60 : Int32) = nI 60 from rfl, pk_mul, nI_add]
  intro k
  induction k with
  | zero =>
    intro i hi
    have e : i = 60 := by omega
    subst e
    unfold L11_row_57
    rw [e60]
    exact ⟨fun _ => hQ, fun h => absurd (nI_le (Nat.le_refl _) (by omega)) h⟩
  | succ k ih =>
    intro i hi
    unfold L11_row_57
    rw [e60]
    refine ⟨fun h => absurd h (nI_ge (by omega) (by omega)), fun _ => ⟨vp_in_nI (by omega) (by decide), fun x hx y hy => ?_⟩⟩
    subst hx; subst hy
    rw [nI_clamp (by omega), mw_z_s (by omega), nI_1]
    exact ih (i + 1) (by omega)
theorem ch6_isSort (p : Int32) (QT QF : Prop) : P6_isSort p QT QF = if 0 ≤ p.toInt ∧ p.toInt ≤ 4 then QT else QF := by
  unfold P6_isSort
  rw [if_ab, if_ab]
  simp only [zlt, Int32.reduceToInt]
  by_cases h1 : p.toInt < 0
  · rw [if_pos h1, if_neg (by omega)]
  · rw [if_neg h1]
    by_cases h2 : 4 < p.toInt
    · rw [if_pos h2, if_neg (by omega)]
    · rw [if_neg h2, if_pos (by omega)]
theorem ch11_w04 (p : Int32) (QT QF : Prop) : P11_within p.toInt64 0 4 QT QF = if 0 ≤ p.toInt ∧ p.toInt ≤ 4 then QT else QF := by
  rw [ch_within, toL]
  rfl
/-- row -/
theorem op_row {a m : mw_M} (hS : RSh a m) {p1 p2 p3 : Int32} {Q : Int32 → mw_M → Int32 → mw_M → Prop} (hQ : ∀ r u v, FX [66, 67, 68, 69, 71, 72, 73, 74, 75, 76] a u → FM [23, 24, 25] [] m v → RSh u v → Q r u r v) : P10_row p1 p2 p3 a (fun r u => P11_row p1 p2 p3 m (fun r' v => Q r u r' v)) := by
  unfold P10_row P11_row P6_holdRow
  simp only [ch6_isShelf, ch11_isShelf, if_ab, ch6_isSort, ch11_w04]
  by_cases hp : 0 ≤ p1.toInt ∧ p1.toInt ≤ 5
  · simp only [if_pos hp]
    obtain ⟨d, hd, rfl⟩ := shl_get hp
    obtain ⟨f1, f2, f3⟩ := dfac hd (by decide)
    simp only [f2, f3, true_and, forall_eq]
    by_cases h2 : 0 ≤ p2.toInt ∧ p2.toInt ≤ 4
    · simp only [if_pos h2]
      by_cases h3 : p3 ≤ 60
      · simp only [if_pos h3]
        by_cases h4 : (0 : Int32) ≤ p3
        · simp only [if_pos h4]
          obtain ⟨t, ht, rfl⟩ := nI_get h2.1
          obtain ⟨n, hn, rfl⟩ := nI_get (x := p3) (by rw [zle] at h4; exact h4)
          have ht4 : t < 5 := by have := h2.2; rw [nI_toInt (by omega)] at this; omega
          have hn60 : n ≤ 60 := by rw [zle, nI_toInt (by omega)] at h3; simp only [Int32.reduceToInt] at h3; omega
          have e0 : (60 : Int32) * nI d = nI (60 * d) := by rw [show (60 : Int32) = nI 60 from rfl, pk_mul]
          refine ⟨61, ?_⟩
          have := l6_holdRow hd (p2 := nI t) (p3 := nI n) (u := mw_I (mw_I (mw_I a 66 d 2) 68 d (nI t)) 69 d (nI n)) (Q := fun u => ∃ n14, L11_row_57 (nI d) (nI t) (nI n) (fun r' v => Q 1 u r' v) n14 (60 * nI d) (mw_I (mw_I m 23 d (50 + nI t)) 24 d (nI n))) ?_ 60 0 rfl
          · rw [mw_z_0] at this
            exact this
          · refine ⟨61, ?_⟩
            rw [e0]
            have := l11_row hd (p2 := nI t) (p3 := nI n) (u := mw_I (mw_I m 23 d (50 + nI t)) 24 d (nI n)) (Q := fun r' v => Q 1 (mw_z (mw_I (mw_I (mw_I a 66 d 2) 68 d (nI t)) 69 d (nI n)) (71 + d) 0 60) r' v) ?_ 60 0 rfl
            · simp only [Nat.add_zero, mw_z_0] at this
              exact this
            · refine hQ _ _ _ ?_ ?_ ⟨fun d' i hd' hi => ?_, fun d' hd' => ?_, fun d' hd' h6 h8 i hi => ?_⟩
              · have h : FX [66, 67, 68, 69, 71, 72, 73, 74, 75, 76] a (mw_I (mw_I (mw_I a 66 d 2) 68 d (nI t)) 69 d (nI n)) := ((FX.rf.I (by decide)).I (by decide)).I (by decide)
                refine fun k hk => ⟨(h k hk).1, ?_⟩
                show (fun j => if k = 71 + d ∧ 0 ≤ j ∧ j < 60 then (0 : Int64) else a.2 k j) = _
                funext j
                rw [if_neg]
                rintro ⟨rfl, -⟩
                apply hk
                rcases (show d = 0 ∨ d = 1 ∨ d = 2 ∨ d = 3 ∨ d = 4 ∨ d = 5 by omega) with rfl | rfl | rfl | rfl | rfl | rfl <;> decide
              · have h : FM [23, 24, 25] [] m (mw_I (mw_I m 23 d (50 + nI t)) 24 d (nI n)) := (FM.rf.I (by decide) (by decide)).I (by decide) (by decide)
                refine ⟨fun k hk h0 => ⟨(h.1 k hk h0).1, ?_⟩, h.2⟩
                show (fun j => if k = 25 ∧ 60 * d ≤ j ∧ j < 60 * d + 60 then (0 : Int64) else m.2 k j) = _
                funext j
                rw [if_neg]
                rintro ⟨rfl, -⟩
                exact hk (by decide)
              · show (if 71 + d' = 71 + d ∧ 0 ≤ i ∧ i < 60 then (0 : Int64) else a.2 (71 + d') i) = if 25 = 25 ∧ 60 * d ≤ 60 * d' + i ∧ 60 * d' + i < 60 * d + 60 then (0 : Int64) else m.2 25 (60 * d' + i)
                by_cases hdd : d' = d
                · rw [if_pos (by omega), if_pos (by omega)]
                · rw [if_neg (by omega), if_neg (by omega)]
                  exact hS.1 d' i hd' hi
              · by_cases hdd : d' = d
                · subst hdd
                  refine Or.inr (Or.inr ⟨?_, t, n, ht4, hn60, ?_, ?_, ?_, ?_⟩)
                  · simp [mw_z, mw_I_get]
                  · simp [mw_z, mw_I_get]
                  · simp [mw_z, mw_I_get]
                  · simp only [mw_z, mw_I_get]; simp [nI_add, show (50 : Int32) = nI 50 from rfl]
                  · simp [mw_z, mw_I_get]
                · simpa [mw_z, mw_I_get, hdd] using hS.2.1 d' hd'
              · show -128 ≤ (if 71 + d' = 71 + d ∧ 0 ≤ i ∧ i < 60 then (0 : Int64) else a.2 (71 + d') i).toInt ∧ (if 71 + d' = 71 + d ∧ 0 ≤ i ∧ i < 60 then (0 : Int64) else a.2 (71 + d') i).toInt ≤ 127
                by_cases hdd : d' = d
                · rw [if_pos (by omega)]; decide
                · rw [if_neg (by omega)]
                  exact hS.2.2 d' hd' (by simpa [mw_z, mw_I_get, hdd] using h6) (by simpa [mw_z, mw_I_get, hdd] using h8) i hi
        · simp only [if_neg h4]
          exact hQ _ _ _ FX.rf FM.rf hS
      · simp only [if_neg h3]
        exact hQ _ _ _ FX.rf FM.rf hS
    · simp only [if_neg h2]
      exact hQ _ _ _ FX.rf FM.rf hS
  · simp only [if_neg hp]
    exact hQ _ _ _ FX.rf FM.rf hS
theorem ch6_hasPlaces {a : mw_M} {d n : Nat} (hd : d < 6) (hn : n ≤ 60) (h66 : a.1 66 d = 2) (h69 : a.1 69 d = nI n) {x : Int64} (hx : -1152921504606846976 ≤ x.toInt ∧ x.toInt ≤ 1152921504606846976) (k : Int32) (QT QF : Prop) : P6_hasPlaces (nI d) x k a QT QF = if 0 ≤ x.toInt ∧ 0 ≤ k.toInt ∧ x.toInt + k.toInt ≤ n then QT else QF := by
  obtain ⟨f1, f2, f3⟩ := dfac hd (by decide)
  have h1 := zlo k
  have h2 := zhi k
  unfold P6_hasPlaces P6_holdsRow
  simp only [ch6_isShelf, shl_if hd, f2, f3, true_and, h66, h69, if_ab, if_true, lgc_lt0, lgc_gt0]
  simp only [Llt, zlt, Int64.toInt_add, toL, nI_toInt (show n < 2 ^ 31 by omega), Int32.reduceToInt, Int64.reduceToInt]
  rw [bmL (by omega) (by omega)]
  by_cases c1 : x.toInt < 0
  · rw [if_pos c1, if_neg (by omega)]
  · rw [if_neg c1]
    by_cases c2 : k.toInt < 0
    · rw [if_pos c2, if_neg (by omega)]
    · rw [if_neg c2]
      by_cases c3 : (n : Int) < x.toInt + k.toInt
      · rw [if_pos c3, if_neg (by omega)]
      · rw [if_neg c3, if_pos (by omega)]
theorem ch6_hasPlaces0 {a : mw_M} {d : Nat} (hd : d < 6) (h66 : ¬ a.1 66 d = 2) (x : Int64) (k : Int32) (QT QF : Prop) : P6_hasPlaces (nI d) x k a QT QF = QF := by
  obtain ⟨f1, f2, f3⟩ := dfac hd (by decide)
  unfold P6_hasPlaces P6_holdsRow
  simp only [ch6_isShelf, shl_if hd, f2, f3, true_and, if_ab, if_neg h66]
theorem zL (x : Int32) : -1152921504606846976 ≤ x.toInt64.toInt ∧ x.toInt64.toInt ≤ 1152921504606846976 := by
  rw [toL]
  have h1 := zlo x
  have h2 := zhi x
  omega
def rfS (a66 a69 : Int32) (i : Int32) : Int32 := if a66 = 0 then -11 else if a66 = 1 then -12 else if 0 ≤ i.toInt ∧ i.toInt < a69.toInt then 0 else -13
theorem ch10_ref {a : mw_M} {d : Nat} (hd : d < 6) {z x y w : Int32} {m23 m24 : Int32} (hs : SH1 z (a.1 66 d) x y (a.1 69 d) m23 m24) (i : Int32) (Q : Int32 → Prop) : P10_elementRefusal (nI d) i a Q = Q (rfS (a.1 66 d) (a.1 69 d) i) := by
  obtain ⟨f1, f2, f3⟩ := dfac hd (by decide)
  unfold P10_elementRefusal P6_isEmpty P6_holdsRow rfS
  simp only [ch6_isShelf, shl_if hd, f2, f3, true_and, if_ab]
  rcases hs with ⟨h1, -⟩ | ⟨h1, -⟩ | ⟨h1, t, n, ht, hn, h2, h3, -⟩
  · simp only [h1, if_true]
  · simp only [h1, if_true, if_neg (show ¬ (1 : Int32) = 0 by decide), if_neg (show ¬ (1 : Int32) = 2 by decide)]
  · rw [ch6_hasPlaces hd hn h1 h3 (zL i)]
    simp only [h1, h3, if_true, if_neg (show ¬ (2 : Int32) = 0 by decide), if_neg (show ¬ (2 : Int32) = 1 by decide), toL, nI_toInt (show n < 2 ^ 31 by omega), Int32.reduceToInt]
    by_cases c : 0 ≤ i.toInt ∧ i.toInt < n
    · rw [if_pos (by omega), if_pos c]
    · rw [if_neg (by omega), if_neg c]
theorem ch11_ref {m : mw_M} {d : Nat} (hd : d < 6) {z a66 x y a69 : Int32} (hs : SH1 z a66 x y a69 (m.1 23 d) (m.1 24 d)) (i : Int32) (Q : Int32 → Prop) : P11_refusal (nI d) i m Q = Q (rfS a66 a69 i) := by
  obtain ⟨f1, f2, f3⟩ := dfac hd (by decide)
  unfold P11_refusal rfS
  simp only [ch11_isShelf, shl_if hd, f2, f3, true_and, if_ab]
  rcases hs with ⟨h1, h2⟩ | ⟨h1, w, hw, -, -, h2⟩ | ⟨h1, t, n, ht, hn, -, h3, h2, h4⟩
  · rw [h1, h2]; simp only [if_true, if_neg (show ¬ (0 : Int32) ≤ -1 by decide)]
  · rw [h1, h2, if_pos (nI_pos' (by omega)), if_neg (show ¬ (50 : Int32) ≤ nI w from nI_ge (a := w) (b := 50) hw (by decide))]
    simp only [if_true, if_neg (show ¬ (1 : Int32) = 0 by decide)]
  · rw [h1, h2, h3, h4, if_pos (nI_pos' (by omega)), if_pos (show (50 : Int32) ≤ nI (50 + t) from nI_le (a := 50) (by omega) (by omega))]
    simp only [if_neg (show ¬ (2 : Int32) = 0 by decide), if_neg (show ¬ (2 : Int32) = 1 by decide), zlt, zle, nI_toInt (show n < 2 ^ 31 by omega), Int32.reduceToInt]
    by_cases c : i.toInt < 0
    · rw [if_pos c, if_neg (by omega)]
    · rw [if_neg c]
      by_cases c2 : (n : Int) ≤ i.toInt
      · rw [if_pos c2, if_neg (by omega)]
      · rw [if_neg c2, if_pos (by omega)]
theorem rfS_0 {z a66 x y a69 m23 m24 i : Int32} (hs : SH1 z a66 x y a69 m23 m24) (h : rfS a66 a69 i = 0) : ∃ t n j : Nat, t < 5 ∧ n ≤ 60 ∧ a66 = 2 ∧ y = nI t ∧ a69 = nI n ∧ m23 = nI (50 + t) ∧ m24 = nI n ∧ j < n ∧ i = nI j := by
  unfold rfS at h
  rcases hs with ⟨h1, h2⟩ | ⟨h1, w, hw, -, -, h2⟩ | ⟨h1, t, n, ht, hn, h5, h3, h2, h4⟩
  · rw [h1, if_pos rfl] at h; exact absurd h (by decide)
  · rw [h1, if_neg (by decide), if_pos rfl] at h; exact absurd h (by decide)
  · subst h3
    rw [h1, if_neg (by decide), if_neg (by decide), nI_toInt (by omega)] at h
    by_cases c : 0 ≤ i.toInt ∧ i.toInt < n
    · obtain ⟨j, hj, rfl⟩ := nI_get c.1
      rw [nI_toInt (by omega)] at c
      exact ⟨t, n, j, ht, hn, h1, h5, rfl, h2, h4, by omega, rfl⟩
    · rw [if_neg c] at h; exact absurd h (by decide)
def lbS (t : Nat) (v : Int64) : Int64 := if t = 0 then v.toInt32.toInt8.toInt32.toInt64 else if t = 1 then v.toInt32.toInt16.toInt32.toInt64 else if t = 2 then v.toInt32.toInt64 else if t = 4 then (if v = 0 then 0 else 1) else v
theorem ch6_lb {t : Nat} (ht : t < 5) (v : Int64) (Q : Int64 → Prop) (h : Q (lbS t v)) : P6_lowestBits (nI t) v Q := by
  unfold P6_lowestBits
  simp only [lgc_eq0]
  rcases (show t = 0 ∨ t = 1 ∨ t = 2 ∨ t = 3 ∨ t = 4 by omega) with rfl | rfl | rfl | rfl | rfl
  · exact ⟨fun _ => h, fun q => absurd q (by decide), fun q => absurd q (by decide), fun q => absurd q (by decide), fun q => absurd rfl q⟩
  · exact ⟨fun q => absurd q (by decide), fun _ => h, fun q => absurd q (by decide), fun q => absurd q (by decide), fun _ q => absurd rfl q⟩
  · exact ⟨fun q => absurd q (by decide), fun q => absurd q (by decide), fun _ => h, fun q => absurd q (by decide), fun _ _ q => absurd rfl q⟩
  · exact ⟨fun q => absurd q (by decide), fun q => absurd q (by decide), fun q => absurd q (by decide), fun q => absurd q (by decide), fun _ _ _ _ => h⟩
  · refine ⟨fun q => absurd q (by decide), fun q => absurd q (by decide), fun q => absurd q (by decide), fun _ => ?_, fun _ _ _ q => absurd rfl q⟩
    simp only [lbS] at h
    refine ⟨fun q => ?_, fun q => ?_⟩
    · simpa [q] using h
    · simpa [q] using h
theorem ch11_as {t : Nat} (ht : t < 5) (v : Int64) (Q : Int64 → Prop) (h : Q (lbS t v)) : P11_asSort (nI t) v Q := by
  unfold P11_asSort
  simp only [lgc_eq0, if_ab]
  rcases (show t = 0 ∨ t = 1 ∨ t = 2 ∨ t = 3 ∨ t = 4 by omega) with rfl | rfl | rfl | rfl | rfl
  · rw [if_pos (by decide)]; exact h
  · rw [if_neg (by decide), if_pos (by decide)]; exact h
  · rw [if_neg (by decide), if_neg (by decide), if_pos (by decide)]; exact h
  · rw [if_neg (by decide), if_neg (by decide), if_neg (by decide), if_neg (by decide)]; exact h
  · rw [if_neg (by decide), if_neg (by decide), if_neg (by decide), if_pos (by decide)]
    simp only [lbS] at h
    by_cases q : v = 0
    · rw [if_pos q]; simpa [q] using h
    · rw [if_neg q]; simpa [q] using h
theorem z60 (d j : Nat) : (60 : Int32) * nI d + nI j = nI (60 * d + j) := by rw [show (60 : Int32) = nI 60 from rfl, pk_mul, nI_add]
theorem lb0 (v : Int64) : -128 ≤ (lbS 0 v).toInt ∧ (lbS 0 v).toInt ≤ 127 := by
  show -128 ≤ (v.toInt32.toInt8.toInt32.toInt64).toInt ∧ (v.toInt32.toInt8.toInt32.toInt64).toInt ≤ 127
  rw [toL, Int8.toInt_toInt32]
  have h1 := v.toInt32.toInt8.le_toInt
  have h2 := v.toInt32.toInt8.toInt_lt
  omega
/-- put -/
theorem op_put {a m : mw_M} (hS : RSh a m) {p1 p2 : Int32} {p3 : Int64} {Q : Int32 → mw_M → Int32 → mw_M → Prop} (hQ : ∀ r u v, FX [71, 72, 73, 74, 75, 76] a u → FM [25] [] m v → RSh u v → Q r u r v) : P10_put p1 p2 p3 a (fun r u => P11_put p1 p2 p3 m (fun r' v => Q r u r' v)) := by
  unfold P10_put P11_put
  by_cases hp : 0 ≤ p1.toInt ∧ p1.toInt ≤ 5
  · obtain ⟨d, hd, rfl⟩ := shl_get hp
    obtain ⟨f1, f2, f3⟩ := dfac hd (by decide)
    have hs := hS.2.1 d hd
    rw [ch10_ref (w := 0) hd hs]
    simp only [ch11_ref hd hs, f2, f3, true_and, forall_eq]
    refine ⟨fun h0 => ?_, fun h0 => ?_⟩
    · obtain ⟨t, n, j, ht, hn, h1, h2, h3, h4, h5, hj, rfl⟩ := rfS_0 hs h0
      obtain ⟨g1, g2, g3⟩ := dfac (N := 60) (d := j) (by omega) (by decide)
      unfold P6_change
      rw [ch6_hasPlaces hd hn h1 h3 (zL _), if_pos (by rw [toL, g1]; simp only [Int32.reduceToInt]; omega)]
      simp only [f2, f3, g2, g3, true_and, forall_eq, h2]
      refine ⟨fun q => absurd q (nI_ge (a := j) (b := 60) (by omega) (by decide)), fun _ => ch6_lb ht _ _ ?_⟩
      refine ⟨fun _ => ?_, fun q => absurd h0 q⟩
      rw [h4, show nI (50 + t) - 50 = nI t from by rw [show (50 : Int32) = nI 50 from rfl, pk_sub (by omega), Nat.add_sub_cancel_left]]
      refine ch11_as ht _ _ ⟨by rw [z60]; exact vp_in_nI (by omega) (by decide), fun _ => ?_, fun q => absurd h0 q⟩
      rw [z60, nI_clamp (by omega)]
      refine hQ _ _ _ (FX.rf.L (by rcases (show d = 0 ∨ d = 1 ∨ d = 2 ∨ d = 3 ∨ d = 4 ∨ d = 5 by omega) with rfl | rfl | rfl | rfl | rfl | rfl <;> decide)) (FM.rf.L (by decide)) ⟨fun d' i hd' hi => ?_, hS.2.1, fun d' hd' h6 h8 i hi => ?_⟩
      · rw [mw_L_get, mw_L_get]
        by_cases c : d' = d ∧ i = j
        · rw [if_pos (by omega), if_pos (by omega)]
        · rw [if_neg (by omega), if_neg (by omega)]
          exact hS.1 d' i hd' hi
      · rw [mw_L_get]
        by_cases c : d' = d ∧ i = j
        · rw [if_pos (by omega)]
          obtain ⟨rfl, rfl⟩ := c
          have t0 : t = 0 := by
            have h8' : a.1 68 d' = 0 := h8
            rw [h2, show (0 : Int32) = nI 0 from rfl, nI_eq (by omega) (by omega)] at h8'
            exact h8'
          subst t0
          exact lb0 p3
        · rw [if_neg (by omega)]
          exact hS.2.2 d' hd' h6 h8 i hi
    · refine ⟨fun q => absurd q h0, fun _ => ⟨fun q => absurd q h0, fun _ => hQ _ _ _ FX.rf FM.rf hS⟩⟩
  · unfold P10_elementRefusal P11_refusal
    simp only [ch6_isShelf, ch11_isShelf, if_neg hp]
    refine ⟨fun q => absurd q (by decide), fun _ => ⟨fun q => absurd q (by decide), fun _ => ⟨fun q => absurd q (by decide), fun _ => hQ _ _ _ FX.rf FM.rf hS⟩⟩⟩
/-- element -/
theorem op_element {a m : mw_M} (hS : RSh a m) {p1 p2 : Int32} {Q : Int64 → Int64 → Prop} (hQ : ∀ r, Q r r) : P10_element p1 p2 a (fun r => P11_element p1 p2 m (fun r' => Q r r')) := by
  unfold P10_element P11_element
  by_cases hp : 0 ≤ p1.toInt ∧ p1.toInt ≤ 5
  · obtain ⟨d, hd, rfl⟩ := shl_get hp
    obtain ⟨f1, f2, f3⟩ := dfac hd (by decide)
    have hs := hS.2.1 d hd
    rw [ch10_ref (w := 0) hd hs]
    simp only [ch11_ref hd hs]
    refine ⟨fun h0 => ?_, fun h0 => ⟨fun q => absurd q h0, fun _ => hQ _⟩⟩
    obtain ⟨t, n, j, ht, hn, h1, h2, h3, h4, h5, hj, rfl⟩ := rfS_0 hs h0
    obtain ⟨g1, g2, g3⟩ := dfac (N := 60) (d := j) (by omega) (by decide)
    unfold P6_valueAt
    rw [ch6_hasPlaces hd hn h1 h3 (zL _), if_pos (by rw [toL, g1]; simp only [Int32.reduceToInt]; omega)]
    simp only [f2, f3, g2, g3, true_and]
    refine ⟨fun q => absurd q (nI_ge (a := j) (b := 60) (by omega) (by decide)), fun _ => ⟨fun _ => ⟨by rw [z60]; exact vp_in_nI (by omega) (by decide), ?_⟩, fun q => absurd h0 q⟩⟩
    rw [z60, nI_clamp (by omega), hS.1 d j hd (by omega)]
    exact hQ _
  · unfold P10_elementRefusal P11_refusal
    simp only [ch6_isShelf, ch11_isShelf, if_neg hp]
    refine ⟨fun q => absurd q (by decide), fun _ => ⟨fun q => absurd q (by decide), fun _ => hQ _⟩⟩

def mw_w (u : mw_M) (c lo hi : Nat) (g : Nat → Int64) : mw_M := (u.1, fun c' j => if c' = c ∧ lo ≤ j ∧ j < hi then g j else u.2 c' j)
theorem mw_w_0 (u : mw_M) (c lo : Nat) (g : Nat → Int64) : mw_w u c lo lo g = u := by
  refine Prod.ext rfl (funext fun c' => funext fun j => ?_)
  exact if_neg (fun h => by omega)
theorem mw_w_s {u : mw_M} {c lo i : Nat} {g : Nat → Int64} (h : lo ≤ i) : mw_L (mw_w u c lo i g) c i (g i) = mw_w u c lo (i + 1) g := by
  refine Prod.ext rfl (funext fun c' => funext fun j => ?_)
  show (if c' = c ∧ j = i then g i else if c' = c ∧ lo ≤ j ∧ j < i then g j else u.2 c' j) = if c' = c ∧ lo ≤ j ∧ j < i + 1 then g j else u.2 c' j
  by_cases h1 : c' = c
  · by_cases h2 : j = i
    · subst h2; rw [if_pos ⟨h1, rfl⟩, if_pos ⟨h1, by omega, by omega⟩]
    · rw [if_neg (fun q => h2 q.2)]
      by_cases q : lo ≤ j ∧ j < i
      · rw [if_pos ⟨h1, q.1, q.2⟩, if_pos ⟨h1, q.1, by omega⟩]
      · rw [if_neg (fun z => q z.2), if_neg (fun z => q ⟨z.2.1, by have := z.2.2; omega⟩)]
  · rw [if_neg (fun q => h1 q.1), if_neg (fun q => h1 q.1), if_neg (fun q => h1 q.1)]
theorem mw_w_ne {u : mw_M} {c lo hi c' j : Nat} {g : Nat → Int64} (h : c' ≠ c) : (mw_w u c lo hi g).2 c' j = u.2 c' j := by
  show (if c' = c ∧ lo ≤ j ∧ j < hi then g j else u.2 c' j) = _
  rw [if_neg (fun q => h q.1)]
theorem l11_shift1 {d e p q n : Nat} (hd : d < 6) (hp : p + n ≤ 60) {Q : Int32 → mw_M → Prop} {K : Int32 → mw_M → Prop} {u : mw_M} (hK : K (nI n) (mw_w u 26 0 n (fun j => u.2 25 (60 * d + p + j)))) : ∀ k i, i + k = n → L11_shift_113 (nI d) (nI p) (nI e) (nI q) (nI n) Q K (k + 1) (nI i) (mw_w u 26 0 i (fun j => u.2 25 (60 * d + p + j))) := by
  intro k
  induction k with
  | zero =>
    intro i hi
    have e : i = n := by omega
    subst e
    unfold L11_shift_113
    exact ⟨fun _ => hK, fun h => absurd (nI_le (Nat.le_refl _) (by omega)) h⟩
  | succ k ih =>
    intro i hi
    unfold L11_shift_113
    rw [z60, nI_add]
    refine ⟨fun h => absurd h (nI_ge (by omega) (by omega)), fun _ => ⟨vp_in_nI (by omega) (by decide), vp_in_nI (by omega) (by decide), fun x hx y hy => ?_⟩⟩
    subst hx; subst hy
    rw [nI_clamp (by omega), nI_clamp (by omega), mw_w_ne (c' := 25) (c := 26) (by decide), mw_w_s (g := fun j => u.2 25 (60 * d + p + j)) (Nat.zero_le _), nI_1]
    exact ih (i + 1) (by omega)
theorem l11_shift2 {d e p q n : Nat} (he : e < 6) (hq : q + n ≤ 60) {Q : Int32 → mw_M → Prop} {u : mw_M} (hQ : Q (nI n) (mw_w u 25 (60 * e + q) (60 * e + q + n) (fun j => u.2 26 (j - (60 * e + q))))) : ∀ k i, i + k = n → L11_shift_150 (nI d) (nI p) (nI e) (nI q) (nI n) Q (k + 1) (nI i) (mw_w u 25 (60 * e + q) (60 * e + q + i) (fun j => u.2 26 (j - (60 * e + q)))) := by
  intro k
  induction k with
  | zero =>
    intro i hi
    have e : i = n := by omega
    subst e
    unfold L11_shift_150
    exact ⟨fun _ => hQ, fun h => absurd (nI_le (Nat.le_refl _) (by omega)) h⟩
  | succ k ih =>
    intro i hi
    unfold L11_shift_150
    rw [z60, nI_add]
    refine ⟨fun h => absurd h (nI_ge (by omega) (by omega)), fun _ => ⟨vp_in_nI (by omega) (by decide), vp_in_nI (by omega) (by decide), fun x hx y hy => ?_⟩⟩
    subst hx; subst hy
    rw [nI_clamp (by omega), nI_clamp (by omega), mw_w_ne (c' := 26) (c := 25) (by decide), show u.2 26 i = u.2 26 (60 * e + q + i - (60 * e + q)) by rw [Nat.add_sub_cancel_left], mw_w_s (g := fun j => u.2 26 (j - (60 * e + q))) (by omega), nI_1]
    exact ih (i + 1) (by omega)
theorem fx71 {d : Nat} (hd : d < 6) : 71 + d ∈ [71, 72, 73, 74, 75, 76] := by
  rcases (show d = 0 ∨ d = 1 ∨ d = 2 ∨ d = 3 ∨ d = 4 ∨ d = 5 by omega) with rfl | rfl | rfl | rfl | rfl | rfl <;> decide
/-- shift -/
theorem op_shift {a m : mw_M} (hS : RSh a m) {p1 p2 p3 p4 p5 : Int32} {Q : Int32 → mw_M → Int32 → mw_M → Prop} (hQ : ∀ r u v, FX [71, 72, 73, 74, 75, 76] a u → FM [25, 26] [] m v → RSh u v → Q r u r v) : P10_shift p1 p2 p3 p4 p5 a (fun r u => P11_shift p1 p2 p3 p4 p5 m (fun r' v => Q r u r' v)) := by
  have same : ∀ r, Q r a r m := fun r => hQ _ _ _ FX.rf FM.rf hS
  unfold P10_shift P11_shift
  simp only [ch6_isShelf, ch11_isShelf]
  by_cases hp : 0 ≤ p1.toInt ∧ p1.toInt ≤ 5
  · simp only [if_pos hp]
    by_cases hr : 0 ≤ p3.toInt ∧ p3.toInt ≤ 5
    · simp only [if_pos hr]
      obtain ⟨d, hd, rfl⟩ := shl_get hp
      obtain ⟨e, he, rfl⟩ := shl_get hr
      obtain ⟨f1, f2, f3⟩ := dfac hd (by decide)
      obtain ⟨g1, g2, g3⟩ := dfac he (by decide)
      unfold P6_isEmpty P6_holdsRowOf P6_holdsRow P6_sortOf P6_copy
      simp only [ch6_isShelf, shl_if hd, shl_if he, f2, f3, g2, g3, true_and, forall_eq, if_ab]
      rcases hS.2.1 d hd with ⟨h1, h2⟩ | ⟨h1, w, hw, -, -, h2⟩ | ⟨h1, t, n, ht, hn, h5, h3, h2, h4⟩
      · simp only [h1, h2, if_true, if_pos (show (-1 : Int32) < 0 by decide)]
        exact same _
      · rw [h1, if_neg (by decide)]
        simp only [h2, if_neg (nI_pos (show w < 2 ^ 31 by omega)), if_pos (show nI w < 50 from nI_lt (b := 50) hw (by decide))]
        rcases hS.2.1 e he with ⟨k1, k2⟩ | ⟨k1, w', hw', -, -, k2⟩ | ⟨k1, t', n', ht', hn', k5, k3, k2, k4⟩
        · simp only [k1, k2, if_true, if_neg (show ¬ (0 : Int32) ≤ -1 by decide)]
          exact same _
        · simp only [k1, k2, if_neg (show ¬ (1 : Int32) = 0 by decide), if_pos (nI_pos' (show w' < 2 ^ 31 by omega)), if_neg (show ¬ (1 : Int32) = 2 by decide)]
          exact same _
        · simp only [k1, k2, if_neg (show ¬ (2 : Int32) = 0 by decide), if_pos (nI_pos' (show 50 + t' < 2 ^ 31 by omega)), if_neg (show ¬ (1 : Int32) = 2 by decide)]
          exact same _
      · rw [h1, if_neg (by decide)]
        have c50 : ¬ nI (50 + t) < (50 : Int32) := nI_nlt (b := 50) (by omega) (by omega)
        simp only [h2, if_neg (nI_pos (show 50 + t < 2 ^ 31 by omega)), if_neg c50]
        rcases hS.2.1 e he with ⟨k1, k2⟩ | ⟨k1, w', hw', -, -, k2⟩ | ⟨k1, t', n', ht', hn', k5, k3, k2, k4⟩
        · simp only [k1, k2, if_true, if_neg (show ¬ (0 : Int32) ≤ -1 by decide)]
          exact same _
        · have c : ¬ nI (50 + t) = nI w' := fun q => by rw [nI_eq (by omega) (by omega)] at q; omega
          simp only [k1, k2, if_true, if_neg (show ¬ (1 : Int32) = 0 by decide), if_pos (nI_pos' (show w' < 2 ^ 31 by omega)), if_neg (show ¬ (1 : Int32) = 2 by decide), if_neg c]
          exact same _
        · by_cases htt : t' = t
          · subst htt
            simp only [k1, k2, if_true, if_neg (show ¬ (2 : Int32) = 0 by decide), if_pos (nI_pos' (show 50 + t' < 2 ^ 31 by omega)), h5, k5]
            by_cases c5 : p5 < 0
            · simp only [if_pos c5]
              exact same _
            · simp only [if_neg c5, ch6_hasPlaces hd hn h1 h3 (zL _), ch6_hasPlaces he hn' k1 k3 (zL _), toL]
              have z5 := c5
              rw [zlt] at z5
              simp only [Int32.reduceToInt] at z5
              have y5 := zhi p5
              have e1 : (nI n - p5).toInt = n - p5.toInt := by rw [Int32.toInt_sub, nI_toInt (by omega)]; exact bmE (by omega) (by omega)
              have e2 : (nI n' - p5).toInt = n' - p5.toInt := by rw [Int32.toInt_sub, nI_toInt (by omega)]; exact bmE (by omega) (by omega)
              simp only [h4, k4, zlt, zle, e1, e2, Int32.reduceToInt]
              by_cases c1 : 0 ≤ p2.toInt ∧ 0 ≤ p5.toInt ∧ p2.toInt + p5.toInt ≤ n
              · by_cases c2 : 0 ≤ p4.toInt ∧ 0 ≤ p5.toInt ∧ p4.toInt + p5.toInt ≤ n'
                · rw [if_pos c1, if_pos c2, if_pos c1, if_pos c2]
                  obtain ⟨i, hi, rfl⟩ := nI_get c1.1
                  obtain ⟨j, hj, rfl⟩ := nI_get c2.1
                  obtain ⟨k, hk, rfl⟩ := nI_get c1.2.1
                  rw [nI_toInt (by omega), nI_toInt (by omega)] at c1 c2
                  simp only [nI_toInt (show i < 2 ^ 31 by omega), nI_toInt (show j < 2 ^ 31 by omega), nI_toInt (show k < 2 ^ 31 by omega)]
                  simp only [nI_clamp (show i < 2 ^ 31 by omega), nI_clamp (show j < 2 ^ 31 by omega), nI_clamp (show k < 2 ^ 31 by omega)]
                  refine ⟨⟨by omega, by omega, by omega, by omega, by omega⟩, ?_⟩
                  rw [if_neg (by omega), if_neg (by omega), if_neg (by omega), if_pos (by omega)]
                  refine ⟨k + 1, ?_⟩
                  have hl := l11_shift1 (d := d) (e := e) (p := i) (q := j) (n := k) hd (by omega) (Q := fun r' v => Q (nI k) (mw_cpy a (71 + d) (71 + e) i j k) r' v) (K := fun v21 μ22 => ∃ n31, L11_shift_150 (nI d) (nI i) (nI e) (nI j) (nI k) (fun r' v => Q (nI k) (mw_cpy a (71 + d) (71 + e) i j k) r' v) n31 0 μ22) (u := m) ?_ k 0 (Nat.zero_add _)
                  · rw [mw_w_0] at hl; exact hl
                  · refine ⟨k + 1, ?_⟩
                    have hl := l11_shift2 (d := d) (e := e) (p := i) (q := j) (n := k) he (by omega) (Q := fun r' v => Q (nI k) (mw_cpy a (71 + d) (71 + e) i j k) r' v) (u := mw_w m 26 0 k (fun j => m.2 25 (60 * d + i + j))) ?_ k 0 (Nat.zero_add _)
                    · simp only [Nat.add_zero, mw_w_0] at hl; exact hl
                    · refine hQ _ _ _ ?_ ?_ ⟨fun d' x hd' hx => ?_, hS.2.1, fun d' hd' h6 h8 x hx => ?_⟩
                      · refine fun c hc => ⟨rfl, if_neg (fun q => hc (by rw [q]; exact fx71 he))⟩
                      · refine ⟨fun c hc h0 => ⟨rfl, funext fun x => ?_⟩, fun _ _ => rfl⟩
                        show (if c = 25 ∧ _ ∧ _ then _ else if c = 26 ∧ _ ∧ _ then _ else m.2 c x) = _
                        rw [if_neg (fun q => hc (by rw [q.1]; decide)), if_neg (fun q => hc (by rw [q.1]; decide))]
                      · show (if 71 + d' = 71 + e then va_cpy (a.2 (71 + d)) (a.2 (71 + e)) i j k else a.2 (71 + d')) x = if 25 = 25 ∧ 60 * e + j ≤ 60 * d' + x ∧ 60 * d' + x < 60 * e + j + k then (if 26 = 26 ∧ 0 ≤ 60 * d' + x - (60 * e + j) ∧ 60 * d' + x - (60 * e + j) < k then m.2 25 (60 * d + i + (60 * d' + x - (60 * e + j))) else m.2 26 (60 * d' + x - (60 * e + j))) else if 25 = 26 ∧ 0 ≤ 60 * d' + x ∧ 60 * d' + x < k then m.2 25 (60 * d + i + (60 * d' + x)) else m.2 25 (60 * d' + x)
                        by_cases hde : d' = e
                        · subst hde
                          rw [if_pos rfl]
                          unfold va_cpy
                          by_cases hx2 : j ≤ x ∧ x < j + k
                          · rw [if_pos hx2, if_pos (by omega), if_pos (by omega), hS.1 d (i + (x - j)) hd (by omega)]
                            rw [show 60 * d + (i + (x - j)) = 60 * d + i + (60 * d' + x - (60 * d' + j)) by omega]
                          · rw [if_neg hx2, if_neg (by omega), if_neg (by omega)]
                            exact hS.1 d' x hd' hx
                        · rw [if_neg (by omega), if_neg (by omega), if_neg (by omega)]
                          exact hS.1 d' x hd' hx
                      · show -128 ≤ ((if 71 + d' = 71 + e then va_cpy (a.2 (71 + d)) (a.2 (71 + e)) i j k else a.2 (71 + d')) x).toInt ∧ ((if 71 + d' = 71 + e then va_cpy (a.2 (71 + d)) (a.2 (71 + e)) i j k else a.2 (71 + d')) x).toInt ≤ 127
                        by_cases hde : d' = e
                        · subst hde
                          rw [if_pos rfl]
                          unfold va_cpy
                          by_cases hx2 : j ≤ x ∧ x < j + k
                          · rw [if_pos hx2]
                            exact hS.2.2 d hd h1 (h5.trans (k5.symm.trans h8)) _ (by omega)
                          · rw [if_neg hx2]
                            exact hS.2.2 d' hd' h6 h8 x hx
                        · rw [if_neg (by omega)]
                          exact hS.2.2 d' hd' h6 h8 x hx
                · rw [if_pos c1, if_neg c2, if_neg (by omega)]
                  by_cases q4 : p4.toInt < 0
                  · rw [if_pos q4]; exact same _
                  · rw [if_neg q4, if_neg (by omega), if_neg (by omega)]; exact same _
              · rw [if_neg c1]
                by_cases q2 : p2.toInt < 0
                · rw [if_pos q2]; exact same _
                · rw [if_neg q2]
                  by_cases q4 : p4.toInt < 0
                  · rw [if_pos q4]; exact same _
                  · rw [if_neg q4, if_pos (by omega)]; exact same _
          · have c : ¬ nI (50 + t) = nI (50 + t') := fun q => by rw [nI_eq (by omega) (by omega)] at q; omega
            have c' : ¬ a.1 68 e = nI t := fun q => by rw [k5, nI_eq (by omega) (by omega)] at q; omega
            simp only [k1, k2, h5, if_true, if_neg (show ¬ (2 : Int32) = 0 by decide), if_pos (nI_pos' (show 50 + t' < 2 ^ 31 by omega)), if_neg c, if_neg c']
            exact same _
    · simp only [if_neg hr]
      exact same _
  · simp only [if_neg hp]
    exact same _
/-- kinds -/
def abS : Nat → Nat
  | 3 => 2
  | 5 => 1
  | 6 => 4
  | _ => 0
def undS : Nat → Nat → Nat → Bool
  | 0, _, _ => false
  | n + 1, k, q => if k = q then true else if k = 0 then false else undS n (abS k) q
theorem abS_lt : ∀ k, k < 8 → 0 < k → abS k < k := by decide
theorem sv2 : ∀ k, k < 8 → 0 < k → mw_sv 2 k = nI (abS k) := by decide
theorem ch0_isKind (p : Int32) (QT QF : Prop) : P0_isKind p QT QF = if 0 ≤ p.toInt ∧ p.toInt ≤ 7 then QT else QF := by
  unfold P0_isKind
  rw [if_ab, if_ab]
  simp only [zlt, zle, Int32.reduceToInt]
  by_cases h1 : p.toInt < 0
  · rw [if_pos h1, if_neg (by omega)]
  · rw [if_neg h1]
    by_cases h2 : 8 ≤ p.toInt
    · rw [if_pos h2, if_neg (by omega)]
    · rw [if_neg h2, if_pos (by omega)]
theorem x_und {p1 : Int32} {q : Nat} (hq : q < 8) {QT QF : Prop} : ∀ n k v, k < n → k < 8 → v + k ≤ 7 → (if undS n k q = true then QT else QF) → L0_isUnder_4 p1 (nI q) QT QF (n + 1) (nI v) (nI k) := by
  intro n
  induction n with
  | zero => intro k v h; omega
  | succ n ih =>
    intro k v hk h8 hv h
    unfold L0_isUnder_4
    refine ⟨fun c => absurd c (nI_ge (a := v) (b := 8) (by omega) (by decide)), fun _ => ?_⟩
    rw [ch0_isKind, if_pos (by rw [nI_toInt (by omega)]; omega), if_ab]
    by_cases hkq : k = q
    · rw [if_pos (by rw [hkq])]
      simp only [undS, if_pos hkq] at h
      exact h
    · rw [if_neg (fun e => hkq ((nI_eq (by omega) (by omega)).mp e))]
      refine ⟨vp_in_nI h8 (by decide), fun x hx y hy => ?_⟩
      subst hx; subst hy
      rw [nI_clamp (by omega), nI_1]
      simp only [undS, if_neg hkq] at h
      by_cases hk0 : k = 0
      · subst hk0
        simp only [if_true] at h
        rw [show mw_sv 2 0 = -1 from rfl]
        unfold L0_isUnder_4
        refine ⟨fun _ => h, fun _ => ?_⟩
        rw [ch0_isKind, if_neg (by decide)]
        exact h
      · rw [if_neg hk0] at h
        have hl := abS_lt k h8 (by omega)
        rw [sv2 k h8 (by omega)]
        exact ih (abS k) (v + 1) (by omega) (by omega) (by omega) h
theorem m_und {p1 : Int32} {q : Nat} (hq : q < 8) {m : mw_M} {Q : Int32 → Prop} {K : Int32 → Prop} : ∀ n k, k < n → k < 8 → (if undS n k q = true then K (nI q) else ∀ j : Nat, j < 8 → j ≠ q → K (nI j)) → L11_taken_58 p1 (nI q) m Q K n (nI k) := by
  intro n
  induction n with
  | zero => intro k h; omega
  | succ n ih =>
    intro k hk h8 h
    unfold L11_taken_58
    rw [if_ab, if_ab]
    by_cases hkq : k = q
    · rw [if_pos (by rw [hkq])]
      simp only [undS, if_pos hkq] at h
      rw [hkq]
      exact h
    · rw [if_neg (fun e => hkq ((nI_eq (by omega) (by omega)).mp e))]
      simp only [undS, if_neg hkq] at h
      by_cases hk0 : k = 0
      · subst hk0
        rw [if_pos (by decide)]
        exact h 0 (by decide) hkq
      · rw [if_neg (nI_nle (by omega) (by omega))]
        rw [if_neg hk0] at h
        have hl := abS_lt k h8 (by omega)
        have hr := ih (abS k) (by omega) (by omega) h
        unfold P11_above
        rw [if_ab, if_ab, if_ab]
        rcases (show k = 1 ∨ k = 2 ∨ k = 3 ∨ k = 4 ∨ k = 5 ∨ k = 6 ∨ k = 7 by omega) with rfl | rfl | rfl | rfl | rfl | rfl | rfl
        · exact hr
        · exact hr
        · exact hr
        · exact hr
        · exact hr
        · exact hr
        · exact hr
/-- taken -/
theorem op_taken {a m : mw_M} (hS : RSh a m) (hA : RActs a m) {p1 p2 : Int32} {Q : Int32 → Int32 → Prop} (hQ : ∀ r, Q r r) : P10_taken p1 p2 a (fun r => P11_taken p1 p2 m (fun r' => Q r r')) := by
  unfold P10_taken P11_taken
  simp only [ch6_isShelf, ch11_isShelf, ch0_isKind, show ∀ QT QF, P11_within p2.toInt64 0 7 QT QF = if 0 ≤ p2.toInt ∧ p2.toInt ≤ 7 then QT else QF from fun QT QF => by rw [ch_within, toL]; rfl]
  by_cases hp : 0 ≤ p1.toInt ∧ p1.toInt ≤ 5
  · simp only [if_pos hp]
    by_cases hk : 0 ≤ p2.toInt ∧ p2.toInt ≤ 7
    · simp only [if_pos hk]
      obtain ⟨d, hd, rfl⟩ := shl_get hp
      obtain ⟨q, hq, rfl⟩ := nI_get hk.1
      rw [nI_toInt (by omega)] at hk
      obtain ⟨f1, f2, f3⟩ := dfac hd (by decide)
      obtain ⟨n, r, kk, tt, hn, hr, e1, e2, -, -, hk8, -⟩ := hA
      unfold P6_isEmpty P6_holdsRow P6_loadOn P0_kindOf P11_kindOf
      simp only [ch6_isShelf, shl_if hd, f2, f3, true_and, if_ab]
      rcases hS.2.1 d hd with ⟨h1, h2⟩ | ⟨h1, w, hw, hwn, h3, h2⟩ | ⟨h1, t, n', ht, hn', h5, h3, h2, h4⟩
      · simp only [h1, h2, if_true, if_neg (show ¬ (0 : Int32) ≤ -1 by decide)]
        exact hQ _
      · rw [e1, nI_ltI (by omega) (by omega)] at hwn
        obtain ⟨k1, k2, k3⟩ := hk8 w hwn
        obtain ⟨w1, w2, w3⟩ := dfac (N := 50) (d := w) (by omega) (by decide)
        simp only [h1, h2, h3, if_neg (show ¬ (1 : Int32) = 0 by decide), if_neg (show ¬ (1 : Int32) = 2 by decide), if_true, if_pos (nI_pos' (show w < 2 ^ 31 by omega)), if_pos (show nI w < 50 from nI_lt (b := 50) hw (by decide)), ch0_hasLoad hn e1, w1, w2, w3, true_and, if_pos (show (0 : Int) ≤ (w : Int) ∧ (w : Int) < n by omega), k1, k2]
        refine ⟨9, x_und (by omega) 8 (kk w) 0 (by omega) k3 (by omega) ?_⟩
        have hm := m_und (p1 := nI d) (q := q) (by omega) (m := m) (Q := fun r' => Q (if undS 8 (kk w) q = true then nI (kk w) else -12) r') (K := fun v12 => if v12 = nI q then Q (if undS 8 (kk w) q = true then nI (kk w) else -12) (nI (kk w)) else Q (if undS 8 (kk w) q = true then nI (kk w) else -12) (-12)) 8 (kk w) (by omega) k3
        by_cases hu : undS 8 (kk w) q = true
        · rw [if_pos hu]
          refine ⟨8, ?_⟩
          simp only [if_pos hu] at hm
          exact hm (by rw [if_pos trivial]; exact hQ _)
        · rw [if_neg hu]
          refine ⟨8, ?_⟩
          simp only [if_neg hu] at hm
          exact hm (fun j hj hjq => by rw [if_neg (fun e => hjq ((nI_eq (by omega) (by omega)).mp e))]; exact hQ _)
      · have c50 : ¬ nI (50 + t) < (50 : Int32) := nI_nlt (b := 50) (by omega) (by omega)
        simp only [h1, h2, if_neg (show ¬ (2 : Int32) = 0 by decide), if_true, if_pos (nI_pos' (show 50 + t < 2 ^ 31 by omega)), if_neg c50]
        exact hQ _
    · simp only [if_neg hk]
      exact hQ _
  · simp only [if_neg hp]
    exact hQ _
