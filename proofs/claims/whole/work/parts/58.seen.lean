/-! what a rule sees, on both sides -/
theorem two1 (no : Nat) : (2 : Int32) * nI no + 1 = nI (2 * no + 1) := by
  rw [show (2 : Int32) * nI no = nI (2 * no) from pk_mul 2 no]
  exact nI_add (2 * no) 1
theorem nI_n0 {k : Nat} (h : k < 2147483647) : ¬ nI (k + 1) = 0 := fun z => absurd ((nI_eq (b := 0) (by omega) (by decide)).1 z) (by omega)
theorem s9_seenAt {b : Nat} {a : mw_M} {de no t : Nat} {h : Nat → Int32} (h2 : a.1 11 2 = nI de) (h3 : a.1 11 3 = nI no) (hde : de ≤ 9) (hno : no ≤ 50) (ht : t < 200) (h7 : a.1 b 7 = h 0) (hr : ∀ j, j < t → a.1 (b + 7 + 1) j = h (j + 1)) {Q : Int32 → Prop} (hQ : Q (seenN de no h (a.1 b 4) t)) : P9_seenAt b (nI t) a Q := by
  unfold P9_seenAt
  intro x1 e1
  rw [h2] at e1
  simp only [h3, h7, two1, forall_eq]
  rw [drew (by omega) (by omega)]
  unfold seenN at hQ
  have n0 := nI_n0 (k := 2 * no) (by omega)
  have et : x1.toInt = (t : Int) - 1 - de := by
    rw [e1, Int32.toInt_sub, Int32.toInt_sub, nI_toInt (by omega), nI_toInt (by omega), show (1 : Int32).toInt = 1 from rfl]
    rw [bmE (n := (t : Int) - 1) (by omega) (by omega)]
    exact bmE (by omega) (by omega)
  by_cases c : t ≤ de
  · rw [show t - de = 0 by omega] at hQ
    refine ⟨fun _ => ⟨n0, hQ⟩, fun z => absurd ?_ z⟩
    rw [zlt, et]
    simp only [Int32.reduceToInt]
    omega
  · have ex : x1 = nI (t - de - 1) := nI_of_toInt (by rw [et]; omega)
    rw [ex, nI_clamp (by omega), hr _ (by omega), show t - de - 1 + 1 = t - de by omega]
    refine ⟨fun z => absurd z (nI_nlt (b := 0) (by omega) (by omega)), fun _ => ⟨fun z => absurd z ?_, fun _ => ⟨vp_in_nI (by omega) (by decide), n0, hQ⟩⟩⟩
    rw [zle, nI_toInt (by omega)]
    simp only [Int32.reduceToInt]
    omega
theorem s11_seenAt {m : mw_M} {de no t : Nat} {h : Nat → Int32} (h2 : m.1 6 2 = nI de) (h3 : m.1 6 3 = nI no) (hde : de ≤ 9) (hno : no ≤ 50) (ht : t < 200) (hr : ∀ j, j ≤ t → m.1 15 j = h j) {Q : Int32 → mw_M → Prop} (hQ : Q (seenN de no h (dz (m.1 0 25)) t) (mw_I m 0 25 (dz (m.1 0 25)))) : P11_seenAt (nI t) m Q := by
  unfold P11_seenAt P11_drawn
  intro x1 e1
  rw [h2] at e1
  simp only [h3, two1, forall_eq]
  have z25 : (mw_I m 0 25 (m.1 0 25 * 1103515245 + 12345)).1 0 25 = dz (m.1 0 25) := mw_I_eq
  have z63 : (mw_I m 0 25 (m.1 0 25 * 1103515245 + 12345)).1 6 3 = nI no := by rw [mw_I_ne (by decide)]; exact h3
  rw [z25, z63, drew (by omega) (by omega)]
  unfold seenN at hQ
  have n0 := nI_n0 (k := 2 * no) (by omega)
  have et : x1.toInt = (t : Int) - de := by
    rw [e1, Int32.toInt_sub, nI_toInt (by omega), nI_toInt (by omega)]
    exact bmE (by omega) (by omega)
  by_cases c : de ≤ t
  · have ex : x1 = nI (t - de) := nI_of_toInt (by rw [et]; omega)
    rw [ex, nI_clamp (by omega), hr _ (by omega)]
    exact ⟨fun _ => ⟨vp_in_nI (by omega) (by decide), n0, hQ⟩, fun z => absurd (nI_le (a := 0) (by omega) (by omega)) z⟩
  · rw [show t - de = 0 by omega] at hQ
    rw [hr 0 (by omega)]
    refine ⟨fun z => absurd z ?_, fun _ => ⟨n0, hQ⟩⟩
    rw [zle, et]
    simp only [Int32.reduceToInt]
    omega
