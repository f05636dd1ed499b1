/-! a walk begun -/
def iniW (seed : Int32) (f : Nat → Nat → Nat) (l : Int32) : WK := (fun k => if k = 0 then seed else if k = 8 then -2 else 0, f, fun _ => l)
/-- the walk object at b holds the pure state at the start of tick t -/
def XR (b : Nat) (u : mw_M) (st : WK) (n c0 t : Nat) : Prop := XL (b + 1) u n st.2.1 c0 ∧ (u.1 b 4 = st.1 0 ∧ u.1 b 5 = st.1 1 ∧ u.1 b 6 = st.1 2 ∧ u.1 b 13 = st.1 3 ∧ u.1 b 8 = st.1 4 ∧ u.1 b 9 = st.1 5 ∧ u.1 b 10 = st.1 6 ∧ u.1 b 11 = st.1 7 ∧ u.1 b 14 = st.1 8 ∧ u.1 b 15 = st.1 9) ∧ u.1 b 12 = nI t ∧ u.1 b 7 = st.2.2 0 ∧ ∀ j, j < t → u.1 (b + 7 + 1) j = st.2.2 (j + 1)
theorem s9_begin {b : Nat} (h32 : 32 ≤ b) {a : mw_M} {n c : Nat} {f : Nat → Nat → Nat} (hL : LOK n f c) (hX : XL 1 a n f c) {seed : Int32} {Q : mw_M → Prop} (hQ : ∀ u, FX [b, b + 1, b + 2, b + 3, b + 4, b + 5] a u → XR b u (iniW seed f (lopN n f c)) n c 0 → Q u) : P9_begin b 1 seed a Q := by
  unfold P9_begin
  refine s2_lieAs (show 32 ≤ b + 1 by omega) hL.1 hX (fun u hu _ hx => ?_)
  refine s2_lopsided hL hx ?_
  simp only [forall_eq]
  refine hQ _ ?_ ⟨?_, ?_, ?_, ?_, fun j hj => absurd hj (Nat.not_lt_zero _)⟩
  · refine FX.tr (hu.mono (fun k hk => ?_)) ((((((((((((FX.rf.I ?_).I ?_).I ?_).I ?_).I ?_).I ?_).I ?_).I ?_).I ?_).I ?_).I ?_).I ?_)
    · simp at hk ⊢; omega
    all_goals simp
  · refine xl_rows hx (fun k h1 h2 => ?_)
    simp only [mw_I_row (show k ≠ b by omega)]
  · refine ⟨?_, ?_, ?_, ?_, ?_, ?_, ?_, ?_, ?_, ?_⟩
    all_goals
      simp (config := { decide := true }) only [mw_I_get, true_and, if_true, if_false, iniW]
  · simp (config := { decide := true }) only [mw_I_get, true_and, if_true, if_false]
  · simp (config := { decide := true }) only [mw_I_get, true_and, if_true, if_false, iniW]
