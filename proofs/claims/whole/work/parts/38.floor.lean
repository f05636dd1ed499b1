/-! the machine told: set, floor -/
theorem s5_tell {j : Nat} (hj : j < 5) {x : Int32} {a : mw_M} {Q : Int32 → mw_M → Prop} (hQ : Q (a.1 11 j) (mw_I a 11 j x)) : P5_tell (nI j) x a Q := by
  rcases (show j = 0 ∨ j = 1 ∨ j = 2 ∨ j = 3 ∨ j = 4 by omega) with rfl | rfl | rfl | rfl | rfl
  · show P5_tell 0 x a Q
    unfold P5_tell P5_told
    simp (config := { decide := true }) only [forall_eq, false_imp_iff, true_imp_iff, and_true, true_and, not_true, not_false_iff]
    exact hQ
  · show P5_tell 1 x a Q
    unfold P5_tell P5_told
    simp (config := { decide := true }) only [forall_eq, false_imp_iff, true_imp_iff, and_true, true_and, not_true, not_false_iff]
    exact hQ
  · show P5_tell 2 x a Q
    unfold P5_tell P5_told
    simp (config := { decide := true }) only [forall_eq, false_imp_iff, true_imp_iff, and_true, true_and, not_true, not_false_iff]
    exact hQ
  · show P5_tell 3 x a Q
    unfold P5_tell P5_told
    simp (config := { decide := true }) only [forall_eq, false_imp_iff, true_imp_iff, and_true, true_and, not_true, not_false_iff]
    exact hQ
  · show P5_tell 4 x a Q
    unfold P5_tell P5_told
    simp (config := { decide := true }) only [forall_eq, false_imp_iff, true_imp_iff, and_true, true_and, not_true, not_false_iff]
    exact hQ
def nuL : Nat → Nat
  | 0 => 100
  | 1 => 1
  | 4 => 1
  | _ => 0
def nuH : Nat → Nat
  | 0 => 900
  | 1 => 9999
  | 2 => 9
  | 3 => 50
  | _ => 9999
theorem if2 (x lo hi : Int) {QT QF : Prop} : (if x < lo then QF else if hi < x then QF else QT) = if lo ≤ x ∧ x ≤ hi then QT else QF := by
  by_cases h : x < lo
  · rw [if_pos h, if_neg (by omega)]
  · rw [if_neg h]
    by_cases h2 : hi < x
    · rw [if_pos h2, if_neg (by omega)]
    · rw [if_neg h2, if_pos (by omega)]
theorem ch5_isTold {j : Nat} (hj : j < 5) (x : Int32) (QT QF : Prop) : P5_isTold (nI j) x QT QF = if (nuL j : Int) ≤ x.toInt ∧ x.toInt ≤ nuH j then QT else QF := by
  rcases (show j = 0 ∨ j = 1 ∨ j = 2 ∨ j = 3 ∨ j = 4 by omega) with rfl | rfl | rfl | rfl | rfl
  · show P5_isTold 0 x QT QF = _
    unfold P5_isTold
    simp (config := { decide := true }) only [false_imp_iff, true_imp_iff, and_true, true_and, not_true, not_false_iff, if_ab, zlt, Int32.reduceToInt]
    exact if2 x.toInt _ _
  · show P5_isTold 1 x QT QF = _
    unfold P5_isTold
    simp (config := { decide := true }) only [false_imp_iff, true_imp_iff, and_true, true_and, not_true, not_false_iff, if_ab, zlt, Int32.reduceToInt]
    exact if2 x.toInt _ _
  · show P5_isTold 2 x QT QF = _
    unfold P5_isTold
    simp (config := { decide := true }) only [false_imp_iff, true_imp_iff, and_true, true_and, not_true, not_false_iff, if_ab, zlt, Int32.reduceToInt]
    exact if2 x.toInt _ _
  · show P5_isTold 3 x QT QF = _
    unfold P5_isTold
    simp (config := { decide := true }) only [false_imp_iff, true_imp_iff, and_true, true_and, not_true, not_false_iff, if_ab, zlt, Int32.reduceToInt]
    exact if2 x.toInt _ _
  · show P5_isTold 4 x QT QF = _
    unfold P5_isTold
    simp (config := { decide := true }) only [false_imp_iff, true_imp_iff, and_true, true_and, not_true, not_false_iff, if_ab, zlt, Int32.reduceToInt]
    exact if2 x.toInt _ _
theorem s11_set {j : Nat} (hj : j < 5) {x : Int32} {m : mw_M} {Q : Int32 → mw_M → Prop} (hQ : (nuL j : Int) ≤ x.toInt ∧ x.toInt ≤ nuH j → Q (m.1 6 j) (mw_I m 6 j x)) (hN : ¬ ((nuL j : Int) ≤ x.toInt ∧ x.toInt ≤ nuH j) → Q (-1) m) : P11_set (nI j) x m Q := by
  have hv := vp_in_nI (show j < 5 from hj) (by decide)
  have hc := nI_clamp (n := j) (by omega)
  rcases (show j = 0 ∨ j = 1 ∨ j = 2 ∨ j = 3 ∨ j = 4 by omega) with rfl | rfl | rfl | rfl | rfl
  all_goals
    unfold P11_set
    simp only [ch_within, toL, Int64.reduceToInt, forall_eq, hc]
    simp (config := { decide := true }) only [nI, false_imp_iff, true_imp_iff, and_true, true_and, not_true, not_false_iff]
    split
    · exact ⟨hv, hv, hQ (by assumption)⟩
    · exact hN (by assumption)
theorem mw_I_eq {μ : mw_M} {c j : Nat} {v : Int32} : (mw_I μ c j v).1 c j = v := by rw [mw_I_get, if_pos ⟨rfl, rfl⟩]
/-- set -/
theorem op_set {a m : mw_M} (hK : RMach a m) {p1 p2 : Int32} {Q : Int32 → Int32 → mw_M → mw_M → Prop} (hQ : ∀ r u v, FX [11] a u → FM [6] [] m v → RMach u v → Q r r u v) : P10_set p1 p2 a (fun r u => P11_set p1 p2 m (fun r' v => Q r r' u v)) := by
  unfold P10_set
  by_cases hp : 0 ≤ p1.toInt ∧ p1.toInt < 5
  · obtain ⟨j, hj2, rfl⟩ := nI_get hp.1
    have hj : j < 5 := by have := hp.2; rw [nI_toInt (by omega)] at this; omega
    rw [ch5_isTold hj]
    split
    · rename_i hc
      refine s5_tell hj (s11_set hj (fun _ => ?_) (fun q => absurd hc q))
      obtain ⟨n, hn, rfl⟩ := nI_get (x := p2) (by omega)
      obtain ⟨be, da, de, no, wa, fl, g, hO, hx, hm, hg⟩ := hK
      rw [nI_toInt hn] at hc
      have er : a.1 11 j = m.1 6 j := by
        rcases (show j = 0 ∨ j = 1 ∨ j = 2 ∨ j = 3 ∨ j = 4 by omega) with rfl | rfl | rfl | rfl | rfl
        · rw [hx.1, hm.1]
        · rw [hx.2.1, hm.2.1]
        · rw [hx.2.2.1, hm.2.2.1]
        · rw [hx.2.2.2.1, hm.2.2.2.1]
        · rw [hx.2.2.2.2.1, hm.2.2.2.2.1]
      rw [er]
      refine hQ _ _ _ (FX.rf.I (by decide)) (FM.rf.I (by decide) (by decide)) ?_
      obtain ⟨o1, o2, o3, o4, o5, o6⟩ := hO
      rcases (show j = 0 ∨ j = 1 ∨ j = 2 ∨ j = 3 ∨ j = 4 by omega) with rfl | rfl | rfl | rfl | rfl
      · exact ⟨n, da, de, no, wa, fl, g, ⟨(by have h1 : (100 : Int) ≤ n := hc.1; have h2 : (n : Int) ≤ 900 := hc.2; omega), o2, o3, o4, o5, o6⟩, ⟨mw_I_eq, (mw_I_nj (by decide)).trans hx.2.1, (mw_I_nj (by decide)).trans hx.2.2.1, (mw_I_nj (by decide)).trans hx.2.2.2.1, (mw_I_nj (by decide)).trans hx.2.2.2.2.1, (mw_I_nj (by decide)).trans hx.2.2.2.2.2⟩, ⟨mw_I_eq, (mw_I_nj (by decide)).trans hm.2.1, (mw_I_nj (by decide)).trans hm.2.2.1, (mw_I_nj (by decide)).trans hm.2.2.2.1, (mw_I_nj (by decide)).trans hm.2.2.2.2.1, (mw_I_ne (by decide)).trans hm.2.2.2.2.2⟩, fun i hi => ⟨(mw_I_ne (by decide)).trans (hg i hi).1, (mw_I_ne (by decide)).trans (hg i hi).2.1, (mw_I_ne (by decide)).trans ((hg i hi).2.2.1.trans (mw_I_ne (by decide)).symm), (mw_I_ne (by decide)).trans ((hg i hi).2.2.2.trans (mw_I_ne (by decide)).symm)⟩⟩
      · exact ⟨be, n, de, no, wa, fl, g, ⟨o1, (by have h1 : (1 : Int) ≤ n := hc.1; have h2 : (n : Int) ≤ 9999 := hc.2; omega), o3, o4, o5, o6⟩, ⟨(mw_I_nj (by decide)).trans hx.1, mw_I_eq, (mw_I_nj (by decide)).trans hx.2.2.1, (mw_I_nj (by decide)).trans hx.2.2.2.1, (mw_I_nj (by decide)).trans hx.2.2.2.2.1, (mw_I_nj (by decide)).trans hx.2.2.2.2.2⟩, ⟨(mw_I_nj (by decide)).trans hm.1, mw_I_eq, (mw_I_nj (by decide)).trans hm.2.2.1, (mw_I_nj (by decide)).trans hm.2.2.2.1, (mw_I_nj (by decide)).trans hm.2.2.2.2.1, (mw_I_ne (by decide)).trans hm.2.2.2.2.2⟩, fun i hi => ⟨(mw_I_ne (by decide)).trans (hg i hi).1, (mw_I_ne (by decide)).trans (hg i hi).2.1, (mw_I_ne (by decide)).trans ((hg i hi).2.2.1.trans (mw_I_ne (by decide)).symm), (mw_I_ne (by decide)).trans ((hg i hi).2.2.2.trans (mw_I_ne (by decide)).symm)⟩⟩
      · exact ⟨be, da, n, no, wa, fl, g, ⟨o1, o2, (by have h1 : (0 : Int) ≤ n := hc.1; have h2 : (n : Int) ≤ 9 := hc.2; omega), o4, o5, o6⟩, ⟨(mw_I_nj (by decide)).trans hx.1, (mw_I_nj (by decide)).trans hx.2.1, mw_I_eq, (mw_I_nj (by decide)).trans hx.2.2.2.1, (mw_I_nj (by decide)).trans hx.2.2.2.2.1, (mw_I_nj (by decide)).trans hx.2.2.2.2.2⟩, ⟨(mw_I_nj (by decide)).trans hm.1, (mw_I_nj (by decide)).trans hm.2.1, mw_I_eq, (mw_I_nj (by decide)).trans hm.2.2.2.1, (mw_I_nj (by decide)).trans hm.2.2.2.2.1, (mw_I_ne (by decide)).trans hm.2.2.2.2.2⟩, fun i hi => ⟨(mw_I_ne (by decide)).trans (hg i hi).1, (mw_I_ne (by decide)).trans (hg i hi).2.1, (mw_I_ne (by decide)).trans ((hg i hi).2.2.1.trans (mw_I_ne (by decide)).symm), (mw_I_ne (by decide)).trans ((hg i hi).2.2.2.trans (mw_I_ne (by decide)).symm)⟩⟩
      · exact ⟨be, da, de, n, wa, fl, g, ⟨o1, o2, o3, (by have h1 : (0 : Int) ≤ n := hc.1; have h2 : (n : Int) ≤ 50 := hc.2; omega), o5, o6⟩, ⟨(mw_I_nj (by decide)).trans hx.1, (mw_I_nj (by decide)).trans hx.2.1, (mw_I_nj (by decide)).trans hx.2.2.1, mw_I_eq, (mw_I_nj (by decide)).trans hx.2.2.2.2.1, (mw_I_nj (by decide)).trans hx.2.2.2.2.2⟩, ⟨(mw_I_nj (by decide)).trans hm.1, (mw_I_nj (by decide)).trans hm.2.1, (mw_I_nj (by decide)).trans hm.2.2.1, mw_I_eq, (mw_I_nj (by decide)).trans hm.2.2.2.2.1, (mw_I_ne (by decide)).trans hm.2.2.2.2.2⟩, fun i hi => ⟨(mw_I_ne (by decide)).trans (hg i hi).1, (mw_I_ne (by decide)).trans (hg i hi).2.1, (mw_I_ne (by decide)).trans ((hg i hi).2.2.1.trans (mw_I_ne (by decide)).symm), (mw_I_ne (by decide)).trans ((hg i hi).2.2.2.trans (mw_I_ne (by decide)).symm)⟩⟩
      · exact ⟨be, da, de, no, n, fl, g, ⟨o1, o2, o3, o4, (by have h1 : (1 : Int) ≤ n := hc.1; have h2 : (n : Int) ≤ 9999 := hc.2; omega), o6⟩, ⟨(mw_I_nj (by decide)).trans hx.1, (mw_I_nj (by decide)).trans hx.2.1, (mw_I_nj (by decide)).trans hx.2.2.1, (mw_I_nj (by decide)).trans hx.2.2.2.1, mw_I_eq, (mw_I_nj (by decide)).trans hx.2.2.2.2.2⟩, ⟨(mw_I_nj (by decide)).trans hm.1, (mw_I_nj (by decide)).trans hm.2.1, (mw_I_nj (by decide)).trans hm.2.2.1, (mw_I_nj (by decide)).trans hm.2.2.2.1, mw_I_eq, (mw_I_ne (by decide)).trans hm.2.2.2.2.2⟩, fun i hi => ⟨(mw_I_ne (by decide)).trans (hg i hi).1, (mw_I_ne (by decide)).trans (hg i hi).2.1, (mw_I_ne (by decide)).trans ((hg i hi).2.2.1.trans (mw_I_ne (by decide)).symm), (mw_I_ne (by decide)).trans ((hg i hi).2.2.2.trans (mw_I_ne (by decide)).symm)⟩⟩
    · rename_i hc
      exact s11_set hj (fun q => absurd q hc) (fun _ => hQ _ _ _ FX.rf FM.rf hK)
  · have h0 : ¬ p1 = 0 := fun q => hp (by rw [q]; decide)
    have h1 : ¬ p1 = 1 := fun q => hp (by rw [q]; decide)
    have h2 : ¬ p1 = 2 := fun q => hp (by rw [q]; decide)
    have h3 : ¬ p1 = 3 := fun q => hp (by rw [q]; decide)
    have h4 : ¬ p1 = 4 := fun q => hp (by rw [q]; decide)
    unfold P5_isTold P11_set
    simp only [h0, h1, h2, h3, h4, false_imp_iff, true_imp_iff, and_true, true_and, not_false_iff]
    exact hQ _ _ _ FX.rf FM.rf hK

theorem n9 {k : Nat} (h : k < 2147483000) : (nI k - 9).toInt = k - 9 := by
  rw [Int32.toInt_sub, nI_toInt (by omega), show (9 : Int32).toInt = 9 from rfl]
  exact bmE (by omega) (by omega)
def flC (p1 p2 : Int32) : Prop := (1 ≤ p1.toInt ∧ p1.toInt ≤ 999) ∧ ∃ k : Nat, p2 = nI k ∧ k < 2147483648 ∧ k / 100 ≤ 18 ∧ k % 100 ≤ 18
theorem s10_floor {p1 p2 : Int32} {a : mw_M} {Q : Int32 → mw_M → Prop} (hN : ¬ flC p1 p2 → Q (-1) a) (hY : ∀ k : Nat, flC p1 (nI k) → p2 = nI k → k < 2147483648 → P5_floorsAreFull a (Q (-3) a) (P5_layFloor p1 (nI (k / 100) - 9) (nI (k % 100) - 9) a Q)) : P10_floor p1 p2 a Q := by
  unfold P10_floor
  rw [if_ab]
  by_cases hp : 0 ≤ p2.toInt
  · obtain ⟨k, hk, rfl⟩ := nI_get hp
    rw [if_neg (show ¬ nI k < 0 by rw [zlt]; simp only [Int32.reduceToInt]; omega), d100 hk, r100 hk]
    have hr : k % 100 < 100 := Nat.mod_lt _ (by decide)
    have e1 := n9 (k := k / 100) (by omega)
    have e2 := n9 (k := k % 100) (by omega)
    unfold P5_isFloor
    simp only [zlt, Int32.reduceToInt, e1, e2, if_ab]
    by_cases c1 : 1 ≤ p1.toInt ∧ p1.toInt ≤ 999
    · rw [if_neg (by omega), if_neg (by omega)]
      by_cases c2 : k / 100 ≤ 18
      · by_cases c3 : k % 100 ≤ 18
        · rw [if_neg (by omega), if_neg (by omega), if_neg (by omega), if_neg (by omega)]
          exact hY k ⟨c1, k, rfl, hk, c2, c3⟩ rfl hk
        · rw [if_neg (by omega), if_neg (by omega), if_neg (by omega), if_pos (by omega)]
          refine hN ?_
          rintro ⟨-, k2, e, h, h2, h3⟩
          rw [nI_eq hk h] at e
          subst e
          exact c3 h3
      · rw [if_neg (by omega), if_pos (by omega)]
        refine hN ?_
        rintro ⟨-, k2, e, h, h2, h3⟩
        rw [nI_eq hk h] at e
        subst e
        exact c2 h2
    · have := hN (fun q => c1 q.1)
      split
      · exact this
      · rw [if_pos (by omega)]; exact this
  · rw [if_pos (show p2 < 0 by rw [zlt]; simp only [Int32.reduceToInt]; omega)]
    refine hN ?_
    rintro ⟨-, k2, e, h, -⟩
    rw [e, nI_toInt h] at hp
    omega
theorem s11_floor {p1 p2 : Int32} {m : mw_M} {fl : Nat} (hfl : fl ≤ 4) (h9 : m.1 0 9 = nI fl) {Q : Int32 → mw_M → Prop} (hN : ¬ flC p1 p2 → Q (-1) m) (hY : ∀ k : Nat, flC p1 (nI k) → p2 = nI k → k < 2147483648 → (fl = 4 → Q (-3) m) ∧ (fl < 4 → Q (nI fl) (mw_I (mw_I (mw_I (mw_I m 7 fl p1) 8 fl (nI (k / 100) - 9)) 9 fl (nI (k % 100) - 9)) 0 9 (nI (fl + 1))))) : P11_floor p1 p2 m Q := by
  unfold P11_floor
  simp only [ch_within, toL, Int64.reduceToInt]
  by_cases c1 : 1 ≤ p1.toInt ∧ p1.toInt ≤ 999
  · rw [if_pos c1, if_ab]
    by_cases hp : 0 ≤ p2.toInt
    · obtain ⟨k, hk, rfl⟩ := nI_get hp
      rw [if_neg (show ¬ nI k < 0 by rw [zlt]; simp only [Int32.reduceToInt]; omega), d100 hk, r100 hk]
      have hr : k % 100 < 100 := Nat.mod_lt _ (by decide)
      rw [if_ab, if_ab, if_ab]
      simp only [zlt, zle, Int32.reduceToInt]
      rw [nI_toInt (show k / 100 < 2 ^ 31 by omega), nI_toInt (show k % 100 < 2 ^ 31 by omega)]
      have hNo : ¬ (k / 100 ≤ 18 ∧ k % 100 ≤ 18) → Q (-1) m := fun z => by
        refine hN ?_
        rintro ⟨-, k2, e, h, h2, h3⟩
        rw [nI_eq hk h] at e
        subst e
        exact z ⟨h2, h3⟩
      by_cases c2 : k / 100 ≤ 18
      · rw [if_neg (by omega)]
        by_cases c3 : k % 100 ≤ 18
        · rw [if_pos (by omega)]
          have y := hY k ⟨c1, k, rfl, hk, c2, c3⟩ rfl hk
          have hc := nI_clamp (show fl < 2 ^ 31 by omega)
          by_cases c4 : fl = 4
          · rw [if_pos (by rw [h9, c4]; rfl)]
            exact y.1 c4
          · have hv := vp_in_nI (show fl < 4 by omega) (by decide)
            rw [if_neg (by rw [h9]; show ¬ nI fl = nI 4; rw [nI_eq (by omega) (by decide)]; exact c4)]
            simp only [forall_eq, mw_I_ne (show (0 : Nat) ≠ 7 by decide), mw_I_ne (show (0 : Nat) ≠ 8 by decide), mw_I_ne (show (0 : Nat) ≠ 9 by decide), h9, hc, mw_I_eq]
            rw [show nI fl + 1 = nI (fl + 1) from nI_add fl 1, nI_sub1 (by omega)]
            exact ⟨hv, hv, hv, y.2 (by omega)⟩
        · rw [if_neg (by omega)]
          exact hNo (fun z => c3 z.2)
      · rw [if_pos (by omega)]
        exact hNo (fun z => c2 z.1)
    · rw [if_pos (show p2 < 0 by rw [zlt]; simp only [Int32.reduceToInt]; omega)]
      refine hN ?_
      rintro ⟨-, k2, e, h, -⟩
      rw [e, nI_toInt h] at hp
      omega
  · rw [if_neg c1]
    exact hN (fun q => c1 q.1)
theorem s5_lay {a : mw_M} {fl : Nat} (hfl : fl ≤ 4) (h8 : a.1 11 8 = nI fl) {p1 p2 p3 : Int32} {Q : Int32 → mw_M → Prop} (h : (fl = 4 → Q (-3) a) ∧ (fl < 4 → Q (nI fl) (mw_I (mw_I (mw_I (mw_I a 12 fl p1) 13 fl p2) 14 fl p3) 11 8 (nI (fl + 1))))) : P5_floorsAreFull a (Q (-3) a) (P5_layFloor p1 p2 p3 a Q) := by
  unfold P5_floorsAreFull P5_layFloor
  have hc := nI_clamp (show fl < 2 ^ 31 by omega)
  rw [if_ab, if_ab]
  simp only [h8, zlt, Int32.reduceToInt, nI_toInt (show fl < 2 ^ 31 by omega)]
  by_cases c4 : fl = 4
  · rw [if_neg (by omega)]
    exact h.1 c4
  · have hv := vp_in_nI (show fl < 4 by omega) (by decide)
    rw [if_pos (by omega), if_pos (by omega)]
    simp only [forall_eq, mw_I_ne (show (11 : Nat) ≠ 12 by decide), mw_I_ne (show (11 : Nat) ≠ 13 by decide), mw_I_ne (show (11 : Nat) ≠ 14 by decide), h8, hc, mw_I_eq]
    rw [show nI fl + 1 = nI (fl + 1) from nI_add fl 1, nI_sub1 (by omega)]
    exact ⟨hv, hv, hv, h.2 (by omega)⟩
/-- floor -/
theorem op_floor {a m : mw_M} (hK : RMach a m) {p1 p2 : Int32} {Q : Int32 → Int32 → mw_M → mw_M → Prop} (hQ : ∀ r u v, FX [11, 12, 13, 14] a u → FM [7, 8, 9] [9] m v → RMach u v → Q r r u v) : P10_floor p1 p2 a (fun r u => P11_floor p1 p2 m (fun r' v => Q r r' u v)) := by
  have hF := fun r => hQ r a m FX.rf FM.rf hK
  obtain ⟨be, da, de, no, wa, fl, g, hO, hx, hm, hg⟩ := hK
  have hfl := hO.2.2.2.2.2.1
  refine s10_floor (fun c => s11_floor hfl hm.2.2.2.2.2 (fun _ => hF _) (fun k q e _ => absurd q (by rw [← e]; exact c))) (fun k c e hk => s5_lay hfl hx.2.2.2.2.2 ⟨fun c4 => ?_, fun c4 => ?_⟩)
  · refine s11_floor hfl hm.2.2.2.2.2 (fun z => absurd (by rw [e]; exact c) z) (fun k2 _ e2 _ => ⟨fun _ => hF _, fun q => absurd q (by omega)⟩)
  · refine s11_floor hfl hm.2.2.2.2.2 (fun z => absurd (by rw [e]; exact c) z) (fun k2 c2 e2 hk2 => ⟨fun q => absurd q (by omega), fun _ => ?_⟩)
    have ek : k = k2 := by rw [e, nI_eq hk hk2] at e2; exact e2
    subst ek
    obtain ⟨p, hp, rfl⟩ := nI_get (x := p1) (by have := c.1.1; omega)
    have hp1 := c.1
    rw [nI_toInt hp] at hp1
    refine hQ _ _ _ ((((FX.rf.I (by decide)).I (by decide)).I (by decide)).I (by decide)) ((((FM.rf.I (by decide) (by decide)).I (by decide) (by decide)).I (by decide) (by decide)).O (by decide)) ?_
    obtain ⟨o1, o2, o3, o4, o5, o6, o7⟩ := hO
    refine ⟨be, da, de, no, wa, fl + 1, fun i => if i = fl then p else g i, ⟨o1, o2, o3, o4, o5, by omega, fun i hi => ?_⟩, ?_, ?_, fun i hi => ?_⟩
    · by_cases q : i = fl
      · simp only [if_pos q]; omega
      · simp only [if_neg q]; exact o7 i (by omega)
    · simp (config := { decide := true }) only [mw_I_get, true_and, false_and, if_true, if_false]
      exact ⟨hx.1, hx.2.1, hx.2.2.1, hx.2.2.2.1, hx.2.2.2.2.1, trivial⟩
    · simp (config := { decide := true }) only [mw_I_get, true_and, false_and, if_true, if_false]
      exact ⟨hm.1, hm.2.1, hm.2.2.1, hm.2.2.2.1, hm.2.2.2.2.1, trivial⟩
    · by_cases q : i = fl
      · subst q
        simp (config := { decide := true }) only [mw_I_get, true_and, false_and, if_true, if_false]
      · simp (config := { decide := true }) only [mw_I_get, true_and, false_and, if_true, if_false, q]
        exact hg i (by omega)
