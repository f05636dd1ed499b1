/-! run, led, did -/
def RRun (a m : mw_M) : Prop := ∃ N : Nat, N ≤ 200 ∧ a.1 32 12 = nI N ∧ m.1 0 41 = nI N ∧ (1 ≤ N → (m.1 0 42 = a.1 32 10 ∧ m.1 0 43 = a.1 32 11 ∧ m.1 0 44 = a.1 32 9 ∧ m.1 0 45 = a.1 32 14 ∧ m.1 0 47 = a.1 32 15) ∧ (a.1 32 16 = if m.1 0 47 ≤ m.1 0 48 then 0 else 1) ∧ (a.1 32 5 = m.1 19 (N - 1) ∧ a.1 32 6 = m.1 20 (N - 1)) ∧ (∀ w j, w < 5 → j < N → a.1 (39 + w) j = m.1 (16 + w) j) ∧ ∃ (n : Nat) (f : Nat → Nat → Nat) (c : Nat), LOK n f c ∧ XL 33 a n f c ∧ m.1 0 46 = nI (wetN f n))
theorem RRun.fr2 {a m u v : mw_M} (h : RRun a m) (e : ∀ k ∈ [32, 33, 34, 35, 36, 37, 39, 40, 41, 42, 43], u.1 k = a.1 k) (e2 : ∀ k ∈ [16, 17, 18, 19, 20], v.1 k = m.1 k) (e3 : ∀ k ∈ [41, 42, 43, 44, 45, 46, 47, 48], v.1 0 k = m.1 0 k) : RRun u v := by
  have e4 : ∀ w, w < 5 → u.1 (39 + w) = a.1 (39 + w) := fun w hw => e _ (by simp; omega)
  have e5 : ∀ w, w < 5 → v.1 (16 + w) = m.1 (16 + w) := fun w hw => e2 _ (by simp; omega)
  simp only [List.forall_mem_cons, List.not_mem_nil, false_imp_iff, implies_true, and_true] at e e2 e3
  obtain ⟨x0, x1, x2, x3, x4, x5, x6, x7, x8, x9, x10⟩ := e
  obtain ⟨y1, y2, y3, y4, y5⟩ := e2
  obtain ⟨z1, z2, z3, z4, z5, z6, z7, z8⟩ := e3
  obtain ⟨N, g1, g2, g3, g4⟩ := h
  refine ⟨N, g1, by rw [x0]; exact g2, by rw [z1]; exact g3, fun hN => ?_⟩
  obtain ⟨q1, q2, q3, q4, n, f, c, q5, q6, q7⟩ := g4 hN
  refine ⟨by rw [z2, z3, z4, z5, z7, x0]; exact q1, by rw [z7, z8, x0]; exact q2, by rw [x0, y4, y5]; exact q3, fun w j hw hj => by rw [e4 w hw, e5 w hw]; exact q4 w j hw hj, n, f, c, q5, ?_, by rw [z6]; exact q7⟩
  refine xl_rows q6 (fun k h1 h2 => ?_)
  rcases (show k = 33 ∨ k = 34 ∨ k = 35 ∨ k = 36 ∨ k = 37 by omega) with rfl | rfl | rfl | rfl | rfl <;> assumption
theorem RRun.fr {a m u v : mw_M} {S T J : List Nat} (h : RRun a m) (hx : FX S a u) (hm : FM T J m v) (h1 : (∀ k ∈ [32, 33, 34, 35, 36, 37, 39, 40, 41, 42, 43], k ∉ S) ∧ (∀ k ∈ [16, 17, 18, 19, 20], k ∉ T) ∧ ∀ k ∈ [41, 42, 43, 44, 45, 46, 47, 48], k ∉ J) : RRun u v := h.fr2 (fun k hk => (hx k (h1.1 k hk)).1) (fun k hk => (hm.1 k (h1.2.1 k hk) (by rintro rfl; simp at hk)).1) (fun k hk => hm.2 k (h1.2.2 k hk))
/-- rule and floor on both sides -/
theorem zneg {p : Int32} (h : p < 0) : p.toInt < 0 := by rw [zlt] at h; simpa using h
theorem npos {p : Int32} (h : ¬ p < 0) : 0 ≤ p.toInt := by rw [zlt] at h; simp only [Int32.reduceToInt] at h; omega
theorem s10_rf {a : mw_M} {nl fl : Nat} (hnl : nl ≤ 4) (hfl : fl ≤ 4) (h3 : a.1 15 3 = nI nl) (h8 : a.1 11 8 = nI fl) {p : Int32} {QT QF : Prop} (hT : ∀ k : Nat, k < 2147483648 → p = nI k → k / 10 < nl → k % 10 < fl → QT) (hF : ¬ (∃ k : Nat, k < 2147483648 ∧ p = nI k ∧ k / 10 < nl ∧ k % 10 < fl) → QF) : P10_isRuleAndFloor p a QT QF := by
  unfold P10_isRuleAndFloor
  refine ⟨fun h => hF ?_, fun h => ?_⟩
  · rintro ⟨k, h1, h2, h3, h4⟩
    have := zneg h
    rw [h2, nI_toInt (by omega)] at this
    omega
  · obtain ⟨k, h1, rfl⟩ := nI_get (npos h)
    rw [d10 h1, r10 h1, ch4_has hnl h3, ch5_hasFloor hfl h8, nI_toInt (by omega), nI_toInt (by omega)]
    by_cases c1 : k / 10 < nl
    · rw [if_pos (by omega)]
      by_cases c2 : k % 10 < fl
      · rw [if_pos (by omega)]; exact hT k h1 rfl c1 c2
      · rw [if_neg (by omega)]
        refine hF ?_
        rintro ⟨j, j1, j2, j3, j4⟩
        rw [nI_eq (by omega) (by omega)] at j2
        omega
    · rw [if_neg (by omega)]
      refine hF ?_
      rintro ⟨j, j1, j2, j3, j4⟩
      rw [nI_eq (by omega) (by omega)] at j2
      omega
theorem s11_rf {m : mw_M} {nl fl : Nat} (hnl : nl ≤ 4) (hfl : fl ≤ 4) (h15 : m.1 0 15 = nI nl) (h9 : m.1 0 9 = nI fl) {p : Int32} {QT QF : Prop} (hT : (∃ k : Nat, k < 2147483648 ∧ p = nI k ∧ k / 10 < nl ∧ k % 10 < fl) → QT) (hF : ¬ (∃ k : Nat, k < 2147483648 ∧ p = nI k ∧ k / 10 < nl ∧ k % 10 < fl) → QF) : P11_isRf p m QT QF := by
  unfold P11_isRf
  refine ⟨fun h => hF ?_, fun h => ?_⟩
  · rintro ⟨k, h1, h2, h3, h4⟩
    have := zneg h
    rw [h2, nI_toInt (by omega)] at this
    omega
  · obtain ⟨k, h1, rfl⟩ := nI_get (npos h)
    rw [d10 h1, r10 h1, ch11_isLaw hnl h15, ch11_floorW hfl h9, nI_toInt (by omega), nI_toInt (by omega)]
    by_cases c1 : k / 10 < nl
    · rw [if_pos (by omega)]
      by_cases c2 : k % 10 < fl
      · rw [if_pos (by omega)]; exact hT ⟨k, h1, rfl, c1, c2⟩
      · rw [if_neg (by omega)]
        refine hF ?_
        rintro ⟨j, j1, j2, j3, j4⟩
        rw [nI_eq (by omega) (by omega)] at j2
        omega
    · rw [if_neg (by omega)]
      refine hF ?_
      rintro ⟨j, j1, j2, j3, j4⟩
      rw [nI_eq (by omega) (by omega)] at j2
      omega
def gnOK (p : Int32) (M : Nat) : Prop := ∃ k : Nat, k < 2147483648 ∧ p = nI k ∧ (100 ≤ k / 1000 ∧ k / 1000 ≤ 1200) ∧ 1 ≤ k % 1000 ∧ k % 1000 ≤ M
theorem s10_gn {p : Int32} {M : Nat} (hM : M < 1000) {QT QF : Prop} (hT : gnOK p M → QT) (hF : ¬ gnOK p M → QF) : P10_isGoalAndCount p (nI M) QT QF := by
  unfold P10_isGoalAndCount
  refine ⟨fun h => hF ?_, fun h => ?_⟩
  · rintro ⟨k, h1, h2, h3, h4⟩
    have := zneg h
    rw [h2, nI_toInt (by omega)] at this
    omega
  · obtain ⟨k, h1, rfl⟩ := nI_get (npos h)
    have no : (¬ ((100 ≤ k / 1000 ∧ k / 1000 ≤ 1200) ∧ 1 ≤ k % 1000 ∧ k % 1000 ≤ M)) → QF := fun hn => hF (by
      rintro ⟨j, j1, j2, j3, j4⟩
      rw [nI_eq (by omega) (by omega)] at j2
      subst j2
      exact hn ⟨j3, j4⟩)
    rw [d1000 h1, r1000 h1, ch5_isGoal, nI_toInt (by omega)]
    by_cases c1 : 100 ≤ k / 1000 ∧ k / 1000 ≤ 1200
    · rw [if_pos (by omega)]
      refine ⟨fun c2 => no ?_, fun c2 => ⟨fun c3 => no ?_, fun c3 => hT ⟨k, h1, rfl, c1, ?_⟩⟩⟩
      · rw [zlt, nI_toInt (by omega)] at c2
        simp only [Int32.reduceToInt] at c2
        omega
      · rw [zlt, nI_toInt (by omega), nI_toInt (by omega)] at c3
        omega
      · rw [zlt, nI_toInt (by omega)] at c2
        rw [zlt, nI_toInt (by omega), nI_toInt (by omega)] at c3
        simp only [Int32.reduceToInt] at c2
        omega
    · rw [if_neg (by omega)]
      exact no (fun q => c1 q.1)
/-- the reference asks for goal and number one after the other -/
theorem s11_gn {p : Int32} {M : Nat} (hM : M < 1000) {QT QF : Prop} (hT : gnOK p M → QT) (hF : ¬ gnOK p M → QF) : (p < 0 → QF) ∧ (¬ p < 0 → P11_isGoal (p / 1000) (P11_within (Int32.toInt64 (mw_rem p 1000)) 1 (nI M).toInt64 QT QF) QF) := by
  refine ⟨fun h => hF ?_, fun h => ?_⟩
  · rintro ⟨k, h1, h2, h3, h4⟩
    have := zneg h
    rw [h2, nI_toInt (by omega)] at this
    omega
  · obtain ⟨k, h1, rfl⟩ := nI_get (npos h)
    have no : (¬ ((100 ≤ k / 1000 ∧ k / 1000 ≤ 1200) ∧ 1 ≤ k % 1000 ∧ k % 1000 ≤ M)) → QF := fun hn => hF (by
      rintro ⟨j, j1, j2, j3, j4⟩
      rw [nI_eq (by omega) (by omega)] at j2
      subst j2
      exact hn ⟨j3, j4⟩)
    rw [d1000 h1, r1000 h1, ch11_isGoal, ch_within, toL, toL, nI_toInt (by omega), nI_toInt (by omega), nI_toInt (by omega), show (1 : Int64).toInt = 1 from rfl]
    by_cases c1 : 100 ≤ k / 1000 ∧ k / 1000 ≤ 1200
    · rw [if_pos (by omega)]
      by_cases c2 : 1 ≤ k % 1000 ∧ k % 1000 ≤ M
      · rw [if_pos (by omega)]; exact hT ⟨k, h1, rfl, c1, c2⟩
      · rw [if_neg (by omega)]; exact no (fun q => c2 q.2)
    · rw [if_neg (by omega)]
      exact no (fun q => c1 q.1)
theorem RMach.two {a m : mw_M} (h : RMach a m) {i : Nat} (hi : ∀ fl : Nat, fl ≤ 4 → a.1 11 8 = nI fl → i < fl) : ∃ be da de no wa fl g sx sy, NOK be da de no wa fl i g ∧ MCx a be da de no wa fl i g sx sy ∧ MCm m be da de no wa fl i g sx sy := by
  obtain ⟨be, da, de, no, wa, fl, g, ⟨k1, k2, k3, k4, k5, k6, k7⟩, x, y, z⟩ := h
  have hf := hi fl k6 x.2.2.2.2.2
  obtain ⟨z1, z2, z3, z4⟩ := z i hf
  exact ⟨be, da, de, no, wa, fl, g i, m.1 8 i, m.1 9 i, ⟨k1.2, k2, k3, k4, k5.2, k6, hf, (k7 i hf).2⟩, ⟨x, z1, z3, z4⟩, ⟨y, z2, rfl, rfl⟩⟩
