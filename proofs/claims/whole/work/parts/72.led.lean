/-! led, did -/
theorem op_led {a m : mw_M} (hR : RRun a m) {p1 p2 : Int32} {Q : Int32 → Int32 → Prop} (hQ : ∀ r, Q r r) : P10_led p1 p2 a (fun r => P11_led p1 p2 m (fun r' => Q r r')) := by
  obtain ⟨N, hN, h12, h41, hr⟩ := hR
  unfold P10_led P11_led
  rw [h12, h41]
  by_cases n0 : N = 0
  · subst n0
    exact ⟨fun _ => ⟨fun _ => hQ _, fun z => absurd rfl z⟩, fun z => absurd rfl z⟩
  have n1 : ¬ nI N = 0 := by
    rw [show (0 : Int32) = nI 0 from rfl, nI_eq (by omega) (by omega)]; exact n0
  obtain ⟨⟨c42, c43, c44, c45, c47⟩, c16, ⟨c5, c6⟩, ck, n, f, c, hL, hX, c46⟩ := hr (by omega)
  have W : ∀ A B, P11_within p1.toInt64 (-1) (nI N - 1).toInt64 A B = if -1 ≤ p1.toInt ∧ p1.toInt < N then A else B := fun A B => by
    rw [ch_within, toL, toL, show nI N - 1 = nI (N - 1) from nI_sub1 (by omega), nI_toInt (by omega), show (-1 : Int64).toInt = -1 from rfl]
    exact if_c (by omega)
  refine ⟨fun z => absurd z n1, fun _ => ⟨fun e1 => ?_, fun e1 => ?_⟩⟩
  · subst e1
    unfold P9_counted
    have K : ∀ x, (p2 = 0 → x = nI N) → (p2 = 1 → x = a.1 32 10) → (p2 = 2 → x = a.1 32 11) → (p2 = 3 → x = a.1 32 9) → (¬ p2 = 0 → ¬ p2 = 1 → ¬ p2 = 2 → ¬ p2 = 3 → x = -2000000000) → ((nI N = 0 → Q x (-2000000000)) ∧ (¬ nI N = 0 → P11_within (-1 : Int32).toInt64 (-1) (nI N - 1).toInt64 (((p2 = 0 → ((0 ≤ (-1 : Int32) → (vp_in (-1) 200 ∧ Q x (m.1 16 (-1 : Int32).toNatClampNeg))) ∧ (¬ 0 ≤ (-1 : Int32) → Q x (nI N)))) ∧ (p2 = 1 → ((0 ≤ (-1 : Int32) → (vp_in (-1) 200 ∧ Q x (m.1 17 (-1 : Int32).toNatClampNeg))) ∧ (¬ 0 ≤ (-1 : Int32) → Q x (m.1 0 42)))) ∧ (p2 = 2 → ((0 ≤ (-1 : Int32) → (vp_in (-1) 200 ∧ Q x (m.1 18 (-1 : Int32).toNatClampNeg))) ∧ (¬ 0 ≤ (-1 : Int32) → Q x (m.1 0 43)))) ∧ (p2 = 3 → ((0 ≤ (-1 : Int32) → (vp_in (-1) 200 ∧ Q x (m.1 19 (-1 : Int32).toNatClampNeg))) ∧ (¬ 0 ≤ (-1 : Int32) → Q x (m.1 0 44)))) ∧ (p2 = 4 → ((0 ≤ (-1 : Int32) → (vp_in (-1) 200 ∧ Q x (m.1 20 (-1 : Int32).toNatClampNeg))) ∧ (¬ 0 ≤ (-1 : Int32) → Q x (-2000000000)))) ∧ (¬ p2 = 0 → ¬ p2 = 1 → ¬ p2 = 2 → ¬ p2 = 3 → ¬ p2 = 4 → Q x (-2000000000)))) (Q x (-2000000000)))) := by
      intro x x0 x1 x2 x3 x4
      refine ⟨fun z => absurd z n1, fun _ => ?_⟩
      rw [W, if_pos (by rw [show (-1 : Int32).toInt = -1 from rfl]; omega)]
      have nn : ¬ (0 ≤ (-1 : Int32)) := by decide
      refine ⟨fun e => ⟨fun z => absurd z nn, fun _ => ?_⟩, fun e => ⟨fun z => absurd z nn, fun _ => ?_⟩, fun e => ⟨fun z => absurd z nn, fun _ => ?_⟩, fun e => ⟨fun z => absurd z nn, fun _ => ?_⟩, fun e => ⟨fun z => absurd z nn, fun _ => ?_⟩, fun e0 e1 e2 e3 e4 => ?_⟩
      · rw [x0 e]; exact hQ _
      · rw [x1 e, c42]; exact hQ _
      · rw [x2 e, c43]; exact hQ _
      · rw [x3 e, c44]; exact hQ _
      · rw [x4 (by rw [e]; decide) (by rw [e]; decide) (by rw [e]; decide) (by rw [e]; decide)]; exact hQ _
      · rw [x4 e0 e1 e2 e3]; exact hQ _
    refine ⟨fun e => K _ (fun _ => h12) (fun e' => ?_) (fun e' => ?_) (fun e' => ?_) (fun e' => absurd e e'), fun e => K _ (fun e' => ?_) (fun _ => rfl) (fun e' => ?_) (fun e' => ?_) (fun _ e' => absurd e e'), fun e => K _ (fun e' => ?_) (fun e' => ?_) (fun _ => rfl) (fun e' => ?_) (fun _ _ e' => absurd e e'), fun e => K _ (fun e' => ?_) (fun e' => ?_) (fun e' => ?_) (fun _ => rfl) (fun _ _ _ e' => absurd e e'), fun e0 e1 e2 e3 => K _ (fun e => absurd e e0) (fun e => absurd e e1) (fun e => absurd e e2) (fun e => absurd e e3) (fun _ _ _ _ => rfl)⟩
    all_goals exact absurd (e.symm.trans e') (by decide)
  · unfold P9_keptOf
    have V : (¬ (∃ i j : Nat, p1 = nI i ∧ p2 = nI j ∧ i < N ∧ j < 5)) → ((nI N = 0 → Q (-2000000000) (-2000000000)) ∧ (¬ nI N = 0 → P11_within p1.toInt64 (-1) (nI N - 1).toInt64 (((p2 = 0 → ((0 ≤ p1 → (vp_in p1 200 ∧ Q (-2000000000) (m.1 16 p1.toNatClampNeg))) ∧ (¬ 0 ≤ p1 → Q (-2000000000) (nI N)))) ∧ (p2 = 1 → ((0 ≤ p1 → (vp_in p1 200 ∧ Q (-2000000000) (m.1 17 p1.toNatClampNeg))) ∧ (¬ 0 ≤ p1 → Q (-2000000000) (m.1 0 42)))) ∧ (p2 = 2 → ((0 ≤ p1 → (vp_in p1 200 ∧ Q (-2000000000) (m.1 18 p1.toNatClampNeg))) ∧ (¬ 0 ≤ p1 → Q (-2000000000) (m.1 0 43)))) ∧ (p2 = 3 → ((0 ≤ p1 → (vp_in p1 200 ∧ Q (-2000000000) (m.1 19 p1.toNatClampNeg))) ∧ (¬ 0 ≤ p1 → Q (-2000000000) (m.1 0 44)))) ∧ (p2 = 4 → ((0 ≤ p1 → (vp_in p1 200 ∧ Q (-2000000000) (m.1 20 p1.toNatClampNeg))) ∧ (¬ 0 ≤ p1 → Q (-2000000000) (-2000000000)))) ∧ (¬ p2 = 0 → ¬ p2 = 1 → ¬ p2 = 2 → ¬ p2 = 3 → ¬ p2 = 4 → Q (-2000000000) (-2000000000)))) (Q (-2000000000) (-2000000000)))) := by
      intro hn
      refine ⟨fun z => absurd z n1, fun _ => ?_⟩
      rw [W]
      by_cases c : -1 ≤ p1.toInt ∧ p1.toInt < N
      · rw [if_pos c]
        have p0 : 0 ≤ p1.toInt := by
          rw [zeq, show (-1 : Int32).toInt = -1 from rfl] at e1
          omega
        obtain ⟨i, hi, ei⟩ := nI_get p0
        have hiN : i < N := by rw [ei, nI_toInt (by omega)] at c; omega
        refine ⟨fun e => absurd ⟨i, 0, ei, e, hiN, by decide⟩ hn, fun e => absurd ⟨i, 1, ei, e, hiN, by decide⟩ hn, fun e => absurd ⟨i, 2, ei, e, hiN, by decide⟩ hn, fun e => absurd ⟨i, 3, ei, e, hiN, by decide⟩ hn, fun e => absurd ⟨i, 4, ei, e, hiN, by decide⟩ hn, fun _ _ _ _ _ => hQ _⟩
      · rw [if_neg c]; exact hQ _
    refine ⟨fun c1 => V ?_, fun c1 => ⟨fun c2 => V ?_, fun c2 => ⟨fun c3 => V ?_, fun c3 => ⟨fun c4 => V ?_, fun c4 => ?_⟩⟩⟩⟩
    · rintro ⟨i, j, i1, j1, i2, j2⟩
      have := zneg c1
      rw [i1, nI_toInt (by omega)] at this
      omega
    · rintro ⟨i, j, i1, j1, i2, j2⟩
      rw [h12, i1, zle, nI_toInt (by omega), nI_toInt (by omega)] at c2
      omega
    · rintro ⟨i, j, i1, j1, i2, j2⟩
      have := zneg c3
      rw [j1, nI_toInt (by omega)] at this
      omega
    · rintro ⟨i, j, i1, j1, i2, j2⟩
      rw [j1, zle, nI_toInt (by omega)] at c4
      simp only [Int32.reduceToInt] at c4
      omega
    · obtain ⟨i, hi, rfl⟩ := nI_get (npos c1)
      obtain ⟨j, hj, rfl⟩ := nI_get (npos c3)
      rw [h12, zle, nI_toInt (by omega), nI_toInt (by omega)] at c2
      rw [zle, nI_toInt (by omega)] at c4
      simp only [Int32.reduceToInt] at c4
      rw [nI_clamp (by omega), nI_clamp (by omega), show (32 + 7 + j) = 39 + j by omega, ck j i (by omega) (by omega)]
      have hv := vp_in_nI (show i < 200 by omega) (by decide)
      refine ⟨vp_in_nI (by omega) (by decide), hv, fun z => absurd z n1, fun _ => ?_⟩
      rw [W, if_pos (by rw [nI_toInt (by omega)]; omega)]
      have p0 : 0 ≤ nI i := nI_le (a := 0) (by omega) (by omega)
      rcases (show j = 0 ∨ j = 1 ∨ j = 2 ∨ j = 3 ∨ j = 4 by omega) with rfl | rfl | rfl | rfl | rfl
      · exact ⟨fun _ => ⟨fun _ => ⟨hv, hQ _⟩, fun z => absurd p0 z⟩, fun e => absurd e (by decide), fun e => absurd e (by decide), fun e => absurd e (by decide), fun e => absurd e (by decide), fun e => absurd rfl e⟩
      · exact ⟨fun e => absurd e (by decide), fun _ => ⟨fun _ => ⟨hv, hQ _⟩, fun z => absurd p0 z⟩, fun e => absurd e (by decide), fun e => absurd e (by decide), fun e => absurd e (by decide), fun _ e => absurd rfl e⟩
      · exact ⟨fun e => absurd e (by decide), fun e => absurd e (by decide), fun _ => ⟨fun _ => ⟨hv, hQ _⟩, fun z => absurd p0 z⟩, fun e => absurd e (by decide), fun e => absurd e (by decide), fun _ _ e => absurd rfl e⟩
      · exact ⟨fun e => absurd e (by decide), fun e => absurd e (by decide), fun e => absurd e (by decide), fun _ => ⟨fun _ => ⟨hv, hQ _⟩, fun z => absurd p0 z⟩, fun e => absurd e (by decide), fun _ _ _ e => absurd rfl e⟩
      · exact ⟨fun e => absurd e (by decide), fun e => absurd e (by decide), fun e => absurd e (by decide), fun e => absurd e (by decide), fun _ => ⟨fun _ => ⟨hv, hQ _⟩, fun z => absurd p0 z⟩, fun _ _ _ _ e => absurd rfl e⟩
theorem op_did {a m : mw_M} (hR : RRun a m) {p1 : Int32} {Q : Int32 → Int32 → Prop} (hQ : ∀ r, Q r r) : P10_did p1 a (fun r => P11_did p1 m (fun r' => Q r r')) := by
  obtain ⟨N, hN, h12, h41, hr⟩ := hR
  unfold P10_did P11_did
  rw [h12, h41]
  by_cases n0 : N = 0
  · subst n0
    exact ⟨fun _ => ⟨fun _ => hQ _, fun z => absurd rfl z⟩, fun z => absurd rfl z⟩
  have n1 : ¬ nI N = 0 := by
    rw [show (0 : Int32) = nI 0 from rfl, nI_eq (by omega) (by omega)]; exact n0
  obtain ⟨⟨c42, c43, c44, c45, c47⟩, c16, ⟨c5, c6⟩, ck, n, f, c, hL, hX, c46⟩ := hr (by omega)
  have hv := vp_in_nI (show N - 1 < 200 by omega) (by decide)
  have e1 : nI N - 1 = nI (N - 1) := nI_sub1 (by omega)
  rw [e1, nI_clamp (by omega)]
  refine ⟨fun z => absurd z n1, fun _ => ⟨fun e => ?_, fun e => ?_, fun e => ?_, fun e => ?_, fun e => ⟨fun c => ?_, fun c => ?_⟩, fun g0 g1 g2 g3 g4 => ?_⟩⟩
  · subst e
    refine ⟨fun z => absurd z n1, fun _ => ⟨fun _ => ?_, fun e => absurd e (by decide), fun e => absurd e (by decide), fun e => absurd e (by decide), fun e => absurd e (by decide), fun e => absurd rfl e⟩⟩
    rw [c45]; exact hQ _
  · subst e
    unfold P9_left
    refine s2_wetOfAll hL hX ⟨fun z => absurd z n1, fun _ => ⟨fun e => absurd e (by decide), fun _ => ?_, fun e => absurd e (by decide), fun e => absurd e (by decide), fun e => absurd e (by decide), fun _ e => absurd rfl e⟩⟩
    rw [c46]; exact hQ _
  · subst e
    unfold P9_walked
    refine ⟨fun z => absurd z n1, fun _ => ⟨fun e => absurd e (by decide), fun e => absurd e (by decide), fun _ => ⟨hv, s11_size ⟨hv, s11_size ?_⟩⟩, fun e => absurd e (by decide), fun e => absurd e (by decide), fun _ _ e => absurd rfl e⟩⟩
    rw [← c5, ← c6]; exact hQ _
  · subst e
    refine ⟨fun z => absurd z n1, fun _ => ⟨fun e => absurd e (by decide), fun e => absurd e (by decide), fun e => absurd e (by decide), fun _ => ?_, fun e => absurd e (by decide), fun _ _ _ e => absurd rfl e⟩⟩
    rw [c47]; exact hQ _
  · subst e
    refine ⟨fun z => absurd z n1, fun _ => ⟨fun e => absurd e (by decide), fun e => absurd e (by decide), fun e => absurd e (by decide), fun e => absurd e (by decide), fun _ => ⟨fun _ => hQ _, fun z => absurd ?_ z⟩, fun _ _ _ _ e => absurd rfl e⟩⟩
    rw [c16] at c
    by_cases q : m.1 0 47 ≤ m.1 0 48
    · exact q
    · rw [if_neg q] at c; exact absurd c (by decide)
  · subst e
    refine ⟨fun z => absurd z n1, fun _ => ⟨fun e => absurd e (by decide), fun e => absurd e (by decide), fun e => absurd e (by decide), fun e => absurd e (by decide), fun _ => ⟨fun z => absurd ?_ c, fun _ => hQ _⟩, fun _ _ _ _ e => absurd rfl e⟩⟩
    rw [c16, if_pos z]
  · exact ⟨fun z => absurd z n1, fun _ => ⟨fun e => absurd e g0, fun e => absurd e g1, fun e => absurd e g2, fun e => absurd e g3, fun e => absurd e g4, fun _ _ _ _ _ => hQ _⟩⟩
