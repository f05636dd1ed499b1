/-! a rule's pace, and what the water law lets out -/
def clM (m : mw_M) : Nat → mw_M
  | 0 => m
  | k + 1 => mw_I (clM m k) 13 k 0
theorem clM_F {m : mw_M} : ∀ k, FM [13] [] m (clM m k)
  | 0 => FM.rf
  | k + 1 => (clM_F k).I (by decide) (by decide)
theorem clM_get {m : mw_M} : ∀ k j, j < k → (clM m k).1 13 j = 0
  | 0, j, h => absurd h (Nat.not_lt_zero _)
  | k + 1, j, h => by
    unfold clM
    rw [mw_I_get]
    by_cases c : j = k
    · rw [if_pos ⟨rfl, c⟩]
    · rw [if_neg (fun q => c q.2)]
      exact clM_get k j (by omega)
theorem s11_clear {m : mw_M} {Q : mw_M → Prop} (hQ : ∀ v, FM [13] [] m v → (∀ k, k < 9 → v.1 13 k = 0) → Q v) : P11_clearNames m Q := by
  unfold P11_clearNames
  have L : ∀ k i, i + k = 9 → L11_clearNames_2 Q (k + 1) (nI i) (clM m i) := by
    intro k
    induction k with
    | zero =>
      intro i hi
      have e : i = 9 := by omega
      subst e
      unfold L11_clearNames_2
      exact ⟨fun _ => hQ _ (clM_F 9) (clM_get 9), fun z => absurd (by decide) z⟩
    | succ k ih =>
      intro i hi
      unfold L11_clearNames_2
      refine ⟨fun z => absurd z (by rw [zle, nI_toInt (by omega)]; simp only [Int32.reduceToInt]; omega), fun _ => ⟨vp_in_nI (by omega) (by decide), fun μ6 e6 x hx => ?_⟩⟩
      rw [nI_clamp (by omega)] at e6
      rw [show nI i + 1 = nI (i + 1) from nI_add i 1] at hx
      rw [hx, e6]
      exact ih (i + 1) (by omega)
  exact ⟨10, L 9 0 rfl⟩
/-- the pace that rule i gives -/
theorem op_pace {a m : mw_M} (hR : RLaws a m) {i nl : Nat} (hnl : nl ≤ 4) (h3 : a.1 15 3 = nI nl) (hi : i < nl) {p2 p3 p4 p5 p6 p7 : Int32} {Q : Int32 → Int32 → mw_M → mw_M → Prop} (hQ : ∀ (p : Nat) u v, p ≤ 1200 → FX [19, 20 + 3 * i, 20 + 3 * i + 2] a u → (∀ j, j ≠ 3 → u.1 (20 + 3 * i) j = a.1 (20 + 3 * i) j) → FM [13] [19, 20, 21, 22, 23] m v → Q (nI p) (nI p) u v) : P4_paceBy (nI i) p2 p3 p4 p5 p6 p7 a (fun r u => P11_ruled (nI i) p2 p3 p4 p5 p6 p7 m (fun r' v => Q r r' u v)) := by
  unfold P4_paceBy P4_name
  simp only [forall_eq]
  rw [ch4_has hnl (by simp (config := { decide := true }) only [mw_I_get, false_and, if_false]; exact h3), if_pos (by rw [nI_toInt (by omega)]; omega)]
  refine ⟨vp_in_nI (by omega) (by decide), ?_⟩
  rw [nI_clamp (by omega)]
  generalize ha : mw_I (mw_I (mw_I (mw_I (mw_I (mw_I (mw_I (mw_I (mw_I (mw_I (mw_I a 19 0 0) 19 1 0) 19 2 p2) 19 3 p3) 19 4 0) 19 5 0) 19 6 0) 19 7 p6) 19 8 p7) 19 5 p4) 19 6 p5 = a'
  have fa : FX [19] a a' := by
    rw [← ha]
    exact ((((((((((FX.rf.I (by decide)).I (by decide)).I (by decide)).I (by decide)).I (by decide)).I (by decide)).I (by decide)).I (by decide)).I (by decide)).I (by decide)).I (by decide)
  have na : ∀ k, k < 9 → a'.1 19 k = if k = 2 then p2 else if k = 3 then p3 else if k = 5 then p4 else if k = 6 then p5 else if k = 7 then p6 else if k = 8 then p7 else 0 := by
    intro k hk
    rw [← ha]
    rcases (show k = 0 ∨ k = 1 ∨ k = 2 ∨ k = 3 ∨ k = 4 ∨ k = 5 ∨ k = 6 ∨ k = 7 ∨ k = 8 by omega) with rfl | rfl | rfl | rfl | rfl | rfl | rfl | rfl | rfl
    all_goals simp (config := { decide := true }) only [mw_I_get, true_and, false_and, if_true, if_false]
  have hb := LB_of (show i < 4 by omega)
  have hbg := hb.ge
  obtain ⟨nl', n4, q1, q2, q3, q4, q5⟩ := hR
  rw [h3, nI_eq (by omega) (by omega)] at q1
  subst q1
  obtain ⟨n, tb, j, ls, g1, g2, g3, g4, g5, g6⟩ := q5 i hi
  have gt := pText_G g1 120 0 (Nat.zero_le _) j ls g4
  have hn1 := g1.1
  refine x_worth hb gt.2.1 gt.2.2.1 (by have := gt.2.2.2; omega) (by rw [(fa (20 + 3 * i) (by simp; omega)).1]; exact g5) (by rw [(fa (20 + 3 * i + 1) (by simp; omega)).1]; exact g6) (fun u hu hj => ?_)
  unfold P11_ruled
  refine s11_clear (fun v hv hz => ?_)
  simp only [forall_eq]
  refine ⟨vp_in_nI (by omega) (by decide), ?_⟩
  rw [nI_clamp (by omega), show (120 : Int32) * nI i = nI (120 * i) from pk_mul 120 i]
  generalize hm : mw_I (mw_I (mw_I (mw_I (mw_I (mw_I v 13 2 p2) 13 3 p3) 13 5 p4) 13 6 p5) 13 7 p6) 13 8 p7 = m'
  have fm : FM [13] [] m m' := by
    rw [← hm]
    exact (((((hv.I (by decide) (by decide)).I (by decide) (by decide)).I (by decide) (by decide)).I (by decide) (by decide)).I (by decide) (by decide)).I (by decide) (by decide)
  have nm : ∀ k, k < 9 → m'.1 13 k = if k = 2 then p2 else if k = 3 then p3 else if k = 5 then p4 else if k = 6 then p5 else if k = 7 then p6 else if k = 8 then p7 else 0 := by
    intro k hk
    rw [← hm]
    rcases (show k = 0 ∨ k = 1 ∨ k = 2 ∨ k = 3 ∨ k = 4 ∨ k = 5 ∨ k = 6 ∨ k = 7 ∨ k = 8 by omega) with rfl | rfl | rfl | rfl | rfl | rfl | rfl | rfl | rfl
    all_goals simp (config := { decide := true }) only [mw_I_get, true_and, false_and, if_true, if_false, hz]
  have m12 : m'.1 12 = m.1 12 := (fm.1 12 (by decide) (by decide)).1
  have m11 : m'.1 11 = m.1 11 := (fm.1 11 (by decide) (by decide)).1
  rw [m12, g2]
  have ec : txVal (a'.1 19) ls = txVal (m'.1 13) ls := tx_cong (fun k hk => by rw [na k hk, nm k hk]) ls gt.2.2.1
  refine m_workOut g1 (Or.inr ⟨120 * i, by omega, rfl, by rw [m11]; exact g3⟩) (fun w j' ls' h1 h2 h3 => ?_) (fun w j' x h1 h2 h3 h4 => ?_)
  · rw [g4] at h1
    simp only [Prod.mk.injEq, Option.some.injEq] at h1
    obtain ⟨rfl, rfl⟩ := h1
    rw [ec]
    have fin : ∀ p : Nat, p ≤ 1200 → Q (nI p) (nI p) u w := fun p hp => hQ p u w hp ((fa.mono (by simp)).tr (hu.mono (by simp))) (fun j hj2 => by rw [hj j hj2, (fa (20 + 3 * i) (by simp; omega)).1]) ((fm.mono (by simp) (by simp)).tr (h2.mono (by simp) (by simp)))
    generalize txVal (m'.1 13) ls = r
    refine ⟨fun c => ⟨fun c2 => ?_, fun c2 => ?_⟩, fun c => ?_⟩
    · obtain ⟨p, hp, rfl⟩ := nI_get (x := r) (by rw [zle] at c; simpa using c)
      rw [zle, nI_toInt hp] at c2
      simp only [Int32.reduceToInt] at c2
      have e : mw_max 0 (mw_min 1200 (nI p)) = nI p := by
        unfold mw_max mw_min
        by_cases d : nI p < 1200
        · rw [if_pos d]
          by_cases d2 : 0 < nI p
          · rw [if_pos d2]
          · rw [if_neg d2]
            rw [zlt, nI_toInt hp] at d2
            simp only [Int32.reduceToInt] at d2
            have : p = 0 := by omega
            rw [this]; rfl
        · rw [if_neg d]
          rw [zlt, nI_toInt hp] at d
          simp only [Int32.reduceToInt] at d
          have : p = 1200 := by omega
          rw [this]; decide
      rw [e]
      exact fin p (by omega)
    · have e : mw_max 0 (mw_min 1200 r) = nI 1200 := by
        unfold mw_max mw_min
        rw [if_neg (show ¬ r < 1200 by rw [zle] at c2; rw [zlt]; omega)]
        rfl
      rw [e]
      exact fin 1200 (Nat.le_refl _)
    · have e : mw_max 0 (mw_min 1200 r) = nI 0 := by
        unfold mw_max mw_min
        rw [zle] at c
        simp only [Int32.reduceToInt] at c
        rw [if_pos (show r < 1200 by rw [zlt]; simp only [Int32.reduceToInt]; omega), if_neg (show ¬ 0 < r by rw [zlt]; simp only [Int32.reduceToInt]; omega)]
        rfl
      rw [e]
      exact fin 0 (Nat.zero_le _)
  · rw [g4] at h1
    simp at h1
