/-! a rule's pace, each side by itself -/
def LAWl (a : mw_M) (i : Nat) (ls : List LN) : Prop := i < 4 ∧ ls ≠ [] ∧ (∀ l ∈ ls, okLN l) ∧ (txCode ls).length ≤ 120 ∧ a.1 (20 + 3 * i) 2 = nI (txCode ls).length ∧ ∀ k, k < (txCode ls).length → a.1 (20 + 3 * i + 1) k = (txCode ls).getD k 0
def LAWm (m : mw_M) (i : Nat) (ls : List LN) : Prop := i < 4 ∧ (∀ l ∈ ls, okLN l) ∧ ∃ (n j : Nat) (tb : Nat → Nat), TB n tb ∧ m.1 12 i = nI n ∧ (∀ k, k < n → m.1 11 (120 * i + k) = nI (tb k)) ∧ pText tb n 120 0 = (j, some ls)
theorem LAW.two {a m : mw_M} {i : Nat} (hi : i < 4) (h : LAW a m i) : ∃ ls, LAWl a i ls ∧ LAWm m i ls := by
  obtain ⟨n, tb, j, ls, g1, g2, g3, g4, g5, g6⟩ := h
  have gt := pText_G g1 120 0 (Nat.zero_le _) j ls g4
  have hn1 := g1.1
  exact ⟨ls, ⟨hi, gt.2.1, gt.2.2.1, by have := gt.2.2.2; omega, g5, g6⟩, ⟨hi, gt.2.2.1, n, j, tb, g1, g2, g3, g4⟩⟩
def rNm (p2 p3 p4 p5 p6 p7 : Int32) (k : Nat) : Int32 := if k = 2 then p2 else if k = 3 then p3 else if k = 5 then p4 else if k = 6 then p5 else if k = 7 then p6 else if k = 8 then p7 else 0
def pcN (ls : List LN) (p2 p3 p4 p5 p6 p7 : Int32) : Nat := clN 1200 (txVal (rNm p2 p3 p4 p5 p6 p7) ls)
theorem pcN_le {ls : List LN} {p2 p3 p4 p5 p6 p7 : Int32} : pcN ls p2 p3 p4 p5 p6 p7 ≤ 1200 := by
  unfold pcN clN
  split
  · omega
  · split
    · omega
    · rename_i h1 h2
      rw [zlt, nI_toInt (by omega)] at h2
      omega
theorem s4_pace {a : mw_M} {i nl : Nat} {ls : List LN} (hl : LAWl a i ls) (hnl : nl ≤ 4) (h3 : a.1 15 3 = nI nl) (hi : i < nl) {p2 p3 p4 p5 p6 p7 : Int32} {Q : Int32 → mw_M → Prop} (hQ : ∀ u, FX [19, 20 + 3 * i, 20 + 3 * i + 2] a u → (∀ j, j ≠ 3 → u.1 (20 + 3 * i) j = a.1 (20 + 3 * i) j) → Q (nI (pcN ls p2 p3 p4 p5 p6 p7)) u) : P4_paceBy (nI i) p2 p3 p4 p5 p6 p7 a Q := by
  unfold P4_paceBy P4_name
  simp only [forall_eq]
  rw [ch4_has hnl (by simp (config := { decide := true }) only [mw_I_get, false_and, if_false]; exact h3), if_pos (by rw [nI_toInt (by omega)]; omega)]
  refine ⟨vp_in_nI (by omega) (by decide), ?_⟩
  rw [nI_clamp (by omega)]
  generalize ha : mw_I (mw_I (mw_I (mw_I (mw_I (mw_I (mw_I (mw_I (mw_I (mw_I (mw_I a 19 0 0) 19 1 0) 19 2 p2) 19 3 p3) 19 4 0) 19 5 0) 19 6 0) 19 7 p6) 19 8 p7) 19 5 p4) 19 6 p5 = a'
  have fa : FX [19] a a' := by
    rw [← ha]
    exact ((((((((((FX.rf.I (by decide)).I (by decide)).I (by decide)).I (by decide)).I (by decide)).I (by decide)).I (by decide)).I (by decide)).I (by decide)).I (by decide)).I (by decide)
  have na : ∀ k, k < 9 → a'.1 19 k = rNm p2 p3 p4 p5 p6 p7 k := by
    intro k hk
    rw [← ha]
    unfold rNm
    rcases (show k = 0 ∨ k = 1 ∨ k = 2 ∨ k = 3 ∨ k = 4 ∨ k = 5 ∨ k = 6 ∨ k = 7 ∨ k = 8 by omega) with rfl | rfl | rfl | rfl | rfl | rfl | rfl | rfl | rfl
    all_goals simp (config := { decide := true }) only [mw_I_get, true_and, false_and, if_true, if_false]
  obtain ⟨l1, l2, l3, l4, l5, l6⟩ := hl
  refine x_worth (LB_of l1) l2 l3 l4 (by rw [(fa (20 + 3 * i) (by simp; omega)).1]; exact l5) (by rw [(fa (20 + 3 * i + 1) (by simp; omega)).1]; exact l6) (fun u hu hj => ?_)
  rw [tx_cong na ls l3, show (1200 : Int32) = nI 1200 from rfl, clN_mm (Nat.le_refl _)]
  exact hQ u ((fa.mono (by simp)).tr (hu.mono (by simp))) (fun j hj2 => by rw [hj j hj2, (fa (20 + 3 * i) (by simp; omega)).1])
theorem s11_ruled {m : mw_M} {i : Nat} {ls : List LN} (hl : LAWm m i ls) {p2 p3 p4 p5 p6 p7 : Int32} {Q : Int32 → mw_M → Prop} (hQ : ∀ v, FM [13] [19, 20, 21, 22, 23] m v → Q (nI (pcN ls p2 p3 p4 p5 p6 p7)) v) : P11_ruled (nI i) p2 p3 p4 p5 p6 p7 m Q := by
  obtain ⟨l1, l2, n, j, tb, g1, g2, g3, g4⟩ := hl
  have hn1 := g1.1
  unfold P11_ruled
  refine s11_clear (fun v hv hz => ?_)
  simp only [forall_eq]
  refine ⟨vp_in_nI (by omega) (by decide), ?_⟩
  rw [nI_clamp (by omega), show (120 : Int32) * nI i = nI (120 * i) from pk_mul 120 i]
  generalize hm : mw_I (mw_I (mw_I (mw_I (mw_I (mw_I v 13 2 p2) 13 3 p3) 13 5 p4) 13 6 p5) 13 7 p6) 13 8 p7 = m'
  have fm : FM [13] [] m m' := by
    rw [← hm]
    exact (((((hv.I (by decide) (by decide)).I (by decide) (by decide)).I (by decide) (by decide)).I (by decide) (by decide)).I (by decide) (by decide)).I (by decide) (by decide)
  have nm : ∀ k, k < 9 → m'.1 13 k = rNm p2 p3 p4 p5 p6 p7 k := by
    intro k hk
    rw [← hm]
    unfold rNm
    rcases (show k = 0 ∨ k = 1 ∨ k = 2 ∨ k = 3 ∨ k = 4 ∨ k = 5 ∨ k = 6 ∨ k = 7 ∨ k = 8 by omega) with rfl | rfl | rfl | rfl | rfl | rfl | rfl | rfl | rfl
    all_goals simp (config := { decide := true }) only [mw_I_get, true_and, false_and, if_true, if_false, hz]
  have m12 : m'.1 12 = m.1 12 := (fm.1 12 (by decide) (by decide)).1
  have m11 : m'.1 11 = m.1 11 := (fm.1 11 (by decide) (by decide)).1
  rw [m12, g2]
  refine m_workOut g1 (Or.inr ⟨120 * i, by omega, rfl, by rw [m11]; exact g3⟩) (fun w j' ls' h1 h2 h3 => ?_) (fun w j' x h1 h2 h3 h4 => ?_)
  · rw [g4] at h1
    simp only [Prod.mk.injEq, Option.some.injEq] at h1
    obtain ⟨rfl, rfl⟩ := h1
    rw [tx_cong nm ls l2]
    have fin := hQ w ((fm.mono (by simp) (by simp)).tr (h2.mono (by simp) (by simp)))
    unfold pcN clN at fin
    generalize txVal (rNm p2 p3 p4 p5 p6 p7) ls = r at fin ⊢
    refine ⟨fun c => ⟨fun c2 => ?_, fun c2 => ?_⟩, fun c => ?_⟩
    · rw [if_neg (by rw [zle] at c; rw [zlt]; omega), if_neg (show ¬ nI 1200 < r by rw [zle] at c2; rw [zlt]; exact Int.not_lt.2 c2)] at fin
      have er : r = nI r.toInt.toNat := nI_of_toInt (by rw [zle] at c; simp only [Int32.reduceToInt] at c; omega)
      rw [← er] at fin
      exact fin
    · rw [if_neg (by rw [zle] at c; rw [zlt]; omega), if_pos (show nI 1200 < r by rw [zle] at c2; rw [zlt]; exact Int.not_le.1 c2)] at fin
      exact fin
    · rw [if_pos (by rw [zle] at c; rw [zlt]; omega)] at fin
      exact fin
  · rw [g4] at h1
    simp at h1
