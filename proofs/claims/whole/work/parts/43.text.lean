/-! lines and the whole text -/
def okLN : LN → Prop
  | (none, e) => okE e
  | (some c, e) => okE c ∧ okE e
theorem pLine_G {n : Nat} {tb : Nat → Nat} (ht : TB n tb) {i : Nat} (hi : i ≤ n) : i ≤ (pLine tb i).1 ∧ (pLine tb i).1 ≤ n ∧ ∀ l, (pLine tb i).2 = some l → i + (lnCode l).length ≤ (pLine tb i).1 ∧ 1 ≤ (lnCode l).length ∧ okLN l := by
  have g := pE_G ht i hi
  unfold pLine
  cases hr : pE tb i with
  | mk j o =>
    rw [hr] at g
    cases o with
    | none => exact ⟨g.1, g.2.1, fun l hl => absurd hl (by simp)⟩
    | some e =>
      have g2 := g.2.2 e rfl
      simp only at g g2 ⊢
      by_cases c : tb j = 63
      · rw [if_pos c]
        have hj := ht.in (i := j) (by omega)
        have g' := pE_G ht (j + 1) hj
        cases hr2 : pE tb (j + 1) with
        | mk k o2 =>
          rw [hr2] at g'
          cases o2 with
          | none => exact ⟨by simp only at g' ⊢; omega, g'.2.1, fun l hl => absurd hl (by simp)⟩
          | some e2 =>
            have g3 := g'.2.2 e2 rfl
            simp only at g' g3 ⊢
            refine ⟨by omega, g'.2.1, fun l hl => ?_⟩
            have : (some e, e2) = l := Option.some.inj hl
            subst this
            have hll : (lnCode (some e, e2)).length = e.1.length + (e2.1.length + 1) := by
              show (e.1 ++ (10063 :: e2.1)).length = _
              rw [List.length_append, List.length_cons]
            exact ⟨by omega, by omega, g2.2.2, g3.2.2⟩
      · rw [if_neg c]
        refine ⟨g.1, g.2.1, fun l hl => ?_⟩
        have : (none, e) = l := Option.some.inj hl
        subst this
        exact g2
theorem x_line {a0 : mw_M} {b n : Nat} {tb : Nat → Nat} (hb : LB b) (ht : TB n tb) {μ : mw_M} {i : Nat} {pre : List Int32} {QT QF : mw_M → Prop} (h : XS a0 b n tb μ i pre) (hi : i ≤ n) (hp : pre.length ≤ i) (hT : ∀ μ' j l, pLine tb i = (j, some l) → XS a0 b n tb μ' j (pre ++ lnCode l) → QT μ') (hF : ∀ μ' j, pLine tb i = (j, none) → XF a0 b n μ' j → QF μ') : P7_lineIsRead μ QT QF := by
  unfold P7_lineIsRead
  have g := pE_G ht i hi
  have hn := ht.1
  unfold pLine at hT hF
  refine x_E hb ht μ i pre _ _ h hi hp (fun μ2 j e hj h2 => ?_) (fun μ2 j hj h2 => ?_)
  · rw [hj] at hT hF g
    have g2 := g.2.2 e rfl
    simp only at g g2 hT hF
    rw [show (63 : Int32) = nI 63 from rfl, x_isHere ht h2 g.2.1 (by decide) (by decide)]
    have ll : (pre ++ e.1).length = pre.length + e.1.length := List.length_append
    by_cases c : tb j = 63
    · rw [if_pos c] at hT hF ⊢
      have hjn := ht.in (i := j) (by omega)
      refine x_add hb h2 (by omega) (fun μ6 h6 μ7 e7 => ?_)
      have l2 : (pre ++ e.1 ++ [10063]).length = (pre ++ e.1).length + 1 := by rw [List.length_append, List.length_singleton]
      refine x_E hb ht μ7 (j + 1) _ _ _ (x_step hb h6 e7) hjn (by omega) (fun μ9 k e2 hk h9 => ?_) (fun μ9 k hk h9 => ?_)
      · rw [hk] at hT
        refine hT μ9 k _ rfl ?_
        rw [List.append_assoc, List.append_assoc] at h9
        exact h9
      · rw [hk] at hF
        exact hF μ9 k rfl h9
    · rw [if_neg c] at hT ⊢
      exact hT μ2 j _ rfl h2
  · rw [hj] at hF
    exact hF μ2 j rfl h2
theorem x_textL {a0 : mw_M} {b n d1 : Nat} {tb : Nat → Nat} (hb : LB b) (ht : TB n tb) {QT QF : mw_M → Prop} : ∀ k v μ i pre, v + k = 120 → XS a0 b n tb μ i pre → i ≤ n → pre.length ≤ i → (∀ μ' j ls, pText tb n k i = (j, some ls) → XS a0 b n tb μ' j (pre ++ txCode ls) → QT μ') → (∀ μ' j, pText tb n k i = (j, none) → XF a0 b n μ' j → QF μ') → L7_isReadInto_19 d1 QT QF (k + 1) (nI v) μ := by
  intro k
  induction k with
  | zero =>
    intro v μ i pre hv h hi hp hT hF
    have e : v = 120 := by omega
    subst e
    unfold L7_isReadInto_19
    exact ⟨fun _ => hF μ i rfl h.1, fun z => absurd (show (120 : Int32) ≤ nI 120 by decide) z⟩
  | succ k ih =>
    intro v μ i pre hv h hi hp hT hF
    have hn := ht.1
    have g := pLine_G ht hi
    unfold L7_isReadInto_19
    unfold pText at hT hF
    refine ⟨fun z => absurd z (by rw [zle, nI_toInt (by omega)]; simp only [Int32.reduceToInt]; omega), fun _ => ?_⟩
    refine x_line hb ht h hi hp (fun μ10 j l hj h10 => ?_) (fun μ10 j hj h10 => ?_)
    · rw [hj] at hT hF g
      have g2 := g.2.2 l rfl
      simp only at g g2 hT hF
      rw [h10.1.2.1, h10.1.2.2]
      have ll : (pre ++ lnCode l).length = pre.length + (lnCode l).length := List.length_append
      by_cases c : j < n
      · rw [if_pos c] at hT hF
        refine ⟨fun _ => ?_, fun z => absurd (nI_lt c (by omega)) z⟩
        rw [show (59 : Int32) = nI 59 from rfl, x_isHere ht h10 g.2.1 (by decide) (by decide)]
        by_cases c2 : tb j = 59
        · rw [if_pos c2] at hT hF ⊢
          refine x_add hb h10 (by omega) (fun μ15 h15 μ16 e16 x hx => ?_)
          rw [show nI v + 1 = nI (v + 1) from nI_add v 1] at hx
          subst hx
          have l2 : (pre ++ lnCode l ++ [10059]).length = (pre ++ lnCode l).length + 1 := by rw [List.length_append, List.length_singleton]
          refine ih (v + 1) μ16 (j + 1) _ (by omega) (x_step hb h15 e16) (by omega) (by omega) (fun μ' q ls hq h' => ?_) (fun μ' q hq h' => ?_)
          · rw [hq] at hT
            refine hT μ' q (l :: ls) rfl ?_
            rw [List.append_assoc, List.append_assoc] at h'
            cases ls with
            | nil =>
              exfalso
              revert hq
              cases k with
              | zero => unfold pText; intro hq; simp at hq
              | succ k =>
                unfold pText
                intro hq
                split at hq
                · simp at hq
                · split at hq
                  · split at hq
                    · split at hq <;> simp at hq
                    · simp at hq
                  · simp at hq
            | cons l2 ls => exact h'
          · rw [hq] at hF
            exact hF μ' q rfl h'
        · rw [if_neg c2] at hF ⊢
          exact hF μ10 j rfl h10.1
      · rw [if_neg c] at hT
        refine ⟨fun z => absurd z (nI_nlt (by omega) (by omega)), fun _ => hT μ10 j [l] rfl h10⟩
    · rw [hj] at hF
      exact hF μ10 j rfl h10
/-- what the tape holds, read into law b -/
theorem x_text {a : mw_M} {b n : Nat} {tb : Nat → Nat} (hb : LB b) (ht : TB n tb) (h1 : a.1 16 1 = nI n) (h17 : ∀ k, k < n → a.1 17 k = nI (tb k)) {QT QF : mw_M → Prop} (hT : ∀ μ' j ls, pText tb n 120 0 = (j, some ls) → XS a b n tb μ' j (txCode ls) → QT μ') (hF : ∀ μ' j, pText tb n 120 0 = (j, none) → XF a b n μ' j → QF μ') : P7_isReadInto b a QT QF := by
  unfold P7_isReadInto
  have g := hb.ge
  intro μ1 e1
  have e3 : μ1.1 16 3 = nI b := by rw [e1]; exact mw_I_eq
  rw [e3]
  refine ⟨hb.at.1, ?_⟩
  rw [hb.at.2]
  intro μ3 e4 μ4 e5
  refine ⟨121, x_textL hb ht 120 0 μ4 0 [] rfl ?_ (Nat.zero_le _) (Nat.le_refl _) (fun μ' j ls hj h' => hT μ' j ls hj h') hF⟩
  subst e5; subst e4; subst e1
  refine ⟨⟨((FX.rf.I (by simp)).I (by simp)).I (by simp), ?_, mw_I_eq⟩, ?_, ?_, fun k hk => absurd hk (Nat.not_lt_zero _), fun k hk => ?_⟩
  · rw [mw_I_nj (by decide), mw_I_ne (by omega), mw_I_nj (by decide)]; exact h1
  · rw [mw_I_nj (by decide), mw_I_ne (by omega)]; exact mw_I_eq
  · rw [mw_I_ne (by omega)]; exact mw_I_eq
  · rw [mw_I_ne (by omega), mw_I_ne (by omega), mw_I_ne (by omega)]; exact h17 k hk
