/-! the reference's whole text -/
theorem m_textL {m0 : mw_M} {n : Nat} {tb : Nat → Nat} {nm : Nat → Int32} (ht : TB n tb) {p1 p2 : Int32} {Q : Int32 → mw_M → Prop} {K1 : Int32 → Int32 → Int32 → mw_M → Prop} : ∀ k i v7 v8 μ, 240 ≤ i + 2 * k → MS m0 n tb nm μ i 0 → (v8 = 0 ∧ v7 = 0 ∨ v8 = 1) → (∀ μ' j ls x, pText tb n k i = (j, some ls) → MS m0 n tb nm μ' j 0 → n ≤ j → K1 0 (if v8 = 0 then txVal nm ls else v7) x μ') → (∀ μ' j x y, pText tb n k i = (j, none) → MS m0 n tb nm μ' j 0 → j < n → K1 0 x y μ') → (∀ μ' j x y, pText tb n k i = (j, none) → MF m0 n tb nm μ' j → K1 0 x y μ') → L11_workOut_33 p1 p2 Q K1 (k + 1) 1 v7 v8 μ := by
  intro k
  induction k with
  | zero =>
    intro i v7 v8 μ hk h
    have := h.1.2.2.1
    have := ht.1
    omega
  | succ k ih =>
    intro i v7 v8 μ hk h hv hS hN1 hN2
    have hi := h.1.2.2.1
    have gl := pLine_G ht hi
    unfold L11_workOut_33
    refine ⟨fun z => absurd z (by decide), fun _ => ?_⟩
    have tailF : ∀ j μ x y (QT : mw_M → Prop), pLine tb i = (j, none) → MF m0 n tb nm μ j → P11_takes 59 μ QT (fun μ => L11_workOut_33 p1 p2 Q K1 (k + 1) 0 x y μ) := fun j μ x y QT hj hm => by
      refine m_takesF hm ?_
      unfold L11_workOut_33
      refine ⟨fun _ => hN2 μ j x y ?_ hm, fun z => absurd rfl z⟩
      unfold pText
      rw [hj]
    have tail : ∀ j l μ x y, pLine tb i = (j, some l) → MS m0 n tb nm μ j 0 → (y = 0 ∧ x = 0 ∨ y = 1) → (∀ ls', (if y = 0 then txVal nm ls' else x) = (if v8 = 0 then txVal nm (l :: ls') else v7)) → P11_takes 59 μ (fun μ => L11_workOut_33 p1 p2 Q K1 (k + 1) 1 x y μ) (fun μ => L11_workOut_33 p1 p2 Q K1 (k + 1) 0 x y μ) := fun j l μ x y hj hm hy hval => by
      unfold pText at hS hN1 hN2
      rw [hj] at hS hN1 hN2 gl
      have gl2 := gl.2.2 l rfl
      simp only at hS hN1 hN2 gl gl2
      refine m_takes hm (s := 59) (by decide) (by decide) (fun q μ' h' => ?_) (fun q => ?_)
      · have hjn := ht.in (i := j) (by omega)
        rw [if_pos hjn, if_pos q] at hS hN1 hN2
        refine ih (j + 1) x y μ' (by omega) h' hy (fun μ2 t ls z hq h2 hn => ?_) (fun μ2 t z1 z2 hq h2 hn => ?_) (fun μ2 t z1 z2 hq h2 => ?_)
        · rw [hq] at hS
          have := hS μ2 t (l :: ls) z rfl h2 hn
          rw [hval ls]
          exact this
        · rw [hq] at hN1
          exact hN1 μ2 t z1 z2 rfl h2 hn
        · rw [hq] at hN2
          exact hN2 μ2 t z1 z2 rfl h2
      · unfold L11_workOut_33
        refine ⟨fun _ => ?_, fun z => absurd rfl z⟩
        by_cases c : j < n
        · rw [if_pos c, if_neg q] at hN1
          exact hN1 μ j x y rfl hm c
        · rw [if_neg c] at hS
          have := hS μ j [l] y rfl hm (by omega)
          have e := hval []
          rw [← e] at this
          rcases hy with ⟨e1, e2⟩ | e1
          · rw [if_pos e1] at this
            rw [e2]
            exact this
          · rw [if_neg (by rw [e1]; decide)] at this
            exact this
    have hE := m_E (m0 := m0) (nm := nm) ht
    refine hE.1 μ i _ h (fun μ13 j e hj h13 => ?_) (fun μ13 j v hj h13 => ?_)
    · refine m_takes h13 (s := 63) (by decide) (by decide) (fun q μ15 h15 => ?_) (fun q => ?_)
      · refine ⟨fun z => ?_, fun z => ?_⟩
        · refine hE.1 μ15 (j + 1) _ h15 (fun μ18 t e2 ht2 h18 => ?_) (fun μ18 t v ht2 h18 => ?_)
          · have hl : pLine tb i = (t, some (some e, e2)) := by unfold pLine; rw [hj]; simp only; rw [if_pos q, ht2]
            refine ⟨fun z2 => absurd z2 (m_nf h18), fun _ => tail t _ μ18 v7 v8 hl h18 hv (fun ls' => ?_)⟩
            show _ = if v8 = 0 then (if e.2 nm = 0 then txVal nm ls' else e2.2 nm) else v7
            rw [if_pos z]
          · have hl : pLine tb i = (t, none) := by unfold pLine; rw [hj]; simp only; rw [if_pos q, ht2]
            exact ⟨fun _ => tailF t μ18 _ _ _ hl h18, fun z => absurd (m_ff h18) z⟩
        · refine hE.1 μ15 (j + 1) _ h15 (fun μ18 t e2 ht2 h18 => ?_) (fun μ18 t v ht2 h18 => ?_)
          · have hl : pLine tb i = (t, some (some e, e2)) := by unfold pLine; rw [hj]; simp only; rw [if_pos q, ht2]
            refine ⟨fun z2 => absurd z2 (m_nf h18), fun _ => ⟨fun y => tail t _ μ18 _ _ hl h18 (Or.inr rfl) (fun ls' => ?_), fun y => tail t _ μ18 v7 v8 hl h18 hv (fun ls' => ?_)⟩⟩
            · show _ = if v8 = 0 then (if e.2 nm = 0 then txVal nm ls' else e2.2 nm) else v7
              rw [if_pos y, if_neg z, if_neg (by decide)]
            · rw [if_neg y, if_neg y]
          · have hl : pLine tb i = (t, none) := by unfold pLine; rw [hj]; simp only; rw [if_pos q, ht2]
            exact ⟨fun _ => tailF t μ18 _ _ _ hl h18, fun z => absurd (m_ff h18) z⟩
      · have hl : pLine tb i = (j, some (none, e)) := by unfold pLine; rw [hj]; simp only; rw [if_neg q]
        refine ⟨fun z2 => absurd z2 (m_nf h13), fun _ => ⟨fun y => tail j _ μ13 _ _ hl h13 (Or.inr rfl) (fun ls' => ?_), fun y => tail j _ μ13 v7 v8 hl h13 hv (fun ls' => ?_)⟩⟩
        · show _ = if v8 = 0 then e.2 nm else v7
          rw [if_pos y, if_neg (by decide)]
        · rw [if_neg y, if_neg y]
    · have hl : pLine tb i = (j, none) := by unfold pLine; rw [hj]
      exact m_takesF h13 ⟨fun _ => tailF j μ13 _ _ _ hl h13, fun z => absurd (m_ff h13) z⟩
/-- the reference works a text out: from the tape (p1 = -1) or from the laws' texts -/
theorem m_workOut {m : mw_M} {n : Nat} {tb : Nat → Nat} (ht : TB n tb) {p1 : Int32} (hp : (p1 = -1 ∧ ∀ k, k < n → m.1 10 k = nI (tb k)) ∨ ∃ bs : Nat, bs + n ≤ 480 ∧ p1 = nI bs ∧ ∀ k, k < n → m.1 11 (bs + k) = nI (tb k)) {Q : Int32 → mw_M → Prop} (hS : ∀ μ' j ls, pText tb n 120 0 = (j, some ls) → FM [] [19, 20, 21, 22, 23] m μ' → μ'.1 0 22 = -1 → Q (txVal (m.1 13) ls) μ') (hN : ∀ μ' j v, pText tb n 120 0 = (j, none) → FM [] [19, 20, 21, 22, 23] m μ' → j ≤ n → μ'.1 0 22 = nI j → Q v μ') : P11_workOut p1 (nI n) m Q := by
  unfold P11_workOut
  intro μ1 e1 μ2 e2 μ3 e3 μ4 e4 μ5 e5
  have hF : FM [] [19, 20, 21, 22, 23] m μ5 := by
    rw [e5, e4, e3, e2, e1]
    exact ((((FM.rf.O (by decide)).O (by decide)).O (by decide)).O (by decide)).O (by decide)
  have h20 : μ5.1 0 20 = nI 0 := by rw [e5, mw_I_nj (by decide), e4, mw_I_nj (by decide), e3, mw_I_nj (by decide), e2, mw_I_eq]; rfl
  have h21 : μ5.1 0 21 = nI n := by rw [e5, mw_I_nj (by decide), e4, mw_I_nj (by decide), e3, mw_I_eq]
  have h22 : μ5.1 0 22 = -1 := by rw [e5, mw_I_nj (by decide), e4, mw_I_eq]
  have h23 : μ5.1 0 23 = nI 0 := by rw [e5, mw_I_eq]; rfl
  have h19 : μ5.1 0 19 = p1 := by rw [e5, mw_I_nj (by decide), e4, mw_I_nj (by decide), e3, mw_I_nj (by decide), e2, mw_I_nj (by decide), e1, mw_I_eq]
  have h10 : μ5.1 10 = m.1 10 := (hF.1 10 (by decide) (by decide)).1
  have h11 : μ5.1 11 = m.1 11 := (hF.1 11 (by decide) (by decide)).1
  have h13 : μ5.1 13 = m.1 13 := (hF.1 13 (by decide) (by decide)).1
  have hM : MT μ5 n tb := by
    refine ⟨h21, ?_⟩
    rw [h19, h10, h11]
    exact hp
  have hst : MS μ5 n tb (m.1 13) μ5 0 0 := ⟨⟨FM.rf, h20, Nat.zero_le _, ht, hM, fun k _ => by rw [h13]⟩, h22, h23⟩
  have fm : ∀ μ', FM [] [20, 22, 23] μ5 μ' → FM [] [19, 20, 21, 22, 23] m μ' := fun μ' h => hF.tr (h.mono (fun _ q => q) (by decide))
  refine ⟨121, m_textL ht 120 0 0 0 μ5 (by decide) hst (Or.inl ⟨rfl, rfl⟩) (fun μ' j ls x hj h hn => ?_) (fun μ' j x y hj h hn => ?_) (fun μ' j x y hj h => ?_)⟩
  · refine ⟨fun z => absurd z (m_nf h), fun _ => ⟨fun _ => hS μ' j ls hj (fm _ h.1.1) h.2.1, fun z => absurd ?_ z⟩⟩
    have hn2 := ht.1
    have := h.1.2.2.1
    rw [h.1.2.1, (h.1.1.2 21 (by decide)).trans h21]
    exact nI_le hn (by omega)
  · have hn2 := ht.1
    refine ⟨fun z => absurd z (m_nf h), fun _ => ⟨fun z => absurd z ?_, fun _ => m_wrong h (fun μ2 h2 => hN μ2 j 0 hj (fm _ h2.1.1) (by omega) h2.2)⟩⟩
    rw [h.1.2.1, (h.1.1.2 21 (by decide)).trans h21, zle, nI_toInt (by omega), nI_toInt (by omega)]
    omega
  · exact ⟨fun _ => hN μ' j x hj (fm _ h.1.1) h.1.2.2.1 h.2, fun z => absurd (m_ff h) z⟩
