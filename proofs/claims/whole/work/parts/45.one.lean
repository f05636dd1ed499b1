/-! the reference's operand and all of an expression -/
theorem m_open {m0 μ : mw_M} {n i o : Nat} {tb : Nat → Nat} {nm : Nat → Int32} (h : MS m0 n tb nm μ i o) (h0 : tb i ≠ 0) : MS m0 n tb nm (mw_I (mw_I μ 0 23 (μ.1 0 23 + 1)) 0 20 ((mw_I μ 0 23 (μ.1 0 23 + 1)).1 0 20 + 1)) (i + 1) (o + 1) := by
  refine m_step ?_ h0 rfl
  obtain ⟨⟨hF, h1, hi, h3⟩, h4, h5⟩ := h
  rw [h5, show nI o + 1 = nI (o + 1) from nI_add o 1]
  exact ⟨⟨hF.O (by decide), (mw_I_nj (by decide)).trans h1, hi, h3⟩, (mw_I_nj (by decide)).trans h4, mw_I_eq⟩
theorem m_numL {m0 : mw_M} {n o : Nat} {tb : Nat → Nat} {nm : Nat → Int32} {c1 c6 : mw_M → (Int32 → mw_M → Prop) → Prop} {r79 r2 : Int32} {Q : Int32 → mw_M → Prop} {K1 : Int32 → Int32 → mw_M → Prop} : ∀ k c v μ i, c + k = 4 → 1 ≤ c → MS m0 n tb nm μ i o → (∀ μ' j w d, pNum tb k i v = (j, some (eNum w)) → 1 ≤ d → d ≤ 4 → MS m0 n tb nm μ' j o → K1 (nI d) (nI w) μ') → L11_one_176 c1 c6 r79 r2 Q K1 (k + 1) (nI c) (nI v) μ := by
  intro k
  induction k with
  | zero =>
    intro c v μ i hc h1 h hT
    have e : c = 4 := by omega
    subst e
    unfold L11_one_176
    exact ⟨fun _ => hT μ i v 4 rfl (by decide) (by decide) h, fun z => absurd (show (4 : Int32) ≤ nI 4 by decide) z⟩
  | succ k ih =>
    intro c v μ i hc h1 h hT
    have ht := h.1.2.2.2.1
    have hti := (ht.2 i).1
    unfold L11_one_176
    unfold pNum at hT
    refine ⟨fun z => absurd z (by rw [zle, nI_toInt (by omega)]; simp only [Int32.reduceToInt]; omega), fun _ => ?_⟩
    simp only [m_byte h.1]
    have E := ch7_isDigit hti (QT := ∀ x95 : Int32, x95 = (((10 * nI v) + nI (tb i)) - 48) → (∀ x96 : Int32, x96 = nI c + 1 → (∀ μ97 : mw_M, μ97 = mw_I μ 0 20 ((μ.1 0 20) + 1) → L11_one_176 c1 c6 r79 r2 Q K1 (k + 1) x96 x95 μ97))) (QF := K1 (nI c) (nI v) μ)
    unfold P7_isDigit at E
    rw [E]
    by_cases d : dgt (tb i) = true
    · rw [if_pos d] at hT ⊢
      intro x hx y hy μ' e'
      have cc : 48 ≤ tb i ∧ tb i ≤ 57 := by unfold dgt at d; simp at d; exact d
      have ex : x = nI (v * 10 + (tb i - 48)) := by
        rw [hx, show (10 : Int32) = nI 10 from rfl, pk_mul, nI_add, show (48 : Int32) = nI 48 from rfl, pk_sub (by omega)]
        congr 1; omega
      rw [show nI c + 1 = nI (c + 1) from nI_add c 1] at hy
      rw [hy, ex]
      exact ih (c + 1) _ μ' (i + 1) (by omega) (by omega) (m_step h (by omega) e') hT
    · rw [if_neg d] at hT ⊢
      exact hT μ i v c rfl h1 (by omega) h
theorem m_one {m0 : mw_M} {n : Nat} {tb : Nat → Nat} {nm : Nat → Int32} {c1 c6 : mw_M → (Int32 → mw_M → Prop) → Prop} {r : Nat} (hr : r ≤ 6) (h1 : 0 < r → MP m0 n tb nm (6 - r + 1) c1 (pLv tb (pOp tb (r - 1)) 5)) (h6 : 0 < r → MP m0 n tb nm (6 - r + 1) c6 (pOp tb (r - 1))) : MP m0 n tb nm (6 - r) (S11_one c1 c6) (pOp tb r) := by
  refine ⟨fun μ i Q h hT hF => ?_, fun μ j Q h hQ => ?_⟩
  · unfold S11_one
    have ht := h.1.2.2.2.1
    have hti := (ht.2 i).1
    refine ⟨fun _ => ?_, fun z => absurd (show μ.1 0 22 < 0 by rw [h.2.1]; decide) z⟩
    rw [m_byte h.1]
    have E33 := nIe hti 33 (by decide)
    have E45 := nIe hti 45 (by decide)
    have E40 := nIe hti 40 (by decide)
    change (nI (tb i) = 33) = _ at E33
    change (nI (tb i) = 45) = _ at E45
    change (nI (tb i) = 40) = _ at E40
    rw [E33, E45, E40]
    have e6 : (μ.1 0 23 = 6) = (r = 0) := by
      rw [h.2.2]
      exact propext ⟨fun q => by have := (nI_eq (a := 6 - r) (b := 6) (by omega) (by decide)).1 q; omega, fun q => by subst q; rfl⟩
    rw [e6]
    have ho := fun (h0 : tb i ≠ 0) => m_open h h0
    refine ⟨fun q => ⟨fun r0 => ?_, fun r0 => ?_⟩, fun q1 => ⟨fun q => ⟨fun r0 => ?_, fun r0 => ?_⟩, fun q2 => ⟨fun q => ⟨fun r0 => ?_, fun r0 => ?_⟩, fun q3 => ?_⟩⟩⟩
    · subst r0
      exact m_wrong h (fun μ' h' => hF μ' i 0 (pOp_z (by rw [q]; decide) (by rw [q]; rfl) (Or.inr rfl)) h')
    · obtain ⟨r', rfl⟩ : ∃ k, r = k + 1 := ⟨r - 1, by omega⟩
      rw [pOp_33 q] at hT hF
      have ho := ho (by omega)
      simp (config := { decide := true }) only [q, forall_eq, true_imp_iff, false_imp_iff, and_true, true_and, not_true, not_false_iff]
      refine (h6 (by omega)).1 _ (i + 1) _ ho (fun μ2 j e hj h2 => ?_) (fun μ2 j v hj h2 => ?_)
      · have hj' : pOp tb r' (i + 1) = (j, some e) := hj
        rw [hj'] at hT
        have rr := hT _ j (eInv e) rfl (m_close h2 rfl)
        have ev : (eInv e).2 nm = if e.2 nm = 0 then 1 else 0 := rfl
        rw [ev] at rr
        exact ⟨fun z => by rw [if_pos z] at rr; exact rr, fun z => by rw [if_neg z] at rr; exact rr⟩
      · have hj' : pOp tb r' (i + 1) = (j, none) := hj
        rw [hj'] at hF
        have rr := fun v => hF _ j v rfl (m_closeF h2 (v := μ2.1 0 23 - 1) rfl)
        exact ⟨fun _ => rr _, fun _ => rr _⟩
    · subst r0
      exact m_wrong h (fun μ' h' => hF μ' i 0 (pOp_z (by rw [q]; decide) (by rw [q]; rfl) (Or.inr rfl)) h')
    · obtain ⟨r', rfl⟩ : ∃ k, r = k + 1 := ⟨r - 1, by omega⟩
      rw [pOp_45 q] at hT hF
      have ho := ho (by omega)
      simp (config := { decide := true }) only [q, forall_eq, true_imp_iff, false_imp_iff, and_true, true_and, not_true, not_false_iff]
      refine (h6 (by omega)).1 _ (i + 1) _ ho (fun μ2 j e hj h2 => ?_) (fun μ2 j v hj h2 => ?_)
      · have hj' : pOp tb r' (i + 1) = (j, some e) := hj
        rw [hj'] at hT
        exact hT _ j (eNeg e) rfl (m_close h2 rfl)
      · have hj' : pOp tb r' (i + 1) = (j, none) := hj
        rw [hj'] at hF
        exact hF _ j _ rfl (m_closeF h2 (v := μ2.1 0 23 - 1) rfl)
    · subst r0
      exact m_wrong h (fun μ' h' => hF μ' i 0 (pOp_z (by rw [q]; decide) (by rw [q]; rfl) (Or.inr rfl)) h')
    · obtain ⟨r', rfl⟩ : ∃ k, r = k + 1 := ⟨r - 1, by omega⟩
      rw [pOp_40 q] at hT hF
      have ho := ho (by omega)
      simp (config := { decide := true }) only [q, forall_eq, true_imp_iff, false_imp_iff, and_true, true_and, not_true, not_false_iff]
      refine (h1 (by omega)).1 _ (i + 1) _ ho (fun μ2 j e hj h2 => ?_) (fun μ2 j v hj h2 => ?_)
      · have hj' : pLv tb (pOp tb r') 5 (i + 1) = (j, some e) := hj
        rw [hj'] at hT hF
        simp only at hT hF
        refine m_takes h2 (s := 41) (by decide) (by decide) (fun c μ3 h3 => ?_) (fun c => ?_)
        · rw [if_pos c] at hT
          exact hT _ (j + 1) e rfl (m_close h3 rfl)
        · rw [if_neg c] at hF
          exact m_wrong h2 (fun μ' h' => hF μ' j 0 rfl h')
      · have hj' : pLv tb (pOp tb r') 5 (i + 1) = (j, none) := hj
        rw [hj'] at hF
        exact m_takesF h2 (m_wrongF h2 (fun μ' h' => hF μ' j 0 rfl h'))
    · have en := x_name hti (Q := fun r79 => ((r79 < 0 → (∃ n85, L11_one_176 c1 c6 r79 (nI (tb i)) Q (fun v82 v83 μ84 => ((v82 = 0 → P11_wrong μ84 (fun r99 μ100 => Q r99 μ100)) ∧ (¬ v82 = 0 → Q v83 μ84))) n85 0 0 μ)) ∧ (¬ r79 < 0 → (∀ μ101 : mw_M, μ101 = mw_I μ 0 20 ((μ.1 0 20) + 1) → (vp_in r79 9 ∧ Q (μ101.1 13 r79.toNatClampNeg) μ101)))))
      unfold P3_nameOf at en
      unfold P11_nameOf
      rw [en]
      cases hk : nmk (tb i) with
      | some k =>
        have hk9 := nmk_0 hk
        simp only
        refine ⟨fun z => absurd z (nI_nlt (b := 0) (by omega) (by omega)), fun _ μ' e' => ⟨vp_in_nI hk9.2 (by decide), ?_⟩⟩
        rw [nI_clamp (by omega)]
        have h' := m_step h hk9.1 e'
        have hd : ¬ dgt (tb i) = true := fun z => by
          unfold dgt at z
          simp only [Bool.and_eq_true, decide_eq_true_eq] at z
          unfold nmk at hk
          rw [if_neg (by omega), if_neg (by omega), if_neg (by omega), if_neg (by omega), if_neg (by omega), if_neg (by omega), if_neg (by omega), if_neg (by omega), if_neg (by omega)] at hk
          exact absurd hk (by simp)
        have rr := hT μ' (i + 1) (eNam k) (pOp_n hd hk) h'
        have ev : (eNam k).2 nm = μ'.1 13 k := by
          rw [(h'.1.1.1 13 (by decide) (by decide)).1, h'.1.2.2.2.2.2 k hk9.2]
          rfl
        rw [ev] at rr
        exact rr
      | none =>
        simp only
        refine ⟨fun _ => ⟨5, ?_⟩, fun z => absurd (show (-1 : Int32) < 0 by decide) z⟩
        unfold L11_one_176
        refine ⟨fun z => absurd z (by decide), fun _ => ?_⟩
        simp only [m_byte h.1]
        have E := ch7_isDigit hti (QT := ∀ x95 : Int32, x95 = (((10 * 0) + nI (tb i)) - 48) → (∀ x96 : Int32, x96 = 0 + 1 → (∀ μ97 : mw_M, μ97 = mw_I μ 0 20 ((μ.1 0 20) + 1) → L11_one_176 c1 c6 (-1) (nI (tb i)) Q (fun v82 v83 μ84 => ((v82 = 0 → P11_wrong μ84 (fun r99 μ100 => Q r99 μ100)) ∧ (¬ v82 = 0 → Q v83 μ84))) 4 x96 x95 μ97))) (QF := ((True → P11_wrong μ (fun r99 μ100 => Q r99 μ100)) ∧ (¬ True → Q 0 μ)))
        unfold P7_isDigit at E
        rw [E]
        by_cases d : dgt (tb i) = true
        · rw [if_pos d]
          intro x hx y hy μ' e'
          have cc : 48 ≤ tb i ∧ tb i ≤ 57 := by unfold dgt at d; simp at d; exact d
          have ex : x = nI (0 * 10 + (tb i - 48)) := by
            rw [hx, show ((10 : Int32) * 0) = nI 0 from rfl, nI_add, show (48 : Int32) = nI 48 from rfl, pk_sub (by omega)]
            congr 1; omega
          have ey : y = nI 1 := hy
          rw [ey, ex]
          have e := pOp_d (r := r) d
          unfold pNum at e
          rw [if_pos d] at e
          rw [e] at hT
          refine m_numL 3 1 _ μ' (i + 1) rfl (Nat.le_refl _) (m_step h (by omega) e') (fun μ2 j w c' hj hc hc2 h2 => ⟨fun z => ?_, fun _ => hT μ2 j _ hj h2⟩)
          exact absurd z (by rw [show (0 : Int32) = nI 0 from rfl, nI_eq (by omega) (by decide)]; omega)
        · rw [if_neg d]
          exact ⟨fun _ => m_wrong h (fun μ' h' => hF μ' i 0 (pOp_z d hk (Or.inl ⟨q3, q1, q2⟩)) h'), fun z => absurd trivial z⟩
  · unfold S11_one
    refine ⟨fun z => absurd z (by have := m_ff h; rw [zle] at this; rw [zlt]; omega), fun _ => hQ μ 0 h⟩
/-- six levels over an operand -/
theorem m_up {m0 : mw_M} {n o : Nat} {tb : Nat → Nat} {nm : Nat → Int32} {op : Nat → RES} (ht : TB n tb) (hG : GD n op) {N : Nat} (h : MP m0 n tb nm o (G2 N).2.2.2.2.2 op) : MP m0 n tb nm o (G2 (N + 5)).1 (pLv tb op 5) := by
  have g := fun c => pLv_G ht hG c
  have p1 : MP m0 n tb nm o (G2 (N + 1)).2.2.2.2.1 (pLv tb op 1) := m_product h hG
  have p2 : MP m0 n tb nm o (G2 (N + 2)).2.2.2.1 (pLv tb op 2) := m_level (by decide) p1 (m_sums p1 (g 1))
  have p3 : MP m0 n tb nm o (G2 (N + 3)).2.2.1 (pLv tb op 3) := m_compared p2 (g 2)
  have p4 : MP m0 n tb nm o (G2 (N + 4)).2.1 (pLv tb op 4) := m_level (by decide) p3 (m_both p3 (g 3))
  exact m_level (by decide) p4 (m_either p4 (g 4))
theorem m_Op {m0 : mw_M} {n : Nat} {tb : Nat → Nat} {nm : Nat → Int32} (ht : TB n tb) : ∀ r, r ≤ 6 → ∀ N, 6 * r + 1 ≤ N → MP m0 n tb nm (6 - r) (G2 N).2.2.2.2.2 (pOp tb r)
  | 0, _, N, hN => by
    obtain ⟨N', rfl⟩ : ∃ k, N = k + 1 := ⟨N - 1, by omega⟩
    exact m_one (c1 := (G2 N').1) (c6 := (G2 N').2.2.2.2.2) (by decide) (fun z => absurd z (by decide)) (fun z => absurd z (by decide))
  | r + 1, hr, N, hN => by
    obtain ⟨N', rfl⟩ : ∃ k, N = k + 6 := ⟨N - 6, by omega⟩
    have h1 := m_Op (m0 := m0) (nm := nm) ht r (by omega) N' (by omega)
    have h2 := m_Op (m0 := m0) (nm := nm) ht r (by omega) (N' + 5) (by omega)
    have h3 := m_up ht (pOp_G ht r) h1
    have e : 6 - (r + 1) + 1 = 6 - r := by omega
    exact m_one (c1 := (G2 (N' + 5)).1) (c6 := (G2 (N' + 5)).2.2.2.2.2) hr (fun _ => by rw [e]; exact h3) (fun _ => by rw [e]; exact h2)
theorem m_E {m0 : mw_M} {n : Nat} {tb : Nat → Nat} {nm : Nat → Int32} (ht : TB n tb) : MP m0 n tb nm 0 P11_either (pE tb) := m_up (N := 59) ht (pOp_G ht 6) (m_Op ht 6 (Nat.le_refl _) 59 (by decide))
