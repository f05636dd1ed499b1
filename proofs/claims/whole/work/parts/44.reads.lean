/-! the reference reads and works out at once -/
def MT (m : mw_M) (n : Nat) (tb : Nat → Nat) : Prop := m.1 0 21 = nI n ∧ ((m.1 0 19 = -1 ∧ ∀ k, k < n → m.1 10 k = nI (tb k)) ∨ ∃ bs : Nat, bs + n ≤ 480 ∧ m.1 0 19 = nI bs ∧ ∀ k, k < n → m.1 11 (bs + k) = nI (tb k))
def MG (m0 : mw_M) (n : Nat) (tb : Nat → Nat) (nm : Nat → Int32) (μ : mw_M) (i : Nat) : Prop := FM [] [20, 22, 23] m0 μ ∧ μ.1 0 20 = nI i ∧ i ≤ n ∧ TB n tb ∧ MT m0 n tb ∧ ∀ k, k < 9 → m0.1 13 k = nm k
def MS (m0 : mw_M) (n : Nat) (tb : Nat → Nat) (nm : Nat → Int32) (μ : mw_M) (i o : Nat) : Prop := MG m0 n tb nm μ i ∧ μ.1 0 22 = -1 ∧ μ.1 0 23 = nI o
def MF (m0 : mw_M) (n : Nat) (tb : Nat → Nat) (nm : Nat → Int32) (μ : mw_M) (i : Nat) : Prop := MG m0 n tb nm μ i ∧ μ.1 0 22 = nI i
theorem m_byte {m0 μ : mw_M} {n i : Nat} {tb : Nat → Nat} {nm : Nat → Int32} (h : MG m0 n tb nm μ i) {Q : Int32 → Prop} : P11_byteAt μ Q = Q (nI (tb i)) := by
  obtain ⟨hF, h1, hi, ht, ⟨h2, h3⟩, -⟩ := h
  have hn := ht.1
  have e21 : μ.1 0 21 = nI n := (hF.2 21 (by decide)).trans h2
  have e19 : μ.1 0 19 = m0.1 0 19 := hF.2 19 (by decide)
  have e10 : μ.1 10 = m0.1 10 := (hF.1 10 (by decide) (by decide)).1
  have e11 : μ.1 11 = m0.1 11 := (hF.1 11 (by decide) (by decide)).1
  unfold P11_byteAt
  rw [e21, h1, e19, e10, e11, if_ab, if_ab]
  by_cases c : n ≤ i
  · rw [if_pos (nI_le c (by omega)), (ht.2 i).2 c]; rfl
  · rw [if_neg (by rw [zle, nI_toInt (by omega), nI_toInt (by omega)]; omega)]
    rcases h3 with ⟨q1, q2⟩ | ⟨bs, q0, q1, q2⟩
    · rw [q1, if_neg (by decide), nI_clamp (by omega), q2 i (by omega)]
      exact propext ⟨fun q => q.2, fun q => ⟨vp_in_nI (by omega) (by decide), q⟩⟩
    · rw [q1, if_pos (show 0 ≤ nI bs from nI_le (a := 0) (by omega) (by omega)), nI_add, nI_clamp (by omega), q2 i (by omega)]
      exact propext ⟨fun q => q.2, fun q => ⟨vp_in_nI (by omega) (by decide), q⟩⟩
theorem m_step {m0 μ μ' : mw_M} {n i o : Nat} {tb : Nat → Nat} {nm : Nat → Int32} (h : MS m0 n tb nm μ i o) (h0 : tb i ≠ 0) (e : μ' = mw_I μ 0 20 (μ.1 0 20 + 1)) : MS m0 n tb nm μ' (i + 1) o := by
  obtain ⟨⟨hF, h1, hi, ht, h3⟩, h4, h5⟩ := h
  rw [h1, show nI i + 1 = nI (i + 1) from nI_add i 1] at e
  subst e
  exact ⟨⟨hF.O (by decide), mw_I_eq, ht.in h0, ht, h3⟩, (mw_I_nj (by decide)).trans h4, (mw_I_nj (by decide)).trans h5⟩
theorem m_nf {m0 μ : mw_M} {n i o : Nat} {tb : Nat → Nat} {nm : Nat → Int32} (h : MS m0 n tb nm μ i o) : ¬ 0 ≤ μ.1 0 22 := by rw [h.2.1]; decide
theorem m_ff {m0 μ : mw_M} {n i : Nat} {tb : Nat → Nat} {nm : Nat → Int32} (h : MF m0 n tb nm μ i) : 0 ≤ μ.1 0 22 := by
  have := h.1.2.2.2.1.1
  have := h.1.2.2.1
  rw [h.2]; exact nI_le (a := 0) (by omega) (by omega)
theorem m_takes {m0 μ : mw_M} {n i o s : Nat} {tb : Nat → Nat} {nm : Nat → Int32} (h : MS m0 n tb nm μ i o) (hs : s < 256) (h0 : s ≠ 0) {QT QF : mw_M → Prop} (hT : tb i = s → ∀ μ', MS m0 n tb nm μ' (i + 1) o → QT μ') (hN : tb i ≠ s → QF μ) : P11_takes (nI s) μ QT QF := by
  have hti := (h.1.2.2.2.1.2 i).1
  unfold P11_takes
  refine ⟨fun z => absurd z (m_nf h), fun _ => ?_⟩
  rw [m_byte h.1]
  refine ⟨fun z μ5 e5 => ?_, fun z => hN (fun q => z (by rw [q]))⟩
  rw [nIe hti s hs] at z
  exact hT z μ5 (m_step h (by rw [z]; exact h0) e5)
theorem m_takesF {m0 μ : mw_M} {n i : Nat} {s : Int32} {tb : Nat → Nat} {nm : Nat → Int32} (h : MF m0 n tb nm μ i) {QT QF : mw_M → Prop} (hN : QF μ) : P11_takes s μ QT QF := by
  unfold P11_takes
  exact ⟨fun _ => hN, fun z => absurd (m_ff h) z⟩
theorem m_wrong {m0 μ : mw_M} {n i o : Nat} {tb : Nat → Nat} {nm : Nat → Int32} (h : MS m0 n tb nm μ i o) {Q : Int32 → mw_M → Prop} (hQ : ∀ μ', MF m0 n tb nm μ' i → Q 0 μ') : P11_wrong μ Q := by
  unfold P11_wrong
  refine ⟨fun z => absurd z (m_nf h), fun _ μ3 e3 => hQ μ3 ?_⟩
  obtain ⟨⟨hF, h1, hi, h3⟩, h4, h5⟩ := h
  rw [h1] at e3
  subst e3
  exact ⟨⟨hF.O (by decide), (mw_I_nj (by decide)).trans h1, hi, h3⟩, mw_I_eq⟩
theorem m_wrongF {m0 μ : mw_M} {n i : Nat} {tb : Nat → Nat} {nm : Nat → Int32} (h : MF m0 n tb nm μ i) {Q : Int32 → mw_M → Prop} (hQ : ∀ μ', MF m0 n tb nm μ' i → Q 0 μ') : P11_wrong μ Q := by
  unfold P11_wrong
  refine ⟨fun _ μ3 e3 => hQ μ3 ?_, fun z => absurd (m_ff h) z⟩
  obtain ⟨⟨hF, h1, hi, h3⟩, h4⟩ := h
  rw [h4] at e3
  subst e3
  exact ⟨⟨hF.O (by decide), (mw_I_nj (by decide)).trans h1, hi, h3⟩, mw_I_eq⟩
/-- one less open -/
theorem m_close {m0 μ μ' : mw_M} {n i o : Nat} {tb : Nat → Nat} {nm : Nat → Int32} (h : MS m0 n tb nm μ i (o + 1)) (e : μ' = mw_I μ 0 23 (μ.1 0 23 - 1)) : MS m0 n tb nm μ' i o := by
  obtain ⟨⟨hF, h1, hi, h3⟩, h4, h5⟩ := h
  rw [h5, nI_sub1 (by omega)] at e
  subst e
  exact ⟨⟨hF.O (by decide), (mw_I_nj (by decide)).trans h1, hi, h3⟩, (mw_I_nj (by decide)).trans h4, mw_I_eq⟩
theorem m_closeF {m0 μ μ' : mw_M} {n i : Nat} {v : Int32} {tb : Nat → Nat} {nm : Nat → Int32} (h : MF m0 n tb nm μ i) (e : μ' = mw_I μ 0 23 v) : MF m0 n tb nm μ' i := by
  obtain ⟨⟨hF, h1, hi, h3⟩, h4⟩ := h
  subst e
  exact ⟨⟨hF.O (by decide), (mw_I_nj (by decide)).trans h1, hi, h3⟩, (mw_I_nj (by decide)).trans h4⟩
def MP (m0 : mw_M) (n : Nat) (tb : Nat → Nat) (nm : Nat → Int32) (o : Nat) (c : mw_M → (Int32 → mw_M → Prop) → Prop) (f : Nat → RES) : Prop := (∀ μ i Q, MS m0 n tb nm μ i o → (∀ μ' j e, f i = (j, some e) → MS m0 n tb nm μ' j o → Q (e.2 nm) μ') → (∀ μ' j v, f i = (j, none) → MF m0 n tb nm μ' j → Q v μ') → c μ Q) ∧ ∀ μ j Q, MF m0 n tb nm μ j → (∀ μ' v, MF m0 n tb nm μ' j → Q v μ') → c μ Q
/-- a loop behind the first operand: v is the value so far -/
def MLP (m0 : mw_M) (n : Nat) (tb : Nat → Nat) (nm : Nat → Int32) (o : Nat) (Lp : (Int32 → mw_M → Prop) → Nat → Int32 → mw_M → Prop) (sub : Nat → RES) (l : Nat) : Prop := (∀ k μ i e Q, 120 ≤ i + k → MS m0 n tb nm μ i o → (∀ μ' j e', pL tb sub l k i e = (j, some e') → MS m0 n tb nm μ' j o → Q (e'.2 nm) μ') → (∀ μ' j v, pL tb sub l k i e = (j, none) → MF m0 n tb nm μ' j → Q v μ') → Lp Q (k + 1) (e.2 nm) μ) ∧ ∀ k μ j v Q, MF m0 n tb nm μ j → (∀ μ' v, MF m0 n tb nm μ' j → Q v μ') → Lp Q (k + 1) v μ
theorem m_level {m0 : mw_M} {n o c : Nat} {tb : Nat → Nat} {nm : Nat → Int32} {cs : mw_M → (Int32 → mw_M → Prop) → Prop} {op : Nat → RES} (hc : c ≠ 2) (hs : MP m0 n tb nm o cs (pLv tb op c)) {Lp : (Int32 → mw_M → Prop) → Nat → Int32 → mw_M → Prop} (hL : MLP m0 n tb nm o Lp (pLv tb op c) (4 - c)) : MP m0 n tb nm o (fun μ Q => cs μ (fun r1 μ2 => ∃ n5, Lp Q n5 r1 μ2)) (pLv tb op (c + 1)) := by
  refine ⟨fun μ i Q h hT hF => ?_, fun μ j Q h hF => ?_⟩
  · unfold pLv at hT hF
    refine hs.1 μ i _ h (fun μ2 j e hj h2 => ?_) (fun μ2 j v hj h2 => ?_)
    · rw [hj] at hT hF
      simp only [if_neg hc] at hT hF
      exact ⟨121, hL.1 120 μ2 j e Q (by omega) h2 hT hF⟩
    · rw [hj] at hF
      exact ⟨1, hL.2 0 μ2 j v Q h2 (fun μ' v h' => hF μ' j v rfl h')⟩
  · exact hs.2 μ j _ h (fun μ' v h' => ⟨1, hL.2 0 μ' j v Q h' hF⟩)
theorem m_either {m0 : mw_M} {n o : Nat} {tb : Nat → Nat} {nm : Nat → Int32} {cs : mw_M → (Int32 → mw_M → Prop) → Prop} {sub : Nat → RES} (hs : MP m0 n tb nm o cs sub) (hG : GD n sub) : MLP m0 n tb nm o (fun Q => L11_either_5 cs Q) sub 0 := by
  have hF : ∀ k μ j v Q, MF m0 n tb nm μ j → (∀ μ' v, MF m0 n tb nm μ' j → Q v μ') → L11_either_5 cs Q (k + 1) v μ := fun k μ j v Q h hQ => m_takesF h (hQ μ v h)
  refine ⟨fun k => ?_, hF⟩
  induction k with
  | zero =>
    intro μ i e Q hk h hT hN
    unfold L11_either_5
    have ht := h.1.2.2.2.1
    have hn := ht.1
    refine m_takes h (s := 124) (by decide) (by decide) (fun q => ?_) (fun _ => hT μ i e rfl h)
    have := ht.in (i := i) (by omega)
    omega
  | succ k ih =>
    intro μ i e Q hk h hT hN
    unfold L11_either_5
    unfold pL at hT hN
    have ht := h.1.2.2.2.1
    refine m_takes h (s := 124) (by decide) (by decide) (fun q μ' h' => ?_) (fun q => ?_)
    · have cb : bnd 0 (tb i) = true := by rw [q]; rfl
      rw [if_pos cb] at hT hN
      have g := hG (i + 1) (ht.in (by omega))
      refine hs.1 μ' (i + 1) _ h' (fun μ2 j e2 hj h2 => ?_) (fun μ2 j v hj h2 => ?_)
      · rw [hj] at hT hN g
        simp only at hT hN g
        have r := ih μ2 j (eBin (tb i) e e2) Q (by omega) h2 hT hN
        have ev : (eBin (tb i) e e2).2 nm = jnS 124 (e.2 nm) (e2.2 nm) := by rw [q]; rfl
        rw [ev] at r
        unfold jnS at r
        simp (config := { decide := true }) only [if_true, if_false] at r
        refine ⟨fun z => ⟨fun z2 => ?_, fun z2 => ?_⟩, fun z => ?_⟩
        · rw [if_pos z, if_pos z2] at r; exact r
        · rw [if_pos z, if_neg z2] at r; exact r
        · rw [if_neg z] at r; exact r
      · rw [hj] at hN
        have r := fun v => hF k μ2 j v Q h2 (fun μ' v h' => hN μ' j v rfl h')
        exact ⟨fun _ => ⟨fun _ => r _, fun _ => r _⟩, fun _ => r _⟩
    · have cb : ¬ bnd 0 (tb i) = true := fun z => q (by have : (tb i == 124) = true := z; simpa using this)
      rw [if_neg cb] at hT
      exact hT μ i e rfl h
theorem m_both {m0 : mw_M} {n o : Nat} {tb : Nat → Nat} {nm : Nat → Int32} {cs : mw_M → (Int32 → mw_M → Prop) → Prop} {sub : Nat → RES} (hs : MP m0 n tb nm o cs sub) (hG : GD n sub) : MLP m0 n tb nm o (fun Q => L11_both_5 cs Q) sub 1 := by
  have hF : ∀ k μ j v Q, MF m0 n tb nm μ j → (∀ μ' v, MF m0 n tb nm μ' j → Q v μ') → L11_both_5 cs Q (k + 1) v μ := fun k μ j v Q h hQ => m_takesF h (hQ μ v h)
  refine ⟨fun k => ?_, hF⟩
  induction k with
  | zero =>
    intro μ i e Q hk h hT hN
    unfold L11_both_5
    have ht := h.1.2.2.2.1
    have hn := ht.1
    refine m_takes h (s := 38) (by decide) (by decide) (fun q => ?_) (fun _ => hT μ i e rfl h)
    have := ht.in (i := i) (by omega)
    omega
  | succ k ih =>
    intro μ i e Q hk h hT hN
    unfold L11_both_5
    unfold pL at hT hN
    have ht := h.1.2.2.2.1
    refine m_takes h (s := 38) (by decide) (by decide) (fun q μ' h' => ?_) (fun q => ?_)
    · have cb : bnd 1 (tb i) = true := by rw [q]; rfl
      rw [if_pos cb] at hT hN
      have g := hG (i + 1) (ht.in (by omega))
      refine hs.1 μ' (i + 1) _ h' (fun μ2 j e2 hj h2 => ?_) (fun μ2 j v hj h2 => ?_)
      · rw [hj] at hT hN g
        simp only at hT hN g
        have r := ih μ2 j (eBin (tb i) e e2) Q (by omega) h2 hT hN
        have ev : (eBin (tb i) e e2).2 nm = jnS 38 (e.2 nm) (e2.2 nm) := by rw [q]; rfl
        rw [ev] at r
        unfold jnS at r
        simp (config := { decide := true }) only [if_true, if_false] at r
        refine ⟨fun z => ?_, fun z => ⟨fun z2 => ?_, fun z2 => ?_⟩⟩
        · rw [if_pos z] at r; exact r
        · rw [if_neg z, if_pos z2] at r; exact r
        · rw [if_neg z, if_neg z2] at r; exact r
      · rw [hj] at hN
        have r := fun v => hF k μ2 j v Q h2 (fun μ' v h' => hN μ' j v rfl h')
        exact ⟨fun _ => r _, fun _ => ⟨fun _ => r _, fun _ => r _⟩⟩
    · have cb : ¬ bnd 1 (tb i) = true := fun z => q (by have : (tb i == 38) = true := z; simpa using this)
      rw [if_neg cb] at hT
      exact hT μ i e rfl h
theorem m_sums {m0 : mw_M} {n o : Nat} {tb : Nat → Nat} {nm : Nat → Int32} {cs : mw_M → (Int32 → mw_M → Prop) → Prop} {sub : Nat → RES} (hs : MP m0 n tb nm o cs sub) (hG : GD n sub) : MLP m0 n tb nm o (fun Q => L11_sums_5 cs Q) sub 3 := by
  have hF : ∀ k μ j v Q, MF m0 n tb nm μ j → (∀ μ' v, MF m0 n tb nm μ' j → Q v μ') → L11_sums_5 cs Q (k + 1) v μ := fun k μ j v Q h hQ => ⟨fun _ => hQ μ v h, fun z => absurd (m_ff h) z⟩
  refine ⟨fun k => ?_, hF⟩
  induction k with
  | zero =>
    intro μ i e Q hk h hT hN
    unfold L11_sums_5
    have ht := h.1.2.2.2.1
    have hn := ht.1
    refine ⟨fun z => absurd z (m_nf h), fun _ => ?_⟩
    simp only [m_byte h.1]
    have := h.1.2.2.1
    have t0 := (ht.2 i).2 (by omega)
    rw [t0]
    exact ⟨fun z => absurd z (by decide), fun _ => ⟨fun z => absurd z (by decide), fun _ => hT μ i e rfl h⟩⟩
  | succ k ih =>
    intro μ i e Q hk h hT hN
    unfold L11_sums_5
    unfold pL at hT hN
    have ht := h.1.2.2.2.1
    have hti := (ht.2 i).1
    refine ⟨fun z => absurd z (m_nf h), fun _ => ?_⟩
    simp only [m_byte h.1]
    have E43 := nIe hti 43 (by decide)
    have E45 := nIe hti 45 (by decide)
    change (nI (tb i) = 43) = _ at E43
    change (nI (tb i) = 45) = _ at E45
    rw [E43, E45]
    have main : ∀ s, (s = 43 ∨ s = 45) → tb i = s → ∀ μ', μ' = mw_I μ 0 20 (μ.1 0 20 + 1) → cs μ' (fun r μ2 => L11_sums_5 cs Q (k + 1) (jnS s (e.2 nm) r) μ2) := fun s hs2 q μ' e' => by
      have cb : bnd 3 (tb i) = true := by rw [q]; rcases hs2 with rfl | rfl <;> rfl
      rw [if_pos cb] at hT hN
      have g := hG (i + 1) (ht.in (by omega))
      refine hs.1 μ' (i + 1) _ (m_step h (by omega) e') (fun μ2 j e2 hj h2 => ?_) (fun μ2 j v hj h2 => ?_)
      · rw [hj] at hT hN g
        simp only at hT hN g
        have r := ih μ2 j (eBin (tb i) e e2) Q (by omega) h2 hT hN
        have ev : (eBin (tb i) e e2).2 nm = jnS s (e.2 nm) (e2.2 nm) := by rw [q]; rfl
        rw [ev] at r
        exact r
      · rw [hj] at hN
        exact hF k μ2 j _ Q h2 (fun μ' v h' => hN μ' j v rfl h')
    refine ⟨fun q => ⟨fun _ μ' e' => ?_, fun z => absurd q z⟩, fun q => ⟨fun q2 => ⟨fun z => absurd z q, fun _ μ' e' => ?_⟩, fun q2 => ?_⟩⟩
    · have := main 43 (Or.inl rfl) q μ' e'
      unfold jnS at this
      simp (config := { decide := true }) only [if_true, if_false] at this
      simp only [forall_eq]
      exact this
    · have := main 45 (Or.inr rfl) q2 μ' e'
      unfold jnS at this
      simp (config := { decide := true }) only [if_true, if_false] at this
      simp only [forall_eq]
      exact this
    · have cb : ¬ bnd 3 (tb i) = true := fun z => by
        have : (tb i == 43 || tb i == 45) = true := z
        simp only [Bool.or_eq_true, beq_iff_eq] at this
        omega
      rw [if_neg cb] at hT
      exact hT μ i e rfl h
theorem m_compared {m0 : mw_M} {n o : Nat} {tb : Nat → Nat} {nm : Nat → Int32} {cs : mw_M → (Int32 → mw_M → Prop) → Prop} {op : Nat → RES} (hs : MP m0 n tb nm o cs (pLv tb op 2)) (hG : GD n (pLv tb op 2)) : MP m0 n tb nm o (S11_compared cs) (pLv tb op 3) := by
  refine ⟨fun μ i Q h hT hF => ?_, fun μ j Q h hF => ?_⟩
  · unfold S11_compared
    unfold pLv at hT hF
    refine hs.1 μ i _ h (fun μ2 j e hj h2 => ?_) (fun μ2 j v hj h2 => ?_)
    · rw [hj] at hT hF
      simp only [if_true] at hT hF
      have ht := h2.1.2.2.2.1
      have hti := (ht.2 j).1
      rw [m_byte h2.1]
      have E60 := nIe hti 60 (by decide)
      have E61 := nIe hti 61 (by decide)
      have E62 := nIe hti 62 (by decide)
      change (nI (tb j) = 60) = _ at E60
      change (nI (tb j) = 61) = _ at E61
      change (nI (tb j) = 62) = _ at E62
      rw [E60, E61, E62]
      unfold pL at hT hF
      have main : ∀ s, (s = 60 ∨ s = 61 ∨ s = 62) → tb j = s → ∀ μ', μ' = mw_I μ2 0 20 (μ2.1 0 20 + 1) → cs μ' (fun r μ3 => ((tb j = 60 → ((r ≤ e.2 nm → Q 0 μ3) ∧ (¬ r ≤ e.2 nm → Q 1 μ3))) ∧ (¬ tb j = 60 → ((tb j = 61 → ((e.2 nm = r → Q 1 μ3) ∧ (¬ e.2 nm = r → Q 0 μ3))) ∧ (¬ tb j = 61 → ((e.2 nm ≤ r → Q 0 μ3) ∧ (¬ e.2 nm ≤ r → Q 1 μ3))))))) := fun s hs2 q μ' e' => by
        have cb : bnd (4 - 2) (tb j) = true := by rw [q]; rcases hs2 with rfl | rfl | rfl <;> rfl
        rw [if_pos cb] at hT hF
        refine hs.1 μ' (j + 1) _ (m_step h2 (by omega) e') (fun μ3 k e2 hk h3 => ?_) (fun μ3 k v hk h3 => ?_)
        · rw [hk] at hT
          have ev : (eBin (tb j) e e2).2 nm = jnS s (e.2 nm) (e2.2 nm) := by rw [q]; rfl
          have r := hT μ3 k _ rfl h3
          rw [ev] at r
          rcases hs2 with rfl | rfl | rfl
          · unfold jnS at r
            simp (config := { decide := true }) only [if_true, if_false] at r
            exact ⟨fun _ => ⟨fun z => by rw [if_pos z] at r; exact r, fun z => by rw [if_neg z] at r; exact r⟩, fun z => absurd q z⟩
          · unfold jnS at r
            simp (config := { decide := true }) only [if_true, if_false] at r
            exact ⟨fun z => by omega, fun _ => ⟨fun _ => ⟨fun z => by rw [if_pos z] at r; exact r, fun z => by rw [if_neg z] at r; exact r⟩, fun z => absurd q z⟩⟩
          · unfold jnS at r
            simp (config := { decide := true }) only [if_true, if_false] at r
            exact ⟨fun z => by omega, fun _ => ⟨fun z => by omega, fun _ => ⟨fun z => by rw [if_pos z] at r; exact r, fun z => by rw [if_neg z] at r; exact r⟩⟩⟩
        · rw [hk] at hF
          have r := fun v => hF μ3 k v rfl h3
          exact ⟨fun _ => ⟨fun _ => r _, fun _ => r _⟩, fun _ => ⟨fun _ => ⟨fun _ => r _, fun _ => r _⟩, fun _ => ⟨fun _ => r _, fun _ => r _⟩⟩⟩
      refine ⟨fun z => absurd z (m_nf h2), fun _ => ⟨fun q => main 60 (Or.inl rfl) q, fun q1 => ⟨fun q => main 61 (Or.inr (Or.inl rfl)) q, fun q2 => ⟨fun q => main 62 (Or.inr (Or.inr rfl)) q, fun q3 => ?_⟩⟩⟩⟩
      have cb : ¬ bnd (4 - 2) (tb j) = true := fun z => by
        have : (tb j == 60 || tb j == 61 || tb j == 62) = true := z
        simp only [Bool.or_eq_true, beq_iff_eq] at this
        omega
      rw [if_neg cb] at hT
      exact hT μ2 j e rfl h2
    · rw [hj] at hF
      rw [m_byte h2.1]
      exact ⟨fun _ => hF μ2 j _ rfl h2, fun z => absurd (m_ff h2) z⟩
  · unfold S11_compared
    refine hs.2 μ j _ h (fun μ' v h' => ?_)
    rw [m_byte h'.1]
    exact ⟨fun _ => hF μ' _ h', fun z => absurd (m_ff h') z⟩
theorem m_product {m0 : mw_M} {n o : Nat} {tb : Nat → Nat} {nm : Nat → Int32} {cs : mw_M → (Int32 → mw_M → Prop) → Prop} {op : Nat → RES} (hs : MP m0 n tb nm o cs op) (hG : GD n op) : MP m0 n tb nm o (S11_product cs) (pLv tb op 1) := by
  have hF : ∀ k μ j s v Q, MF m0 n tb nm μ j → (∀ μ' v, MF m0 n tb nm μ' j → Q v μ') → L11_product_10 cs Q (k + 1) s v μ := fun k μ j s v Q h hQ => ⟨fun _ => hQ μ v h, fun z => absurd (m_ff h) z⟩
  have hL : ∀ k μ i e Q, 120 ≤ i + k → MS m0 n tb nm μ i o → (∀ μ' j e', pL tb op 4 k i e = (j, some e') → MS m0 n tb nm μ' j o → Q (e'.2 nm) μ') → (∀ μ' j v, pL tb op 4 k i e = (j, none) → MF m0 n tb nm μ' j → Q v μ') → L11_product_10 cs Q (k + 1) (nI (tb i)) (e.2 nm) μ := by
    intro k
    induction k with
    | zero =>
      intro μ i e Q hk h hT hN
      unfold L11_product_10
      have ht := h.1.2.2.2.1
      have hn := ht.1
      have := h.1.2.2.1
      have t0 := (ht.2 i).2 (by omega)
      rw [t0]
      exact ⟨fun z => absurd z (m_nf h), fun _ => ⟨fun z => absurd z (by decide), fun _ => ⟨fun z => absurd z (by decide), fun _ => ⟨fun z => absurd z (by decide), fun _ => hT μ i e rfl h⟩⟩⟩⟩
    | succ k ih =>
      intro μ i e Q hk h hT hN
      unfold L11_product_10
      unfold pL at hT hN
      have ht := h.1.2.2.2.1
      have hti := (ht.2 i).1
      have E42 := nIe hti 42 (by decide)
      have E47 := nIe hti 47 (by decide)
      have E37 := nIe hti 37 (by decide)
      change (nI (tb i) = 42) = _ at E42
      change (nI (tb i) = 47) = _ at E47
      change (nI (tb i) = 37) = _ at E37
      rw [E42, E47, E37]
      have main : ∀ s, (s = 42 ∨ s = 47 ∨ s = 37) → tb i = s → ∀ μ', μ' = mw_I μ 0 20 (μ.1 0 20 + 1) → cs μ' (fun r12 μ13 => ((tb i = 42 → (∀ x27 : Int32, x27 = (e.2 nm * r12) → P11_byteAt μ13 (fun r28 => L11_product_10 cs Q (k + 1) r28 x27 μ13))) ∧ (¬ tb i = 42 → ((r12 = 0 → P11_byteAt μ13 (fun r25 => L11_product_10 cs Q (k + 1) r25 0 μ13)) ∧ (¬ r12 = 0 → ((tb i = 47 → ((¬ r12 = 0) ∧ (∀ x22 : Int32, x22 = (e.2 nm / r12) → P11_byteAt μ13 (fun r23 => L11_product_10 cs Q (k + 1) r23 x22 μ13)))) ∧ (¬ tb i = 47 → ((¬ r12 = 0) ∧ (∀ x18 : Int32, x18 = (mw_rem (e.2 nm) r12) → P11_byteAt μ13 (fun r19 => L11_product_10 cs Q (k + 1) r19 x18 μ13)))))))))) := fun s hs2 q μ' e' => by
        have cb : bnd 4 (tb i) = true := by rw [q]; rcases hs2 with rfl | rfl | rfl <;> rfl
        rw [if_pos cb] at hT hN
        have g := hG (i + 1) (ht.in (by omega))
        refine hs.1 μ' (i + 1) _ (m_step h (by omega) e') (fun μ2 j e2 hj h2 => ?_) (fun μ2 j v hj h2 => ?_)
        · rw [hj] at hT hN g
          simp only at hT hN g
          have r := ih μ2 j (eBin (tb i) e e2) Q (by omega) h2 hT hN
          have ev : (eBin (tb i) e e2).2 nm = jnS s (e.2 nm) (e2.2 nm) := by rw [q]; rfl
          rw [ev] at r
          simp only [m_byte h2.1, forall_eq]
          rcases hs2 with rfl | rfl | rfl
          · unfold jnS at r
            simp (config := { decide := true }) only [if_true, if_false] at r
            exact ⟨fun _ => r, fun z => absurd q z⟩
          · unfold jnS at r
            simp (config := { decide := true }) only [if_true, if_false] at r
            exact ⟨fun z => by omega, fun _ => ⟨fun z => by rw [if_pos z] at r; exact r, fun z => ⟨fun _ => ⟨z, by rw [if_neg z] at r; exact r⟩, fun z2 => absurd q z2⟩⟩⟩
          · unfold jnS at r
            simp (config := { decide := true }) only [if_true, if_false] at r
            exact ⟨fun z => by omega, fun _ => ⟨fun z => by rw [if_pos z] at r; exact r, fun z => ⟨fun z2 => by omega, fun _ => ⟨z, by rw [if_neg z] at r; exact r⟩⟩⟩⟩
        · rw [hj] at hN
          have r := fun s v => hF k μ2 j s v Q h2 (fun μ' v h' => hN μ' j v rfl h')
          simp only [m_byte h2.1, forall_eq]
          exact ⟨fun _ => r _ _, fun _ => ⟨fun _ => r _ _, fun z => ⟨fun _ => ⟨z, r _ _⟩, fun _ => ⟨z, r _ _⟩⟩⟩⟩
      refine ⟨fun z => absurd z (m_nf h), fun _ => ⟨fun q => main 42 (Or.inl rfl) q, fun q1 => ⟨fun q => main 47 (Or.inr (Or.inl rfl)) q, fun q2 => ⟨fun q => main 37 (Or.inr (Or.inr rfl)) q, fun q3 => ?_⟩⟩⟩⟩
      have cb : ¬ bnd 4 (tb i) = true := fun z => by
        have : (tb i == 42 || tb i == 47 || tb i == 37) = true := z
        simp only [Bool.or_eq_true, beq_iff_eq] at this
        omega
      rw [if_neg cb] at hT
      exact hT μ i e rfl h
  refine ⟨fun μ i Q h hT hN => ?_, fun μ j Q h hN => ?_⟩
  · unfold S11_product
    unfold pLv at hT hN
    refine hs.1 μ i _ h (fun μ2 j e hj h2 => ?_) (fun μ2 j v hj h2 => ?_)
    · have hj' : pLv tb op 0 i = (j, some e) := hj
      rw [hj'] at hT hN
      rw [m_byte h2.1]
      exact ⟨121, hL 120 μ2 j e Q (by omega) h2 hT hN⟩
    · have hj' : pLv tb op 0 i = (j, none) := hj
      rw [hj'] at hN
      rw [m_byte h2.1]
      exact ⟨1, hF 0 μ2 j _ v Q h2 (fun μ' v h' => hN μ' j v rfl h')⟩
  · unfold S11_product
    refine hs.2 μ j _ h (fun μ' v h' => ?_)
    rw [m_byte h'.1]
    exact ⟨1, hF 0 μ' j _ v Q h' hN⟩
