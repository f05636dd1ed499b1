/-! the tape read into a law -/
def XF (a0 : mw_M) (b n : Nat) (μ : mw_M) (i : Nat) : Prop := FX [16, b, b + 1] a0 μ ∧ μ.1 16 1 = nI n ∧ μ.1 16 2 = nI i
def XS (a0 : mw_M) (b n : Nat) (tb : Nat → Nat) (μ : mw_M) (i : Nat) (pre : List Int32) : Prop := XF a0 b n μ i ∧ μ.1 16 3 = nI b ∧ μ.1 b 2 = nI pre.length ∧ (∀ k, k < pre.length → μ.1 (b + 1) k = pre.getD k 0) ∧ ∀ k, k < n → μ.1 17 k = nI (tb k)
def LB (b : Nat) : Prop := b = 20 ∨ b = 23 ∨ b = 26 ∨ b = 29
theorem LB.at {b : Nat} (h : LB b) : mw_lawAt (nI b) ∧ (nI b).toNatClampNeg = b := by
  rcases h with rfl | rfl | rfl | rfl
  · exact ⟨⟨by decide, rfl⟩, nI_clamp (by decide)⟩
  · exact ⟨⟨by decide, rfl⟩, nI_clamp (by decide)⟩
  · exact ⟨⟨by decide, rfl⟩, nI_clamp (by decide)⟩
  · exact ⟨⟨by decide, rfl⟩, nI_clamp (by decide)⟩
theorem LB.ge {b : Nat} (h : LB b) : 20 ≤ b := by rcases h with rfl | rfl | rfl | rfl <;> decide
theorem getD_app {l : List Int32} {x : Int32} {k : Nat} : (l ++ [x]).getD k 0 = if k < l.length then l.getD k 0 else if k = l.length then x else 0 := by
  rw [List.getD_eq_getElem?_getD, List.getD_eq_getElem?_getD, List.getElem?_append]
  by_cases c : k < l.length
  · rw [if_pos c, if_pos c]
  · rw [if_neg c, if_neg c]
    by_cases d : k = l.length
    · rw [if_pos d, d, Nat.sub_self]; rfl
    · rw [if_neg d]
      obtain ⟨q, hq⟩ : ∃ q, k - l.length = q + 1 := ⟨k - l.length - 1, by omega⟩
      rw [hq]; rfl
theorem x_add {a0 μ : mw_M} {b n i : Nat} {tb : Nat → Nat} {pre : List Int32} (hb : LB b) (h : XS a0 b n tb μ i pre) (hl : pre.length < 120) {x : Int32} {Q : mw_M → Prop} (hQ : ∀ μ', XS a0 b n tb μ' i (pre ++ [x]) → Q μ') : mw_lawAt (μ.1 16 3) ∧ P3_add ((μ.1 16 3).toNatClampNeg) x μ Q := by
  obtain ⟨⟨f1, f2, f3⟩, h1, h2, h3, h4⟩ := h
  have g := hb.ge
  rw [h1, hb.at.2]
  refine ⟨hb.at.1, ?_⟩
  unfold P3_add
  rw [h2, nI_clamp (by omega)]
  refine ⟨fun z => absurd z (by rw [zle, nI_toInt (by omega)]; simp only [Int32.reduceToInt]; omega), fun _ => ⟨vp_in_nI hl (by decide), ?_⟩⟩
  intro μ3 e3 μ4 e4
  have e5 : μ3.1 b 2 = nI pre.length := by rw [e3, mw_I_ne (by omega)]; exact h2
  rw [e5, e3, show nI pre.length + 1 = nI (pre.length + 1) from nI_add _ 1] at e4
  subst e4
  refine hQ _ ⟨⟨(f1.I (by simp)).I (by simp), ?_, ?_⟩, ?_, ?_, fun k hk => ?_, fun k hk => ?_⟩
  · rw [mw_I_ne (by omega), mw_I_ne (by omega)]; exact f2
  · rw [mw_I_ne (by omega), mw_I_ne (by omega)]; exact f3
  · rw [mw_I_ne (by omega), mw_I_ne (by omega)]; exact h1
  · rw [mw_I_eq, List.length_append, List.length_singleton]
  · rw [List.length_append, List.length_singleton] at hk
    rw [getD_app, mw_I_ne (by omega), mw_I_get]
    by_cases c : k < pre.length
    · rw [if_pos c, if_neg (by omega)]; exact h3 k c
    · rw [if_neg c, if_pos (by omega), if_pos (by omega)]
  · rw [mw_I_ne (by omega), mw_I_ne (by omega)]; exact h4 k hk
theorem x_step {a0 μ μ' : mw_M} {b n i : Nat} {tb : Nat → Nat} {pre : List Int32} (hb : LB b) (h : XS a0 b n tb μ i pre) (e : μ' = mw_I μ 16 2 (μ.1 16 2 + 1)) : XS a0 b n tb μ' (i + 1) pre := by
  obtain ⟨⟨f1, f2, f3⟩, h1, h2, h3, h4⟩ := h
  have g := hb.ge
  rw [f3, show nI i + 1 = nI (i + 1) from nI_add i 1] at e
  subst e
  refine ⟨⟨f1.I (by simp), ?_, mw_I_eq⟩, ?_, ?_, fun k hk => ?_, fun k hk => ?_⟩
  · rw [mw_I_nj (by decide)]; exact f2
  · rw [mw_I_nj (by decide)]; exact h1
  · rw [mw_I_ne (by omega)]; exact h2
  · rw [mw_I_ne (by omega)]; exact h3 k hk
  · rw [mw_I_ne (by omega)]; exact h4 k hk
theorem x_here {a0 μ : mw_M} {b n i : Nat} {tb : Nat → Nat} {pre : List Int32} (ht : TB n tb) (h : XS a0 b n tb μ i pre) (hi : i ≤ n) {Q : Int32 → Prop} : P7_here μ Q = Q (nI (tb i)) := by
  obtain ⟨⟨f1, f2, f3⟩, h1, h2, h3, h4⟩ := h
  have hn := ht.1
  unfold P7_here
  rw [f2, f3, if_ab, if_ab]
  simp only [zle, nI_toInt (show n < 2 ^ 31 by omega), nI_toInt (show i < 2 ^ 31 by omega), Int32.reduceToInt]
  by_cases c : n ≤ i
  · rw [if_pos (by omega), (ht.2 i).2 c]; rfl
  · rw [if_neg (by omega), if_neg (by omega), nI_clamp (by omega), h4 i (by omega)]
    exact propext ⟨fun q => q.2, fun q => ⟨vp_in_nI (by omega) (by decide), q⟩⟩
theorem x_isHere {a0 μ : mw_M} {b n i s : Nat} {tb : Nat → Nat} {pre : List Int32} (ht : TB n tb) (h : XS a0 b n tb μ i pre) (hi : i ≤ n) (hs : s < 256) (h0 : s ≠ 0) {QT QF : Prop} : P7_isHere (nI s) μ QT QF = if tb i = s then QT else QF := by
  obtain ⟨⟨f1, f2, f3⟩, h1, h2, h3, h4⟩ := h
  have hn := ht.1
  have hti := (ht.2 i).1
  unfold P7_isHere
  rw [f2, f3, if_ab, if_ab, if_ab]
  simp only [zle, nI_toInt (show n < 2 ^ 31 by omega), nI_toInt (show i < 2 ^ 31 by omega), Int32.reduceToInt]
  by_cases c : n ≤ i
  · rw [if_pos (by omega), (ht.2 i).2 c, if_neg (fun q => h0 q.symm)]
  · rw [if_neg (by omega), if_neg (by omega), nI_clamp (by omega), h4 i (by omega)]
    rw [if_c (c := nI (tb i) = nI s) (d := tb i = s) (nI_eq (by omega) (by omega))]
    exact propext ⟨fun q => q.2, fun q => ⟨vp_in_nI (by omega) (by decide), q⟩⟩
theorem ch7_isDigit {s : Nat} (hs : s < 256) {QT QF : Prop} : P7_isDigit (nI s) QT QF = if dgt s = true then QT else QF := by
  unfold P7_isDigit
  rw [if_ab, if_ab]
  simp only [zlt, nI_toInt (show s < 2 ^ 31 by omega), Int32.reduceToInt]
  by_cases c : 48 ≤ s ∧ s ≤ 57
  · rw [if_neg (by omega), if_neg (by omega), if_pos (by unfold dgt; simp [c])]
  · have d : ¬ dgt s = true := by unfold dgt; simp; omega
    rw [if_neg d]
    split
    · rfl
    · rw [if_pos (by omega)]
theorem nIe {s : Nat} (hs : s < 256) (k : Nat) (hk : k < 256) : (nI s = nI k) = (s = k) := propext (nI_eq (by omega) (by omega))
theorem ch7_binds {l s : Nat} (hl : l ≤ 4) (hs : s < 256) {QT QF : Prop} : P7_binds (nI s) (nI l) QT QF = if bnd l s = true then QT else QF := by
  have e37 := nIe hs 37 (by decide)
  have e38 := nIe hs 38 (by decide)
  have e42 := nIe hs 42 (by decide)
  have e43 := nIe hs 43 (by decide)
  have e45 := nIe hs 45 (by decide)
  have e47 := nIe hs 47 (by decide)
  have e60 := nIe hs 60 (by decide)
  have e61 := nIe hs 61 (by decide)
  have e62 := nIe hs 62 (by decide)
  have e124 := nIe hs 124 (by decide)
  change (nI s = 37) = _ at e37
  change (nI s = 38) = _ at e38
  change (nI s = 42) = _ at e42
  change (nI s = 43) = _ at e43
  change (nI s = 45) = _ at e45
  change (nI s = 47) = _ at e47
  change (nI s = 60) = _ at e60
  change (nI s = 61) = _ at e61
  change (nI s = 62) = _ at e62
  change (nI s = 124) = _ at e124
  unfold P7_binds bnd
  rw [e37, e38, e42, e43, e45, e47, e60, e61, e62, e124]
  rcases (show l = 0 ∨ l = 1 ∨ l = 2 ∨ l = 3 ∨ l = 4 by omega) with rfl | rfl | rfl | rfl | rfl
  · show _ = if (s == 124) = true then QT else QF
    simp (config := { decide := true }) only [nI, if_ab, false_imp_iff, true_imp_iff, and_true, true_and, not_true, not_false_iff, beq_iff_eq, Bool.or_eq_true]
  · show _ = if (s == 38) = true then QT else QF
    simp (config := { decide := true }) only [nI, if_ab, false_imp_iff, true_imp_iff, and_true, true_and, not_true, not_false_iff, beq_iff_eq, Bool.or_eq_true]
  · show _ = if (s == 60 || s == 61 || s == 62) = true then QT else QF
    simp (config := { decide := true }) only [nI, if_ab, false_imp_iff, true_imp_iff, and_true, true_and, not_true, not_false_iff, beq_iff_eq, Bool.or_eq_true]
    by_cases h1 : s = 60 <;> by_cases h2 : s = 61 <;> by_cases h3 : s = 62 <;> simp [h1, h2, h3]
  · show _ = if (s == 43 || s == 45) = true then QT else QF
    simp (config := { decide := true }) only [nI, if_ab, false_imp_iff, true_imp_iff, and_true, true_and, not_true, not_false_iff, beq_iff_eq, Bool.or_eq_true]
    by_cases h1 : s = 43 <;> by_cases h2 : s = 45 <;> simp [h1, h2]
  · show _ = if (s == 42 || s == 47 || s == 37) = true then QT else QF
    simp (config := { decide := true }) only [nI, if_ab, false_imp_iff, true_imp_iff, and_true, true_and, not_true, not_false_iff, beq_iff_eq, Bool.or_eq_true]
    by_cases h1 : s = 42 <;> by_cases h2 : s = 47 <;> by_cases h3 : s = 37 <;> simp [h1, h2, h3]
theorem x_name {s : Nat} (hs : s < 256) {Q : Int32 → Prop} : P3_nameOf (nI s) Q = match nmk s with
    | some k => Q (nI k)
    | none => Q (-1) := by
  have E : ∀ k, k < 256 → ((nI s = nI k) = (s = k)) := fun k hk => nIe hs k hk
  have e1 := E 99 (by decide)
  have e2 := E 100 (by decide)
  have e3 := E 103 (by decide)
  have e4 := E 104 (by decide)
  have e5 := E 108 (by decide)
  have e6 := E 112 (by decide)
  have e7 := E 115 (by decide)
  have e8 := E 116 (by decide)
  have e9 := E 119 (by decide)
  change (nI s = 99) = _ at e1
  change (nI s = 100) = _ at e2
  change (nI s = 103) = _ at e3
  change (nI s = 104) = _ at e4
  change (nI s = 108) = _ at e5
  change (nI s = 112) = _ at e6
  change (nI s = 115) = _ at e7
  change (nI s = 116) = _ at e8
  change (nI s = 119) = _ at e9
  unfold P3_nameOf nmk
  rw [e1, e2, e3, e4, e5, e6, e7, e8, e9]
  by_cases c : s = 99 ∨ s = 100 ∨ s = 103 ∨ s = 104 ∨ s = 108 ∨ s = 112 ∨ s = 115 ∨ s = 116 ∨ s = 119
  · rcases c with rfl | rfl | rfl | rfl | rfl | rfl | rfl | rfl | rfl
    all_goals
      simp (config := { decide := true }) only [if_true, if_false, false_imp_iff, true_imp_iff, and_true, true_and, not_true, not_false_iff]
      rfl
  · have c1 : ¬ s = 99 := fun q => c (Or.inl q)
    have c2 : ¬ s = 100 := by omega
    have c3 : ¬ s = 103 := by omega
    have c4 : ¬ s = 104 := by omega
    have c5 : ¬ s = 108 := by omega
    have c6 : ¬ s = 112 := by omega
    have c7 : ¬ s = 115 := by omega
    have c8 : ¬ s = 116 := by omega
    have c9 : ¬ s = 119 := by omega
    simp only [c1, c2, c3, c4, c5, c6, c7, c8, c9, if_false, false_imp_iff, true_imp_iff, and_true, true_and, not_false_iff]
def XP (a0 : mw_M) (b n : Nat) (tb : Nat → Nat) (c : mw_M → (mw_M → Prop) → (mw_M → Prop) → Prop) (f : Nat → RES) : Prop := ∀ μ i pre (QT QF : mw_M → Prop), XS a0 b n tb μ i pre → i ≤ n → pre.length ≤ i → (∀ μ' j e, f i = (j, some e) → XS a0 b n tb μ' j (pre ++ e.1) → QT μ') → (∀ μ' j, f i = (j, none) → XF a0 b n μ' j → QF μ') → c μ QT QF
theorem bin_app (pre : List Int32) (s : Nat) (e e2 : EX) : pre ++ e.1 ++ e2.1 ++ [10000 + nI s] = pre ++ (eBin s e e2).1 := by
  show _ = pre ++ (e.1 ++ (e2.1 ++ [10000 + nI s]))
  rw [List.append_assoc, List.append_assoc]
theorem x_loop {a0 : mw_M} {b n : Nat} {tb : Nat → Nat} (hb : LB b) (ht : TB n tb) {c1 : Int32 → Int32 → mw_M → (mw_M → Prop) → (mw_M → Prop) → Prop} {c2 : Int32 → mw_M → (mw_M → Prop) → (mw_M → Prop) → Prop} {l : Nat} (hl : l ≤ 4) {p2 : Int32} {sub : Nat → RES} (hs : GD n sub) (hX : XP a0 b n tb (c1 (nI (l + 1)) p2) sub) {K : Nat} (hK : K ≤ 120) {QT QF : mw_M → Prop} {pre : List Int32} : ∀ k v μ i e, v + k = K → XS a0 b n tb μ i (pre ++ e.1) → i ≤ n → (pre ++ e.1).length ≤ i → (∀ μ' j e', pL tb sub l k i e = (j, some e') → XS a0 b n tb μ' j (pre ++ e'.1) → QT μ') → (∀ μ' j, pL tb sub l k i e = (j, none) → XF a0 b n μ' j → QF μ') → L7_isRead_39 c1 c2 (nI K) (nI l) p2 QT QF (k + 1) (nI v) μ := by
  intro k
  induction k with
  | zero =>
    intro v μ i e hv h hi hp hT hF
    have e1 : v = K := by omega
    subst e1
    unfold L7_isRead_39
    exact ⟨fun _ => hT μ i e rfl h, fun z => absurd (nI_le (Nat.le_refl _) (by omega)) z⟩
  | succ k ih =>
    intro v μ i e hv h hi hp hT hF
    have hti := (ht.2 i).1
    have hn := ht.1
    unfold L7_isRead_39
    refine ⟨fun z => absurd z (by rw [zle, nI_toInt (by omega), nI_toInt (by omega)]; omega), fun _ => ?_⟩
    rw [x_here ht h hi, ch7_binds hl hti]
    unfold pL at hT hF
    by_cases c : bnd l (tb i) = true
    · rw [if_pos c] at hT hF ⊢
      rw [x_here ht h hi]
      intro μ16 e16
      have hin := ht.in (bnd_0 _ _ c).1
      rw [show nI l + 1 = nI (l + 1) from nI_add l 1]
      have g := hs (i + 1) (by omega)
      refine hX μ16 (i + 1) (pre ++ e.1) _ _ (x_step hb h e16) hin (by omega) (fun μ18 j e2 hj h18 => ?_) (fun μ18 j hj h18 => ?_)
      · rw [hj] at hT hF g
        have g2 := g.2.2 e2 rfl
        simp only at g
        have ll : (pre ++ e.1 ++ e2.1).length = (pre ++ e.1).length + e2.1.length := List.length_append
        simp only at g2
        refine x_add hb h18 (by omega) (fun μ20 h20 => ?_)
        rw [bin_app] at h20
        intro x hx
        rw [show nI v + 1 = nI (v + 1) from nI_add v 1] at hx
        subst hx
        refine ih (v + 1) μ20 j (eBin (tb i) e e2) (by omega) h20 g.2.1 ?_ hT hF
        rw [List.length_append, bin_len]
        rw [List.length_append] at hp
        omega
      · rw [hj] at hF
        exact hF μ18 j rfl h18
    · rw [if_neg c] at hT ⊢
      exact hT μ i e rfl h
theorem x_level {a0 : mw_M} {b n : Nat} {tb : Nat → Nat} (hb : LB b) (ht : TB n tb) {c1 : Int32 → Int32 → mw_M → (mw_M → Prop) → (mw_M → Prop) → Prop} {c2 : Int32 → mw_M → (mw_M → Prop) → (mw_M → Prop) → Prop} {c : Nat} (hc : c ≤ 4) {p2 : Int32} {op : Nat → RES} (ho : GD n op) (hX : XP a0 b n tb (c1 (nI (4 - c + 1)) p2) (pLv tb op c)) : XP a0 b n tb (S7_isRead c1 c2 (nI (4 - c)) p2) (pLv tb op (c + 1)) := by
  intro μ i pre QT QF h hi hp hT hF
  unfold S7_isRead
  have hs := pLv_G ht ho c
  have g := hs i hi
  refine ⟨fun _ => ?_, fun z => absurd (nI_lt (b := 5) (by omega) (by decide)) z⟩
  rw [show nI (4 - c) + 1 = nI (4 - c + 1) from nI_add _ 1]
  unfold pLv at hT hF
  refine hX μ i pre _ _ h hi hp (fun μ3 j e hj h3 => ?_) (fun μ3 j hj h3 => ?_)
  · rw [hj] at hT hF g
    have g2 := g.2.2 e rfl
    simp only at hT hF g g2
    have hl : (pre ++ e.1).length ≤ j := by rw [List.length_append]; omega
    refine ⟨fun z => ?_, fun z => ?_⟩
    · have c3 : c = 2 := by
        have := (nI_eq (a := 4 - c) (b := 2) (by omega) (by decide)).1 z
        omega
      subst c3
      exact ⟨2, x_loop hb ht (by omega) hs hX (K := 1) (by decide) 1 0 μ3 j e rfl h3 g.2.1 hl hT hF⟩
    · have c3 : ¬ c = 2 := fun q => z (by subst q; rfl)
      rw [if_neg c3] at hT hF
      exact ⟨121, x_loop hb ht (by omega) hs hX (K := 120) (by decide) 120 0 μ3 j e rfl h3 g.2.1 hl hT hF⟩
  · rw [hj] at hF
    exact hF μ3 j rfl h3
theorem x_numL {a0 : mw_M} {b n : Nat} {tb : Nat → Nat} (ht : TB n tb) {pre : List Int32} {QT QF : mw_M → Prop} {K1 : Int32 → Int32 → mw_M → Prop} : ∀ k v1 μ i v, v1 + k = 4 → XS a0 b n tb μ i pre → LB b → i ≤ n → (∀ μ' j w x, pNum tb k i v = (j, some (eNum w)) → XS a0 b n tb μ' j pre → K1 x (nI w) μ') → L7_numberIsRead_4 QT QF K1 (k + 1) (nI v1) (nI v) μ := by
  intro k
  induction k with
  | zero =>
    intro v1 μ i v hv h hb hi hT
    have e : v1 = 4 := by omega
    subst e
    unfold L7_numberIsRead_4
    exact ⟨fun _ => hT μ i v _ rfl h, fun z => absurd (show (4 : Int32) ≤ nI 4 by decide) z⟩
  | succ k ih =>
    intro v1 μ i v hv h hb hi hT
    have hti := (ht.2 i).1
    unfold L7_numberIsRead_4
    unfold pNum at hT
    refine ⟨fun z => absurd z (by rw [zle, nI_toInt (by omega)]; simp only [Int32.reduceToInt]; omega), fun _ => ?_⟩
    rw [x_here ht h hi, ch7_isDigit hti]
    by_cases c : dgt (tb i) = true
    · rw [if_pos c] at hT ⊢
      rw [x_here ht h hi]
      intro x hx μ13 e13 y hy
      have cc : 48 ≤ tb i ∧ tb i ≤ 57 := by unfold dgt at c; simp at c; exact c
      have hin := ht.in (i := i) (by omega)
      have ex : x = nI (v * 10 + (tb i - 48)) := by
        rw [hx, show (10 : Int32) = nI 10 from rfl, pk_mul, nI_add, show (48 : Int32) = nI 48 from rfl, pk_sub (by omega)]
        congr 1; omega
      rw [show nI v1 + 1 = nI (v1 + 1) from nI_add v1 1] at hy
      rw [hy, ex]
      exact ih (v1 + 1) μ13 (i + 1) _ (by omega) (x_step hb h e13) hb hin hT
    · rw [if_neg c] at hT ⊢
      exact hT μ i v _ rfl h
theorem x_num {a0 : mw_M} {b n : Nat} {tb : Nat → Nat} (hb : LB b) (ht : TB n tb) {pre : List Int32} {QT QF : mw_M → Prop} {μ : mw_M} {i : Nat} (h : XS a0 b n tb μ i pre) (hi : i < n) (hp : pre.length ≤ i) (hT : ∀ μ' j e, pNum tb 4 i 0 = (j, some e) → XS a0 b n tb μ' j (pre ++ e.1) → QT μ') : P7_numberIsRead μ QT QF := by
  unfold P7_numberIsRead
  have hn := ht.1
  refine ⟨5, x_numL ht 4 0 μ i 0 rfl h hb (by omega) (fun μ' j w x hj h' => x_add hb h' (by omega) (fun μ2 h2 => hT μ2 j _ hj h2))⟩
theorem S_31 {s k : Nat} (hs : s < 256) (hk : k < 256) : (nI s = nI k) = (s = k) := nIe hs k hk
/-- an operand with no level left, or with one -/
theorem x_operand {a0 : mw_M} {b n : Nat} {tb : Nat → Nat} (hb : LB b) (ht : TB n tb) {c3 : Int32 → mw_M → (mw_M → Prop) → (mw_M → Prop) → Prop} {c4 : Int32 → Int32 → mw_M → (mw_M → Prop) → (mw_M → Prop) → Prop} {o : Nat} {f : Nat → RES} (ho : o ≤ 6) (hN : ∀ i, dgt (tb i) = true → f i = pNum tb 4 i 0) (hM : ∀ i k, ¬ dgt (tb i) = true → nmk (tb i) = some k → f i = (i + 1, some (eNam k))) (hZ : ∀ i, ¬ dgt (tb i) = true → nmk (tb i) = none → (tb i ≠ 40 ∧ tb i ≠ 33 ∧ tb i ≠ 45) ∨ o = 6 → f i = (i, none)) (h40 : ∀ i μ pre (QT QF : mw_M → Prop), o < 6 → tb i = 40 → XS a0 b n tb μ (i + 1) pre → i + 1 ≤ n → pre.length ≤ i → (∀ μ' j e, f i = (j, some e) → XS a0 b n tb μ' j (pre ++ e.1) → QT μ') → (∀ μ' j, f i = (j, none) → XF a0 b n μ' j → QF μ') → c3 (nI (o + 1)) μ QT QF) (h33 : ∀ i μ pre (QT QF : mw_M → Prop), o < 6 → tb i = 33 ∨ tb i = 45 → XS a0 b n tb μ (i + 1) pre → i + 1 ≤ n → pre.length ≤ i → (∀ μ' j e, f i = (j, some e) → XS a0 b n tb μ' j (pre ++ e.1) → QT μ') → (∀ μ' j, f i = (j, none) → XF a0 b n μ' j → QF μ') → c4 (nI (tb i)) (nI (o + 1)) μ QT QF) : XP a0 b n tb (S7_operandIsRead c3 c4 (nI o)) f := by
  intro μ i pre QT QF h hi hp hT hF
  have hti := (ht.2 i).1
  have hn := ht.1
  unfold S7_operandIsRead
  rw [x_here ht h hi, ch7_isDigit hti]
  by_cases c : dgt (tb i) = true
  · rw [if_pos c]
    have cc : 48 ≤ tb i ∧ tb i ≤ 57 := by unfold dgt at c; simp at c; exact c
    rw [hN i c] at hT
    exact x_num hb ht h (ht.in (by omega)) hp hT
  · rw [if_neg c, x_name hti]
    cases hk : nmk (tb i) with
    | some k =>
      simp only
      have hk9 := nmk_0 hk
      refine ⟨fun z => absurd z (nI_nlt (b := 0) (by omega) (by omega)), fun _ μ34 e34 => ?_⟩
      have hin := ht.in hk9.1
      exact x_add hb (x_step hb h e34) (by omega) (fun μ' h' => hT μ' (i + 1) (eNam k) (hM i k c hk) h')
    | none =>
      simp only
      have E40 := nIe hti 40 (by decide)
      have E33 := nIe hti 33 (by decide)
      have E45 := nIe hti 45 (by decide)
      change (nI (tb i) = 40) = _ at E40
      change (nI (tb i) = 33) = _ at E33
      change (nI (tb i) = 45) = _ at E45
      rw [E40, E33, E45]
      have el : (nI o < 6) = (o < 6) := by rw [zlt, nI_toInt (by omega)]; simp only [Int32.reduceToInt]; exact propext (by omega)
      rw [el]
      rw [show nI o + 1 = nI (o + 1) from nI_add o 1]
      refine ⟨fun _ => ⟨fun c1 => ⟨fun o6 μ12 e12 => ⟨fun _ => ?_, fun z => absurd c1 z⟩, fun o6 => ?_⟩, fun c1 => ⟨fun c2 => ⟨fun o6 μ12 e12 => ⟨fun z => absurd z c1, fun _ => ?_⟩, fun o6 => ?_⟩, fun c2 => ⟨fun c3 => ⟨fun o6 μ12 e12 => ⟨fun z => absurd z c1, fun _ => ?_⟩, fun o6 => ?_⟩, fun c3 => ?_⟩⟩⟩, fun z => absurd (show (-1 : Int32) < 0 by decide) z⟩
      · exact h40 i μ12 pre QT QF o6 c1 (x_step hb h e12) (ht.in (by omega)) hp hT hF
      · exact hF μ i (hZ i c hk (Or.inr (by omega))) h.1
      · exact h33 i μ12 pre QT QF o6 (Or.inl c2) (x_step hb h e12) (ht.in (by omega)) hp hT hF
      · exact hF μ i (hZ i c hk (Or.inr (by omega))) h.1
      · exact h33 i μ12 pre QT QF o6 (Or.inr c3) (x_step hb h e12) (ht.in (by omega)) hp hT hF
      · exact hF μ i (hZ i c hk (Or.inr (by omega))) h.1
      · exact hF μ i (hZ i c hk (Or.inl ⟨c1, c2, c3⟩)) h.1
theorem pOp_40 {tb : Nat → Nat} {r i : Nat} (h : tb i = 40) : pOp tb (r + 1) i = match pLv tb (pOp tb r) 5 (i + 1) with
    | (j, some e) => if tb j = 41 then (j + 1, some e) else (j, none)
    | (j, none) => (j, none) := by
  conv => lhs; unfold pOp
  rw [h, if_neg (show ¬ dgt 40 = true by decide), show nmk 40 = none from rfl]
  rfl
theorem pOp_33 {tb : Nat → Nat} {r i : Nat} (h : tb i = 33) : pOp tb (r + 1) i = match pOp tb r (i + 1) with
    | (j, some e) => (j, some (eInv e))
    | (j, none) => (j, none) := by
  conv => lhs; unfold pOp
  rw [h, if_neg (show ¬ dgt 33 = true by decide), show nmk 33 = none from rfl]
  rfl
theorem pOp_45 {tb : Nat → Nat} {r i : Nat} (h : tb i = 45) : pOp tb (r + 1) i = match pOp tb r (i + 1) with
    | (j, some e) => (j, some (eNeg e))
    | (j, none) => (j, none) := by
  conv => lhs; unfold pOp
  rw [h, if_neg (show ¬ dgt 45 = true by decide), show nmk 45 = none from rfl]
  rfl
theorem pOp_d {tb : Nat → Nat} {r i : Nat} (h : dgt (tb i) = true) : pOp tb r i = pNum tb 4 i 0 := by
  cases r <;> (unfold pOp; rw [if_pos h])
theorem pOp_n {tb : Nat → Nat} {r i k : Nat} (h : ¬ dgt (tb i) = true) (hk : nmk (tb i) = some k) : pOp tb r i = (i + 1, some (eNam k)) := by
  cases r <;> (unfold pOp; rw [if_neg h, hk])
theorem pOp_z {tb : Nat → Nat} {r i : Nat} (h : ¬ dgt (tb i) = true) (hk : nmk (tb i) = none) (hz : (tb i ≠ 40 ∧ tb i ≠ 33 ∧ tb i ≠ 45) ∨ r = 0) : pOp tb r i = (i, none) := by
  cases r with
  | zero => unfold pOp; rw [if_neg h, hk]
  | succ r =>
    have hz : tb i ≠ 40 ∧ tb i ≠ 33 ∧ tb i ≠ 45 := by
      rcases hz with q | q
      · exact q
      · omega
    unfold pOp; rw [if_neg h, hk]
    simp only
    rw [if_neg hz.1, if_neg hz.2.1, if_neg hz.2.2]
theorem x_Lv {a0 : mw_M} {b n : Nat} {tb : Nat → Nat} (hb : LB b) (ht : TB n tb) {op : Nat → RES} (ho : GD n op) {p2 : Int32} {M0 : Nat} (hX : ∀ N, M0 ≤ N → XP a0 b n tb ((G0 N).2.1 p2) op) : ∀ c, c ≤ 5 → ∀ N, M0 + 1 + c ≤ N → XP a0 b n tb ((G0 N).1 (nI (5 - c)) p2) (pLv tb op c)
  | 0, _, N, hN => by
    obtain ⟨N', rfl⟩ : ∃ k, N = k + 1 := ⟨N - 1, by omega⟩
    intro μ i pre QT QF h hi hp hT hF
    show S7_isRead (G0 N').1 (G0 N').2.1 (nI 5) p2 μ QT QF
    unfold S7_isRead
    exact ⟨fun z => absurd z (by decide), fun _ => hX N' (by omega) μ i pre QT QF h hi hp hT hF⟩
  | c + 1, hc, N, hN => by
    obtain ⟨N', rfl⟩ : ∃ k, N = k + 1 := ⟨N - 1, by omega⟩
    have h := x_Lv hb ht ho hX c (by omega) N' (by omega)
    rw [show 5 - c = 4 - c + 1 by omega] at h
    have := x_level hb ht (c2 := (G0 N').2.1) (show c ≤ 4 by omega) ho h
    rw [show 5 - (c + 1) = 4 - c by omega]
    exact this
theorem x_Op {a0 : mw_M} {b n : Nat} {tb : Nat → Nat} (hb : LB b) (ht : TB n tb) : ∀ r, r ≤ 6 → ∀ N, 8 * r + 2 ≤ N → XP a0 b n tb ((G0 N).2.1 (nI (6 - r))) (pOp tb r)
  | 0, _, N, hN => by
    obtain ⟨N', rfl⟩ : ∃ k, N = k + 1 := ⟨N - 1, by omega⟩
    exact x_operand hb ht (c3 := (G0 N').2.2.1) (c4 := (G0 N').2.2.2) (Nat.le_refl _) (fun i h => pOp_d h) (fun i k h hk => pOp_n h hk) (fun i h hk _ => pOp_z h hk (Or.inr rfl)) (fun _ _ _ _ _ z => absurd z (by decide)) (fun _ _ _ _ _ z => absurd z (by decide))
  | r + 1, hr, N, hN => by
    obtain ⟨N', rfl⟩ : ∃ k, N = k + 2 := ⟨N - 2, by omega⟩
    have hO := x_Op hb ht (a0 := a0) r (by omega)
    have hG := pOp_G ht r
    have hL := x_Lv hb ht hG hO 5 (Nat.le_refl _) N' (by omega)
    have hS := hO N' (by omega)
    have gL := pLv_G ht hG 5
    refine x_operand hb ht (c3 := (G0 (N' + 1)).2.2.1) (c4 := (G0 (N' + 1)).2.2.2) (show 6 - (r + 1) ≤ 6 by omega) (fun i h => pOp_d h) (fun i k h hk => pOp_n h hk) (fun i h hk hz => pOp_z h hk (by omega)) (fun i μ pre QT QF o6 h1 h hi hp hT hF => ?_) (fun i μ pre QT QF o6 h1 h hi hp hT hF => ?_)
    · rw [show 6 - (r + 1) + 1 = 6 - r by omega]
      rw [pOp_40 h1] at hT hF
      show S7_bracketIsRead (G0 N').1 (nI (6 - r)) μ QT QF
      unfold S7_bracketIsRead
      have g := gL (i + 1) hi
      refine hL μ (i + 1) pre _ _ h hi (by omega) (fun μ2 j e hj h2 => ?_) (fun μ2 j hj h2 => ?_)
      · rw [hj] at hT hF g
        rw [show (41 : Int32) = nI 41 from rfl, x_isHere ht h2 g.2.1 (by decide) (by decide)]
        simp only at hT hF
        by_cases c : tb j = 41
        · rw [if_pos c] at hT ⊢
          intro μ5 e5
          exact hT μ5 (j + 1) e rfl (x_step hb h2 e5)
        · rw [if_neg c] at hF ⊢
          exact hF μ2 j rfl h2.1
      · rw [hj] at hF
        exact hF μ2 j rfl h2
    · rw [show 6 - (r + 1) + 1 = 6 - r by omega]
      show S7_signedIsRead (G0 N').2.1 (nI (tb i)) (nI (6 - r)) μ QT QF
      unfold S7_signedIsRead
      have g := hG (i + 1) hi
      have hn := ht.1
      rcases h1 with h1 | h1
      · rw [pOp_33 h1] at hT hF
        refine hS μ (i + 1) pre _ _ h hi (by omega) (fun μ2 j e hj h2 => ?_) (fun μ2 j hj h2 => ?_)
        · rw [hj] at hT g
          have g2 := g.2.2 e rfl
          simp only at g2 g
          have ll : (pre ++ e.1).length = pre.length + e.1.length := List.length_append
          rw [h1]
          have := x_add hb h2 (by omega) (x := 10033) (Q := QT) (fun μ3 h3 => hT μ3 j (eInv e) rfl (by rw [List.append_assoc] at h3; exact h3))
          exact ⟨this.1, fun _ => this.2, fun z => absurd rfl z⟩
        · rw [hj] at hF
          exact hF μ2 j rfl h2
      · rw [pOp_45 h1] at hT hF
        refine hS μ (i + 1) pre _ _ h hi (by omega) (fun μ2 j e hj h2 => ?_) (fun μ2 j hj h2 => ?_)
        · rw [hj] at hT g
          have g2 := g.2.2 e rfl
          simp only at g2 g
          have ll : (pre ++ e.1).length = pre.length + e.1.length := List.length_append
          rw [h1]
          have := x_add hb h2 (by omega) (x := 10126) (Q := QT) (fun μ3 h3 => hT μ3 j (eNeg e) rfl (by rw [List.append_assoc] at h3; exact h3))
          exact ⟨this.1, fun z => absurd z (by decide), fun _ => this.2⟩
        · rw [hj] at hF
          exact hF μ2 j rfl h2
theorem x_E {a0 : mw_M} {b n : Nat} {tb : Nat → Nat} (hb : LB b) (ht : TB n tb) : XP a0 b n tb (P7_isRead 0 0) (pE tb) := x_Lv hb ht (pOp_G ht 6) (x_Op hb ht 6 (Nat.le_refl _)) 5 (Nat.le_refl _) 64 (by decide)
