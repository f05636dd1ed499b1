/-! the laws on both sides -/
theorem pText_G {n : Nat} {tb : Nat → Nat} (ht : TB n tb) : ∀ k i, i ≤ n → ∀ j ls, pText tb n k i = (j, some ls) → j ≤ n ∧ ls ≠ [] ∧ (∀ l ∈ ls, okLN l) ∧ i + (txCode ls).length ≤ j := by
  intro k
  induction k with
  | zero =>
    intro i hi j ls h
    unfold pText at h
    simp at h
  | succ k ih =>
    intro i hi j ls h
    have g := pLine_G ht hi
    unfold pText at h
    cases hr : pLine tb i with
    | mk p o =>
      rw [hr] at h g
      cases o with
      | none => simp at h
      | some l =>
        have g2 := g.2.2 l rfl
        simp only at h g g2
        by_cases c : p < n
        · rw [if_pos c] at h
          by_cases c2 : tb p = 59
          · rw [if_pos c2] at h
            cases hq : pText tb n k (p + 1) with
            | mk q o2 =>
              rw [hq] at h
              cases o2 with
              | none => simp at h
              | some ls' =>
                simp only [Prod.mk.injEq, Option.some.injEq] at h
                obtain ⟨rfl, rfl⟩ := h
                have r := ih (p + 1) (by omega) q ls' hq
                refine ⟨r.1, by simp, fun x hx => ?_, ?_⟩
                · rcases List.mem_cons.1 hx with rfl | hx
                  · exact g2.2.2
                  · exact r.2.2.1 x hx
                · rw [txCode_cons _ _ r.2.1, List.length_append, List.length_cons]
                  have := r.2.2.2
                  omega
          · rw [if_neg c2] at h
            simp at h
        · rw [if_neg c] at h
          simp only [Prod.mk.injEq, Option.some.injEq] at h
          obtain ⟨rfl, rfl⟩ := h
          refine ⟨g.2.1, by simp, fun x hx => ?_, g2.1⟩
          rw [List.mem_singleton.1 hx]
          exact g2.2.2
/-- law i on both sides -/
def LAW (a m : mw_M) (i : Nat) : Prop := ∃ (n : Nat) (tb : Nat → Nat) (j : Nat) (ls : List LN), TB n tb ∧ m.1 12 i = nI n ∧ (∀ k, k < n → m.1 11 (120 * i + k) = nI (tb k)) ∧ pText tb n 120 0 = (j, some ls) ∧ a.1 (20 + 3 * i) 2 = nI (txCode ls).length ∧ ∀ k, k < (txCode ls).length → a.1 (20 + 3 * i + 1) k = (txCode ls).getD k 0
def RLaws (a m : mw_M) : Prop := ∃ nl : Nat, nl ≤ 4 ∧ a.1 15 3 = nI nl ∧ m.1 0 15 = nI nl ∧ a.1 15 4 = m.1 0 16 ∧ (m.1 0 16 = -1 ∨ ∃ k : Nat, k < nl ∧ m.1 0 16 = nI k) ∧ ∀ i, i < nl → LAW a m i
theorem LB_of {i : Nat} (h : i < 4) : LB (20 + 3 * i) := by
  rcases (show i = 0 ∨ i = 1 ∨ i = 2 ∨ i = 3 by omega) with rfl | rfl | rfl | rfl
  · exact Or.inl rfl
  · exact Or.inr (Or.inl rfl)
  · exact Or.inr (Or.inr (Or.inl rfl))
  · exact Or.inr (Or.inr (Or.inr rfl))
theorem RLaws.fr {a m u v : mw_M} {S T J : List Nat} (h : RLaws a m) (hx : FX S a u) (hm : FM T J m v) (h1 : (∀ k ∈ [15, 21, 24, 27, 30], k ∉ S) ∧ (∀ k ∈ [11, 12], k ∉ T) ∧ ∀ k ∈ [15, 16], k ∉ J) (h2 : ∀ b, LB b → u.1 b 2 = a.1 b 2) : RLaws u v := by
  obtain ⟨nl, n4, q1, q2, q3, q4, q5⟩ := h
  have e15 : u.1 15 = a.1 15 := (hx 15 (h1.1 15 (by decide))).1
  have m11 : v.1 11 = m.1 11 := (hm.1 11 (h1.2.1 11 (by decide)) (by decide)).1
  have m12 : v.1 12 = m.1 12 := (hm.1 12 (h1.2.1 12 (by decide)) (by decide)).1
  have z15 : v.1 0 15 = m.1 0 15 := hm.2 15 (h1.2.2 15 (by decide))
  have z16 : v.1 0 16 = m.1 0 16 := hm.2 16 (h1.2.2 16 (by decide))
  have ec : ∀ i, i < 4 → u.1 (20 + 3 * i + 1) = a.1 (20 + 3 * i + 1) := fun i hi => (hx _ (h1.1 _ (by rcases (show i = 0 ∨ i = 1 ∨ i = 2 ∨ i = 3 by omega) with rfl | rfl | rfl | rfl <;> simp))).1
  refine ⟨nl, n4, by rw [e15]; exact q1, by rw [z15]; exact q2, by rw [e15, z16]; exact q3, by rw [z16]; exact q4, fun i hi => ?_⟩
  obtain ⟨n, tb, j, ls, g1, g2, g3, g4, g5, g6⟩ := q5 i hi
  refine ⟨n, tb, j, ls, g1, by rw [m12]; exact g2, by rw [m11]; exact g3, g4, by rw [h2 _ (LB_of (by omega))]; exact g5, by rw [ec i (by omega)]; exact g6⟩
theorem ch4_has {a : mw_M} {nl : Nat} (h4 : nl ≤ 4) (h : a.1 15 3 = nI nl) (p : Int32) (QT QF : Prop) : P4_has p a QT QF = if 0 ≤ p.toInt ∧ p.toInt < nl then QT else QF := by
  unfold P4_has
  rw [h, if_ab, if_ab]
  simp only [zlt, zle, Int32.reduceToInt, nI_toInt (show nl < 2 ^ 31 by omega)]
  by_cases h1 : p.toInt < 0
  · rw [if_pos h1, if_neg (by omega)]
  · rw [if_neg h1]
    by_cases h2 : (nl : Int) ≤ p.toInt
    · rw [if_pos h2, if_neg (by omega)]
    · rw [if_neg h2, if_pos (by omega)]
theorem ch11_isLaw {m : mw_M} {nl : Nat} (h4 : nl ≤ 4) (h : m.1 0 15 = nI nl) (p : Int32) (QT QF : Prop) : P11_isLaw p m QT QF = if 0 ≤ p.toInt ∧ p.toInt < nl then QT else QF := by
  unfold P11_isLaw
  rw [ch_within, toL, toL, h, Int32.toInt_sub, nI_toInt (by omega)]
  have e : ((nl : Int) - (1 : Int32).toInt).bmod (2 ^ 32) = nl - 1 := by rw [show (1 : Int32).toInt = 1 from rfl]; exact bmE (by omega) (by omega)
  rw [e]
  exact if_c (by simp only [Int64.reduceToInt]; omega)
/-- water -/
theorem op_water {a m : mw_M} (hR : RLaws a m) {p1 : Int32} {Q : Int32 → Int32 → mw_M → mw_M → Prop} (hQ : ∀ r u v, FX [15] a u → FM [] [16] m v → RLaws u v → Q r r u v) : P10_water p1 a (fun r u => P11_water p1 m (fun r' v => Q r r' u v)) := by
  obtain ⟨nl, n4, q1, q2, q3, q4, q5⟩ := hR
  have step : (p1 = -1 ∨ ∃ k : Nat, k < nl ∧ p1 = nI k) → Q (a.1 15 4) (m.1 0 16) (mw_I a 15 4 p1) (mw_I m 0 16 p1) := fun hp => by
    rw [q3]
    refine hQ _ _ _ (FX.rf.I (by decide)) (FM.rf.O (by decide)) ⟨nl, n4, ?_, ?_, ?_, ?_, fun i hi => ?_⟩
    · rw [mw_I_nj (by decide)]; exact q1
    · rw [mw_I_nj (by decide)]; exact q2
    · rw [mw_I_eq, mw_I_eq]
    · rw [mw_I_eq]; exact hp
    · obtain ⟨n, tb, j, ls, g1, g2, g3, g4, g5, g6⟩ := q5 i hi
      exact ⟨n, tb, j, ls, g1, by rw [mw_I_ne (by decide)]; exact g2, fun k hk => by rw [mw_I_ne (by decide)]; exact g3 k hk, g4, by rw [mw_I_ne (by omega)]; exact g5, fun k hk => by rw [mw_I_ne (by omega)]; exact g6 k hk⟩
  have hF : Q (-2000000000) (-2000000000) a m := hQ _ a m FX.rf FM.rf ⟨nl, n4, q1, q2, q3, q4, q5⟩
  unfold P10_water P11_water P4_giveWater
  simp only [forall_eq, ch4_has n4 q1, ch11_isLaw n4 q2]
  by_cases c : p1 = -1
  · exact ⟨fun _ => ⟨fun _ => step (Or.inl c), fun z => absurd c z⟩, fun z => absurd c z⟩
  · refine ⟨fun z => absurd z c, fun _ => ?_⟩
    by_cases h : 0 ≤ p1.toInt ∧ p1.toInt < nl
    · simp only [if_pos h]
      obtain ⟨k, hk, rfl⟩ := nI_get h.1
      have h2 := h.2
      rw [nI_toInt hk] at h2
      exact ⟨fun z => absurd z c, fun _ => step (Or.inr ⟨k, by omega, rfl⟩)⟩
    · simp only [if_neg h]
      exact ⟨fun z => absurd z c, fun _ => hF⟩
theorem ex_cong {nm nm' : Nat → Int32} (h : ∀ k, k < 9 → nm k = nm' k) {e : EX} (he : okE e) : e.2 nm = e.2 nm' := by
  refine he (fun e => e.2 nm = e.2 nm') (fun n hn => rfl) (fun k hk => h k hk) (fun e h => ?_) (fun e h => ?_) (fun s a b hs h1 h2 => ?_)
  · show -e.2 nm = -e.2 nm'
    rw [h]
  · show (if e.2 nm = 0 then (1 : Int32) else 0) = if e.2 nm' = 0 then 1 else 0
    rw [h]
  · show jnS s (a.2 nm) (b.2 nm) = jnS s (a.2 nm') (b.2 nm')
    rw [h1, h2]
theorem tx_cong {nm nm' : Nat → Int32} (h : ∀ k, k < 9 → nm k = nm' k) : ∀ ls : List LN, (∀ l ∈ ls, okLN l) → txVal nm ls = txVal nm' ls
  | [], _ => rfl
  | (none, e) :: ls, hok => ex_cong h (show okE e from hok _ (List.mem_cons_self ..))
  | (some c, e) :: ls, hok => by
    have ho : okE c ∧ okE e := hok _ (List.mem_cons_self ..)
    show (if c.2 nm = 0 then txVal nm ls else e.2 nm) = if c.2 nm' = 0 then txVal nm' ls else e.2 nm'
    rw [ex_cong h ho.1, ex_cong h ho.2, tx_cong h ls (fun l hl => hok l (List.mem_cons_of_mem _ hl))]
/-- a law worked out on both sides -/
theorem op_worth {a m : mw_M} {i : Nat} (hi : i < 4) (hL : LAW a m i) (hn : ∀ k, k < 9 → a.1 19 k = m.1 13 k) {Q : Int32 → Int32 → mw_M → mw_M → Prop} (hQ : ∀ r u v, FX [20 + 3 * i, 20 + 3 * i + 2] a u → (∀ j, j ≠ 3 → u.1 (20 + 3 * i) j = a.1 (20 + 3 * i) j) → FM [] [19, 20, 21, 22, 23] m v → Q r r u v) : P3_worth (20 + 3 * i) 19 a (fun r u => P11_workOut (nI (120 * i)) (m.1 12 i) m (fun r' v => Q r r' u v)) := by
  obtain ⟨n, tb, j, ls, g1, g2, g3, g4, g5, g6⟩ := hL
  have gt := pText_G g1 120 0 (Nat.zero_le _) j ls g4
  have hn1 := g1.1
  refine x_worth (LB_of hi) gt.2.1 gt.2.2.1 (by have := gt.2.2.2; omega) g5 g6 (fun u hu hj => ?_)
  rw [g2]
  refine m_workOut g1 (Or.inr ⟨120 * i, by omega, rfl, g3⟩) (fun v j' ls' h1 h2 h3 => ?_) (fun v j' x h1 h2 h3 h4 => ?_)
  · rw [g4] at h1
    simp only [Prod.mk.injEq, Option.some.injEq] at h1
    obtain ⟨rfl, rfl⟩ := h1
    have e : txVal (m.1 13) ls = txVal (a.1 19) ls := (tx_cong hn ls gt.2.2.1).symm
    rw [e]
    exact hQ _ u v hu hj h2
  · rw [g4] at h1
    simp at h1
def cpM (nl : Nat) (m : mw_M) : Nat → mw_M
  | 0 => m
  | k + 1 => mw_I (cpM nl m k) 11 (120 * nl + k) (m.1 10 k)
theorem cpM_F {nl : Nat} {m : mw_M} : ∀ k, FM [11] [] m (cpM nl m k)
  | 0 => FM.rf
  | k + 1 => (cpM_F k).I (by decide) (by decide)
theorem cpM_get {nl : Nat} {m : mw_M} : ∀ k j, (cpM nl m k).1 11 j = if 120 * nl ≤ j ∧ j < 120 * nl + k then m.1 10 (j - 120 * nl) else m.1 11 j
  | 0, j => by rw [if_neg (by omega)]; rfl
  | k + 1, j => by
    unfold cpM
    rw [mw_I_get, cpM_get k j]
    by_cases c : j = 120 * nl + k
    · subst c
      rw [if_pos ⟨rfl, rfl⟩, if_pos (by omega), show 120 * nl + k - 120 * nl = k by omega]
    · rw [if_neg (fun q => c q.2)]
      by_cases d : 120 * nl ≤ j ∧ j < 120 * nl + k
      · rw [if_pos d, if_pos (by omega)]
      · rw [if_neg d, if_neg (by omega)]
theorem l11_law {m : mw_M} {n nl : Nat} (hn : n ≤ 120) (h4 : nl < 4) (h15 : m.1 0 15 = nI nl) {r2 : Int32} {Q : Int32 → mw_M → Prop} {K1 : Int32 → mw_M → Prop} (hK : ∀ x, K1 x (cpM nl m n)) : ∀ k i, i + k = n → L11_law_48 (nI n) r2 Q K1 (k + 1) (nI i) (cpM nl m i) := by
  intro k
  induction k with
  | zero =>
    intro i hi
    have e : i = n := by omega
    subst e
    unfold L11_law_48
    exact ⟨fun _ => hK _, fun z => absurd (nI_le (Nat.le_refl _) (by omega)) z⟩
  | succ k ih =>
    intro i hi
    unfold L11_law_48
    have e : (cpM nl m i).1 0 15 = nI nl := ((cpM_F i).2 15 (by simp)).trans h15
    have e10 : (cpM nl m i).1 10 = m.1 10 := ((cpM_F i).1 10 (by decide) (by decide)).1
    rw [e, e10]
    refine ⟨fun z => absurd z (by rw [zle, nI_toInt (by omega), nI_toInt (by omega)]; omega), fun _ => ⟨vp_in_nI (by omega) (by decide), ?_⟩⟩
    rw [show (120 : Int32) * nI nl = nI (120 * nl) from pk_mul 120 nl, nI_add, nI_clamp (by omega), nI_clamp (by omega)]
    refine ⟨vp_in_nI (by omega) (by decide), fun μ13 e13 x hx => ?_⟩
    rw [show nI i + 1 = nI (i + 1) from nI_add i 1] at hx
    rw [hx, e13]
    exact ih (i + 1) (by omega)
/-- law -/
theorem op_law {a m : mw_M} (hT : RTape a m) (hR : RLaws a m) {Q : Int32 → Int32 → mw_M → mw_M → Prop} (hQ : ∀ r u v, FX [15, 16, 20, 21, 23, 24, 26, 27, 29, 30] a u → FM [11, 12] [14, 15, 19, 20, 21, 22, 23] m v → RTape u v → RLaws u v → Q r r u v) : P10_law a (fun r u => P11_law m (fun r' v => Q r r' u v)) := by
  have hT' := hT
  have hR' := hR
  obtain ⟨n, t, hn, t1, t2, t3⟩ := hT
  obtain ⟨nl, n4, q1, q2, q3, q4, q5⟩ := hR
  let tb : Nat → Nat := fun k => if k < n then t k else 0
  have htb : ∀ k, k < n → tb k = t k := fun k hk => if_pos hk
  have ht : TB n tb := ⟨hn, fun i => by
    show (if i < n then t i else 0) < 256 ∧ (n ≤ i → (if i < n then t i else 0) = 0)
    by_cases c : i < n
    · rw [if_pos c]; exact ⟨(t3 i c).2.2, fun z => by omega⟩
    · rw [if_neg c]; exact ⟨by decide, fun _ => rfl⟩⟩
  unfold P10_law P4_areFull P11_law
  rw [q1, q2, if_ab]
  simp only [if_ab]
  have e4 : (nI nl = 4) ↔ (nl = 4) := nI_eq (a := nl) (b := 4) (by omega) (by decide)
  by_cases c4 : nl = 4
  · rw [if_neg (by rw [zlt, nI_toInt (by omega)]; simp only [Int32.reduceToInt]; omega)]
    simp only [if_pos (e4.2 c4)]
    exact hQ _ a m FX.rf FM.rf hT' hR'
  · rw [if_pos (by rw [zlt, nI_toInt (by omega)]; simp only [Int32.reduceToInt]; omega)]
    simp only [if_neg (fun z => c4 (e4.1 z))]
    have hb := LB_of (show nl < 4 by omega)
    have hbg := hb.ge
    unfold P4_makeFromTape
    rw [q1, nI_clamp (by omega)]
    refine ⟨fun _ => ⟨vp_in_nI (by omega) (by decide), ?_⟩, fun z => absurd (by rw [zlt, nI_toInt (by omega)]; simp only [Int32.reduceToInt]; omega) z⟩
    have fx : ∀ u, FX [16, 20 + 3 * nl, 20 + 3 * nl + 1] a u → FX [15, 16, 20, 21, 23, 24, 26, 27, 29, 30] a u := fun u h => h.mono (by
      rcases (show nl = 0 ∨ nl = 1 ∨ nl = 2 ∨ nl = 3 by omega) with rfl | rfl | rfl | rfl <;> decide)
    have ot : ∀ u, FX [16, 20 + 3 * nl, 20 + 3 * nl + 1] a u → u.1 15 = a.1 15 ∧ ∀ i, i < nl → u.1 (20 + 3 * i) = a.1 (20 + 3 * i) ∧ u.1 (20 + 3 * i + 1) = a.1 (20 + 3 * i + 1) := fun u h => ⟨(h 15 (by simp; omega)).1, fun i hi => ⟨(h _ (by simp; omega)).1, (h _ (by simp; omega)).1⟩⟩
    refine x_text hb ht t1 (fun k hk => by rw [htb k hk]; exact (t3 k hk).1) (fun μ4 j ls hj h4 => ?_) (fun μ4 j hj h4 => ?_)
    · intro μ5 e5 u eu
      have h4F := h4.1.1
      obtain ⟨o15, oi⟩ := ot μ4 h4F
      have e53 : μ5.1 15 3 = nI nl := by rw [e5, mw_I_ne (by decide), o15]; exact q1
      rw [e53, show nI nl + 1 = nI (nl + 1) from nI_add nl 1, e5] at eu
      have eu3 : u.1 15 3 = nI (nl + 1) := by rw [eu, mw_I_eq]
      rw [eu3, nI_sub1 (by omega), show nl + 1 - 1 = nl by omega, t2]
      refine m_workOut ht (Or.inl ⟨rfl, fun k hk => by rw [htb k hk]; exact (t3 k hk).2.1⟩) (fun μ3 j' ls' hj' hF h22 => ?_) (fun μ3 j' v hj' => ?_)
      · intro x4 ex4 v5 ev5
        have e14 : μ3.1 0 14 = nI n := (hF.2 14 (by decide)).trans t2
        rw [e14] at ex4
        subst ex4
        have g22 : v5.1 0 22 < 0 := by rw [ev5, mw_I_nj (by decide), h22]; decide
        rw [if_pos g22]
        have hF5 : FM [11, 12] [14, 15, 19, 20, 21, 22, 23] m v5 := by
          rw [ev5]
          exact (hF.mono (by simp) (by decide)).O (by decide)
        have h15 : v5.1 0 15 = nI nl := by rw [ev5, mw_I_nj (by decide)]; exact (hF.2 15 (by decide)).trans q2
        have h10 : v5.1 10 = m.1 10 := (hF5.1 10 (by decide) (by decide)).1
        refine ⟨n + 1, l11_law hn (by omega) h15 (fun x => ?_) n 0 (by omega)⟩
        have hF6 : FM [11, 12] [14, 15, 19, 20, 21, 22, 23] m (cpM nl v5 n) := hF5.tr ((cpM_F n).mono (by decide) (by simp))
        have e15 : (cpM nl v5 n).1 0 15 = nI nl := ((cpM_F n).2 15 (by simp)).trans h15
        rw [e15, nI_clamp (by omega)]
        refine ⟨vp_in_nI (by omega) (by decide), fun v16 e16 v17 e17 => ?_⟩
        have e163 : v16.1 0 15 = nI nl := by rw [e16, mw_I_ne (by decide)]; exact e15
        rw [e163, show nI nl + 1 = nI (nl + 1) from nI_add nl 1, e16] at e17
        have e173 : v17.1 0 15 = nI (nl + 1) := by rw [e17, mw_I_eq]
        rw [e173, nI_sub1 (by omega), show nl + 1 - 1 = nl by omega]
        have ev16 : v17.1 0 16 = m.1 0 16 := by
          rw [e17, mw_I_nj (by decide), mw_I_ne (by decide)]
          exact hF6.2 16 (by decide)
        refine hQ _ u v17 ?_ ?_ ?_ ?_
        · rw [eu]
          exact ((fx μ4 h4F).I (by decide)).I (by decide)
        · rw [e17]
          exact (hF6.I (by decide) (by decide)).O (by decide)
        · refine ⟨0, fun _ => 0, by decide, ?_, ?_, fun i hi => absurd hi (Nat.not_lt_zero _)⟩
          · rw [eu, mw_I_ne (by decide), mw_I_eq]; rfl
          · rw [e17, mw_I_nj (by decide), mw_I_ne (by decide), (cpM_F n).2 14 (by simp), ev5, mw_I_eq]; rfl
        · refine ⟨nl + 1, by omega, eu3, e173, ?_, ?_, fun i hi => ?_⟩
          · rw [eu, mw_I_nj (by decide), mw_I_ne (by decide), o15, ev16]; exact q3
          · rw [ev16]
            rcases q4 with q | ⟨k, hk, q⟩
            · exact Or.inl q
            · exact Or.inr ⟨k, by omega, q⟩
          · by_cases c : i = nl
            · subst c
              refine ⟨n, tb, j, ls, ht, ?_, fun k hk => ?_, hj, ?_, fun k hk => ?_⟩
              · rw [e17, mw_I_ne (by decide), mw_I_eq]
              · rw [e17, mw_I_ne (by decide), mw_I_ne (by decide), cpM_get, if_pos (by omega), h10, show 120 * i + k - 120 * i = k by omega, htb k hk]
                exact (t3 k hk).2.1
              · rw [eu, mw_I_ne (by omega), mw_I_ne (by omega)]; exact h4.2.2.1
              · rw [eu, mw_I_ne (by omega), mw_I_ne (by omega)]; exact h4.2.2.2.1 k hk
            · have hi2 : i < nl := by omega
              obtain ⟨n2, tb2, j2, ls2, g1, g2, g3, g4, g5, g6⟩ := q5 i hi2
              have hn2 := g1.1
              have m12 : μ3.1 12 = m.1 12 := (hF.1 12 (by simp) (by decide)).1
              have m11 : v5.1 11 = m.1 11 := by rw [ev5, mw_I_row (by decide)]; exact (hF.1 11 (by simp) (by decide)).1
              refine ⟨n2, tb2, j2, ls2, g1, ?_, fun k hk => ?_, g4, ?_, fun k hk => ?_⟩
              · rw [e17, mw_I_ne (by decide), mw_I_nj c, ((cpM_F n).1 12 (by decide) (by decide)).1, ev5, mw_I_row (by decide), m12]; exact g2
              · rw [e17, mw_I_ne (by decide), mw_I_ne (by decide), cpM_get, if_neg (by omega), m11]; exact g3 k hk
              · rw [eu, mw_I_ne (by omega), mw_I_ne (by omega), (oi i hi2).1]; exact g5
              · rw [eu, mw_I_ne (by omega), mw_I_ne (by omega), (oi i hi2).2]; exact g6 k hk
      · rw [hj] at hj'
        simp at hj'
    · intro μ7 e7
      have h4F := h4.1
      obtain ⟨o15, oi⟩ := ot μ4 h4F
      unfold P7_faultPlace
      have e72 : μ7.1 16 2 = nI j := by rw [e7, mw_I_nj (by decide)]; exact h4.2.2
      rw [e72, t2]
      refine m_workOut ht (Or.inl ⟨rfl, fun k hk => by rw [htb k hk]; exact (t3 k hk).2.1⟩) (fun μ3 j' ls' hj' => ?_) (fun μ3 j' v hj' hF hjn h22 => ?_)
      · rw [hj] at hj'
        simp at hj'
      · rw [hj] at hj'
        simp only [Prod.mk.injEq, and_true] at hj'
        subst hj'
        intro x4 ex4 v5 ev5
        have g22 : v5.1 0 22 = nI j := by rw [ev5, mw_I_nj (by decide), h22]
        rw [if_neg (by rw [g22]; exact nI_nlt (b := 0) (by omega) (by omega)), g22]
        have hF5 : FM [11, 12] [14, 15, 19, 20, 21, 22, 23] m v5 := by
          rw [ev5]
          exact (hF.mono (by simp) (by decide)).O (by decide)
        refine hQ _ μ7 v5 ?_ hF5 ?_ ?_
        · rw [e7]
          exact (fx μ4 h4F).I (by decide)
        · refine ⟨0, fun _ => 0, by decide, ?_, ?_, fun i hi => absurd hi (Nat.not_lt_zero _)⟩
          · rw [e7, mw_I_eq]; rfl
          · rw [ev5, mw_I_eq]; rfl
        · have m12 : v5.1 12 = m.1 12 := by rw [ev5, mw_I_row (by decide)]; exact (hF.1 12 (by simp) (by decide)).1
          have m11 : v5.1 11 = m.1 11 := by rw [ev5, mw_I_row (by decide)]; exact (hF.1 11 (by simp) (by decide)).1
          have z15 : v5.1 0 15 = m.1 0 15 := by rw [ev5, mw_I_nj (by decide)]; exact hF.2 15 (by decide)
          have z16 : v5.1 0 16 = m.1 0 16 := by rw [ev5, mw_I_nj (by decide)]; exact hF.2 16 (by decide)
          refine ⟨nl, n4, ?_, by rw [z15]; exact q2, ?_, by rw [z16]; exact q4, fun i hi => ?_⟩
          · rw [e7, mw_I_ne (by decide), o15]; exact q1
          · rw [e7, mw_I_ne (by decide), o15, z16]; exact q3
          · obtain ⟨n2, tb2, j2, ls2, g1, g2, g3, g4, g5, g6⟩ := q5 i hi
            exact ⟨n2, tb2, j2, ls2, g1, by rw [m12]; exact g2, by rw [m11]; exact g3, g4, by rw [e7, mw_I_ne (by omega), (oi i hi).1]; exact g5, fun k hk => by rw [e7, mw_I_ne (by omega), (oi i hi).2]; exact g6 k hk⟩
