/-! loads -/
def LW (W : Option (List LN)) (ls : List LN) (n c0 be da de no g : Nat) (sx sy goal seed : Int32) (f : Nat → Nat → Nat) (k : Nat) : WK := WN W ls n c0 be da de no g sx sy goal (iniW (seed + nI k) f (lopN n f c0)) 60
def lsS (s : Nat → WK) (n : Nat) (wa : Int32) : Nat → Int32 × Int32 × Int32 × Int32
  | 0 => (0, 0, 0, 0)
  | k + 1 => ((lsS s n wa k).1 + (if (s k).1 8 = -2 then 0 else 1), (lsS s n wa k).2.1 + nI (wetN (s k).2.1 n), (lsS s n wa k).2.2.1 + (mw_abs ((s k).1 1) + mw_abs ((s k).1 2)), (lsS s n wa k).2.2.2 + (if (s k).1 9 ≤ wa then 0 else 1))
/-- what the class's walk stands on -/
def XC (a m : mw_M) (W : Option (List LN)) (ls : List LN) (n c0 be da de no wa fl i g li nl : Nat) (sx sy : Int32) (f : Nat → Nat → Nat) : Prop := MCx a be da de no wa fl i g sx sy ∧ LAWl a li ls ∧ a.1 15 3 = nI nl ∧ WAT a m W ∧ XL 1 a n f c0
def FL (a u : mw_M) : Prop := FX (44 :: SW 50) a u ∧ ∀ q, LB q → u.1 q 2 = a.1 q 2
theorem FL.rf {a : mw_M} : FL a a := ⟨FX.rf, fun _ _ => rfl⟩
theorem FL.tr {a u v : mw_M} (h1 : FL a u) (h2 : FL u v) : FL a v := ⟨h1.1.tr h2.1, fun q hq => (h2.2 q hq).trans (h1.2 q hq)⟩
theorem FL.fw {a u v : mw_M} (h1 : FL a u) (h2 : FW 50 u v) : FL a v := h1.tr ⟨h2.1.mono (fun _ hx => List.mem_cons_of_mem _ hx), h2.2⟩
theorem FL.I {a u : mw_M} (h : FL a u) (j : Nat) (v : Int32) : FL a (mw_I u 44 j v) := ⟨h.1.I (by simp), fun q hq => by rw [mw_I_ne (by have := hq.lt; omega)]; exact h.2 q hq⟩
theorem FL.at {a u : mw_M} (h : FL a u) {k : Nat} (hk : k < 19 ∨ k = 21 ∨ k = 24 ∨ k = 27 ∨ k = 30) : u.1 k = a.1 k := (h.1 k (by simp [SW]; omega)).1
theorem XC.fl {a u m : mw_M} {W : Option (List LN)} {ls : List LN} {n c0 be da de no wa fl i g li nl : Nat} {sx sy : Int32} {f : Nat → Nat → Nat} (h : XC a m W ls n c0 be da de no wa fl i g li nl sx sy f) (hf : FL a u) : XC u m W ls n c0 be da de no wa fl i g li nl sx sy f := by
  obtain ⟨h1, h2, h3, h4, h5⟩ := h
  have e15 : u.1 15 = a.1 15 := hf.at (by omega)
  refine ⟨?_, ?_, by rw [e15]; exact h3, ?_, xl_rows h5 (fun k _ _ => hf.at (by omega))⟩
  · unfold MCx at h1 ⊢
    rw [hf.at (show 11 < 19 ∨ _ by omega), hf.at (show 12 < 19 ∨ _ by omega), hf.at (show 13 < 19 ∨ _ by omega), hf.at (show 14 < 19 ∨ _ by omega)]
    exact h1
  · obtain ⟨g1, g2, g3, g4, g5, g6⟩ := h2
    refine ⟨g1, g2, g3, g4, by rw [hf.2 _ (LB_of g1)]; exact g5, ?_⟩
    rw [hf.at (by omega)]
    exact g6
  · rcases h4 with ⟨h1, h2, h3⟩ | ⟨i, ls, n, j, tb, g1, g2, g3, g4, g5, g6, g7, g8, g9, g10, g11⟩
    · exact Or.inl ⟨h1, by rw [e15]; exact h2, h3⟩
    · refine Or.inr ⟨i, ls, n, j, tb, g1, g2, by rw [e15]; exact g3, by rw [e15]; exact g4, g5, g6, g7, g8, g9, by rw [hf.2 _ (LB_of g2)]; exact g10, ?_⟩
      rw [hf.at (by omega)]
      exact g11
def xTal0 (v6 : Int32) (μ28 : mw_M) (L : Int32 → mw_M → Prop) : Prop := P9_left 50 μ28 (fun r30 => (∀ μ32 : mw_M, μ32 = mw_I μ28 44 7 ((μ28.1 44 7) + r30) → P9_walked 50 μ32 (fun r33 => (∀ μ35 : mw_M, μ35 = mw_I μ32 44 8 ((μ32.1 44 8) + r33) → (∀ x36 : Int32, x36 = v6 + 1 → L x36 μ35)))))
def xTal (v6 : Int32) (μ28 : mw_M) (L : Int32 → mw_M → Prop) : Prop := (((μ28.1 50 16) = 0 → xTal0 v6 μ28 L) ∧ (¬ (μ28.1 50 16) = 0 → (∀ μ37 : mw_M, μ37 = mw_I μ28 44 9 ((μ28.1 44 9) + 1) → xTal0 v6 μ37 L)))
theorem x_tal0 {t n c0 : Nat} {st : WK} {μ : mw_M} {h0 : Int32} {KF : Nat → Nat → Int32} {N : Nat} (hL : LOK n st.2.1 c0) (hX : XG 50 μ st.1 h0 KF n c0 N st.2.1) {L : Int32 → mw_M → Prop} (hQ : L (nI (t + 1)) (mw_I (mw_I μ 44 7 (μ.1 44 7 + nI (wetN st.2.1 n))) 44 8 (μ.1 44 8 + (mw_abs (st.1 1) + mw_abs (st.1 2))))) : xTal0 (nI t) μ L := by
  unfold xTal0 P9_left P9_walked
  refine s2_wetOfAll hL hX.1 ?_
  simp only [forall_eq]
  rw [mw_I_ne (show 50 ≠ 44 by decide), mw_I_ne (show 50 ≠ 44 by decide), mw_I_nj (show 8 ≠ 7 by decide), show nI t + 1 = nI (t + 1) from nI_add t 1, show μ.1 50 5 = st.1 1 from hX.2.1 1 (by decide), show μ.1 50 6 = st.1 2 from hX.2.1 2 (by decide)]
  exact hQ
/-- the four sums at cell 44 -/
def XT (u : mw_M) (N : Nat) (q : Int32 × Int32 × Int32 × Int32) : Prop := u.1 44 5 = nI N ∧ u.1 44 6 = q.1 ∧ u.1 44 7 = q.2.1 ∧ u.1 44 8 = q.2.2.1 ∧ u.1 44 9 = q.2.2.2
theorem x_ofL {a m : mw_M} {W : Option (List LN)} {ls : List LN} {n c0 be da de no wa fl i g li nl N : Nat} {sx sy goal seed : Int32} {f : Nat → Nat → Nat} (hN : NOK be da de no wa fl i g) (hL : LOK n f c0) (hnl : nl ≤ 4) (hli : li < nl) (hC : XC a m W ls n c0 be da de no wa fl i g li nl sx sy f) (hNN : N ≤ 50) {Q : mw_M → Prop} (hQ : ∀ u, FL a u → XT u N (lsS (LW W ls n c0 be da de no g sx sy goal seed f) n (nI wa) N) → Q u) : ∀ k t u, t + k = N → FL a u → XT u N (lsS (LW W ls n c0 be da de no g sx sy goal seed f) n (nI wa) t) → L8_walkOften_29 (nI li) (nI i) goal (nI N) seed Q (k + 1) (nI t) u := by
  intro k
  induction k with
  | zero =>
    intro t u hk hF hT
    have e : t = N := by omega
    subst e
    unfold L8_walkOften_29
    exact ⟨fun _ => hQ u hF hT, fun y => absurd (nI_le (Nat.le_refl _) (by omega)) y⟩
  | succ k ih =>
    intro t u hk hF hT
    have nxt := ih (t + 1)
    unfold L8_walkOften_29
    refine ⟨fun y => absurd y (by rw [zle, nI_toInt (by omega), nI_toInt (by omega)]; omega), fun _ => ?_⟩
    obtain ⟨c1, c2, c3, c4, c5⟩ := hC.fl hF
    refine x_through (by decide) (N := 60) hN c1 c2 hnl c3 hli c4 hL c5 (by decide) (fun v fv xv v12 v16 => ?_)
    have HI := WI_N (W := W) (ls := ls) (be := be) (da := da) (de := de) (no := no) (g := g) (sx := sx) (sy := sy) (goal := goal) (ini_WI (seed := seed + nI t) hL) 60 (by decide)
    have ES : lsS (LW W ls n c0 be da de no g sx sy goal seed f) n (nI wa) (t + 1) = ((lsS (LW W ls n c0 be da de no g sx sy goal seed f) n (nI wa) t).1 + (if (WN W ls n c0 be da de no g sx sy goal (iniW (seed + nI t) f (lopN n f c0)) 60).1 8 = -2 then 0 else 1), (lsS (LW W ls n c0 be da de no g sx sy goal seed f) n (nI wa) t).2.1 + nI (wetN (WN W ls n c0 be da de no g sx sy goal (iniW (seed + nI t) f (lopN n f c0)) 60).2.1 n), (lsS (LW W ls n c0 be da de no g sx sy goal seed f) n (nI wa) t).2.2.1 + (mw_abs ((WN W ls n c0 be da de no g sx sy goal (iniW (seed + nI t) f (lopN n f c0)) 60).1 1) + mw_abs ((WN W ls n c0 be da de no g sx sy goal (iniW (seed + nI t) f (lopN n f c0)) 60).1 2)), (lsS (LW W ls n c0 be da de no g sx sy goal seed f) n (nI wa) t).2.2.2 + (if (WN W ls n c0 be da de no g sx sy goal (iniW (seed + nI t) f (lopN n f c0)) 60).1 9 ≤ nI wa then 0 else 1)) := rfl
    rw [ES] at nxt
    generalize WN W ls n c0 be da de no g sx sy goal (iniW (seed + nI t) f (lopN n f c0)) 60 = st at xv v16 HI nxt
    generalize KFN W ls n c0 be da de no g sx sy goal (iniW (seed + nI t) f (lopN n f c0)) = KF at xv
    generalize lsS (LW W ls n c0 be da de no g sx sy goal seed f) n (nI wa) t = q at hT nxt
    obtain ⟨t5, t6, t7, t8, t9⟩ := hT
    have e44 : v.1 44 = u.1 44 := fv.at (by decide) (by omega)
    have F1 : FL a v := hF.fw fv
    have key : ∀ w d, w.1 44 = (mw_I v 44 6 d).1 44 → FL a w → XG 50 w st.1 (lopN n f c0) KF n c0 60 st.2.1 → w.1 50 16 = v.1 50 16 → d = q.1 + (if st.1 8 = -2 then 0 else 1) → xTal (nI t) w (L8_walkOften_29 (nI li) (nI i) goal (nI N) seed Q (k + 1)) := by
      intro w d ew fw xw w16 ed
      have w5 : w.1 44 5 = nI N := by rw [ew, mw_I_nj (by decide), e44]; exact t5
      have w6 : w.1 44 6 = q.1 + (if st.1 8 = -2 then 0 else 1) := by rw [ew, mw_I_eq]; exact ed
      have w7 : w.1 44 7 = q.2.1 := by rw [ew, mw_I_nj (by decide), e44]; exact t7
      have w8 : w.1 44 8 = q.2.2.1 := by rw [ew, mw_I_nj (by decide), e44]; exact t8
      have w9 : w.1 44 9 = q.2.2.2 := by rw [ew, mw_I_nj (by decide), e44]; exact t9
      unfold xTal
      rw [w16, v16]
      refine ⟨fun c => x_tal0 HI.1 xw (nxt _ (by omega) ((fw.I _ _).I _ _) ⟨?_, ?_, ?_, ?_, ?_⟩), fun c μ37 e37 => ?_⟩
      · rw [mw_I_nj (by decide), mw_I_nj (by decide)]; exact w5
      · rw [mw_I_nj (by decide), mw_I_nj (by decide)]; exact w6
      · rw [mw_I_nj (by decide), mw_I_eq, w7]
      · rw [mw_I_eq, w8]
      · rw [mw_I_nj (by decide), mw_I_nj (by decide), w9]
        by_cases z : st.1 9 ≤ nI wa
        · rw [if_pos z, Int32.add_zero]
        · rw [if_neg z] at c; exact absurd c (by decide)
      · have x37 : XG 50 μ37 st.1 (lopN n f c0) KF n c0 60 st.2.1 := xw.fr (fun k h1 h2 => by rw [e37, mw_I_row (by omega)])
        refine x_tal0 HI.1 x37 (nxt _ (by omega) (((by rw [e37]; exact fw.I _ _ : FL a μ37).I _ _).I _ _) ⟨?_, ?_, ?_, ?_, ?_⟩)
        · rw [mw_I_nj (by decide), mw_I_nj (by decide), e37, mw_I_nj (by decide)]; exact w5
        · rw [mw_I_nj (by decide), mw_I_nj (by decide), e37, mw_I_nj (by decide)]; exact w6
        · rw [mw_I_nj (by decide), mw_I_eq, e37, mw_I_nj (by decide), w7]
        · rw [mw_I_eq, e37, mw_I_nj (by decide), w8]
        · rw [mw_I_nj (by decide), mw_I_nj (by decide), e37, mw_I_eq, w9]
          by_cases z : st.1 9 ≤ nI wa
          · rw [if_pos z] at c; exact absurd rfl c
          · rw [if_neg z]
    have v14 : v.1 50 14 = st.1 8 := xv.2.1 8 (by decide)
    refine ⟨fun c => ?_, fun c μ28 e28 => ?_⟩
    · rw [v14] at c
      exact key v q.1 (by
        funext j
        rw [mw_I_get]
        by_cases z : j = 6
        · rw [if_pos ⟨rfl, z⟩, z, e44, t6]
        · rw [if_neg (fun y => z y.2)]) F1 xv rfl (by rw [if_pos c, Int32.add_zero])
    · rw [v14] at c
      exact key μ28 (q.1 + 1) (by rw [e28, e44, t6]) (by rw [e28]; exact F1.I _ _) (xv.fr (fun k h1 h2 => by rw [e28, mw_I_row (by omega)])) (by rw [e28, mw_I_ne (by decide)]) (by rw [if_neg c])
theorem x_loads {a m : mw_M} {W : Option (List LN)} {ls : List LN} {n c0 be da de no wa fl i g li nl N : Nat} {sx sy goal seed : Int32} {f : Nat → Nat → Nat} (hN : NOK be da de no wa fl i g) (hL : LOK n f c0) (hnl : nl ≤ 4) (hli : li < nl) (hC : XC a m W ls n c0 be da de no wa fl i g li nl sx sy f) (hNN : N ≤ 50) {Q : mw_M → Prop} (hQ : ∀ u, FL a u → XT u N (lsS (LW W ls n c0 be da de no g sx sy goal seed f) n (nI wa) N) → Q u) : P8_walkOften (nI li) (nI i) goal (nI N) seed a Q := by
  unfold P8_walkOften
  simp only [forall_eq]
  refine ⟨N + 1, x_ofL hN hL hnl hli hC hNN hQ N 0 _ (Nat.zero_add N) (((((FL.rf.I _ _).I _ _).I _ _).I _ _).I _ _) ⟨?_, ?_, ?_, ?_, ?_⟩⟩
  all_goals simp (config := { decide := true }) only [mw_I_get, true_and, if_true, if_false, lsS]
def SL : List Nat := 14 :: SV
def JL : List Nat := [49, 50, 51, 52] ++ JV
/-- what stands between two walks of the reference -/
def MTT (m v : mw_M) (q : Int32 × Int32 × Int32 × Int32) : Prop := FM SL JL m v ∧ (∀ k, 16 ≤ k → v.1 k = m.1 k) ∧ (∀ k, k < 37 → v.1 1 k = m.1 1 k) ∧ (∀ k, k < 37 → v.1 14 k = m.1 1 k) ∧ v.1 0 49 = q.1 ∧ v.1 0 50 = q.2.1 ∧ v.1 0 51 = q.2.2.1 ∧ v.1 0 52 = q.2.2.2
