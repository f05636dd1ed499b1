/-! loads, the reference's side -/
def mT2 (v6 : Int32) (μ20 : mw_M) (L : Int32 → mw_M → Prop) : Prop := (((μ20.1 0 38) ≤ (μ20.1 6 4) → (∀ μ22 : mw_M, μ22 = mw_I μ20 0 52 ((μ20.1 0 52) + 0) → P11_laysBack μ22 (fun μ23 => (∀ x24 : Int32, x24 = v6 + 1 → L x24 μ23)))) ∧ (¬ (μ20.1 0 38) ≤ (μ20.1 6 4) → (∀ μ25 : mw_M, μ25 = mw_I μ20 0 52 ((μ20.1 0 52) + 1) → P11_laysBack μ25 (fun μ26 => (∀ x27 : Int32, x27 = v6 + 1 → L x27 μ26)))))
def mT1 (v6 : Int32) (μ12 : mw_M) (L : Int32 → mw_M → Prop) : Prop := P11_allWet μ12 (fun r13 => (∀ μ15 : mw_M, μ15 = mw_I μ12 0 50 ((μ12.1 0 50) + r13) → P11_size (μ15.1 0 39) (fun r16 => P11_size (μ15.1 0 40) (fun r18 => (∀ μ20 : mw_M, μ20 = mw_I μ15 0 51 ((μ15.1 0 51) + (r16 + r18)) → mT2 v6 μ20 L)))))
def mTal (v6 : Int32) (μ10 : mw_M) (L : Int32 → mw_M → Prop) : Prop := (((μ10.1 0 37) < 0 → (∀ μ12 : mw_M, μ12 = mw_I μ10 0 49 ((μ10.1 0 49) + 0) → mT1 v6 μ12 L)) ∧ (¬ (μ10.1 0 37) < 0 → (∀ μ28 : mw_M, μ28 = mw_I μ10 0 49 ((μ10.1 0 49) + 1) → mT1 v6 μ28 L)))
theorem m_T2 {t : Nat} {m v : mw_M} {d l w s fa wa : Int32} (h38 : v.1 0 38 = fa) (h64 : v.1 6 4 = wa) (hF : FM SL JL m v) (h16 : ∀ k, 16 ≤ k → v.1 k = m.1 k) (h14 : ∀ k, k < 37 → v.1 14 k = m.1 1 k) (e49 : v.1 0 49 = d) (e50 : v.1 0 50 = l) (e51 : v.1 0 51 = w) (e52 : v.1 0 52 = s) {L : Int32 → mw_M → Prop} (hQ : ∀ u, MTT m u (d, l, w, s + (if fa ≤ wa then 0 else 1)) → L (nI (t + 1)) u) : mT2 (nI t) v L := by
  have go : ∀ x μ, x = s + (if fa ≤ wa then 0 else 1) → μ = mw_I v 0 52 x → P11_laysBack μ (fun μ23 => (∀ x24 : Int32, x24 = nI t + 1 → L x24 μ23)) := by
    intro x μ ex eμ
    refine s11_lays (fun u fu ku y hy => ?_)
    rw [hy, show nI t + 1 = nI (t + 1) from nI_add t 1]
    have F1 : FM SL JL m μ := by rw [eμ]; exact hF.O (by decide)
    refine hQ u ⟨F1.tr (fu.mono (by decide) (by decide)), fun k hk => ?_, fun k hk => ?_, fun k hk => ?_, ?_, ?_, ?_, ?_⟩
    · rw [(fu.1 k (by simp; omega) (by omega)).1, eμ, mw_I_row (by omega)]; exact h16 k hk
    · rw [ku k hk, eμ, mw_I_row (by decide)]; exact h14 k hk
    · rw [(fu.1 14 (by decide) (by decide)).1, eμ, mw_I_row (by decide)]; exact h14 k hk
    · rw [fu.2 49 (by decide), eμ, mw_I_nj (by decide)]; exact e49
    · rw [fu.2 50 (by decide), eμ, mw_I_nj (by decide)]; exact e50
    · rw [fu.2 51 (by decide), eμ, mw_I_nj (by decide)]; exact e51
    · rw [fu.2 52 (by decide), eμ, mw_I_eq]; exact ex
  unfold mT2
  rw [h38, h64, e52]
  exact ⟨fun c μ e => go _ μ (by rw [if_pos c]) e, fun c μ e => go _ μ (by rw [if_neg c]) e⟩
theorem m_T1 {t n c0 : Nat} {m v : mw_M} {st : WK} {d l w s wa : Int32} (hL : LOK n st.2.1 c0) (hX : MW v st.1 n c0 st.2.1) (h64 : v.1 6 4 = wa) (hF : FM SL JL m v) (h16 : ∀ k, 16 ≤ k → v.1 k = m.1 k) (h14 : ∀ k, k < 37 → v.1 14 k = m.1 1 k) (e49 : v.1 0 49 = d) (e50 : v.1 0 50 = l) (e51 : v.1 0 51 = w) (e52 : v.1 0 52 = s) {L : Int32 → mw_M → Prop} (hQ : ∀ u, MTT m u (d, l + nI (wetN st.2.1 n), w + (mw_abs (st.1 1) + mw_abs (st.1 2)), s + (if st.1 9 ≤ wa then 0 else 1)) → L (nI (t + 1)) u) : mT1 (nI t) v L := by
  unfold mT1
  refine s11_allWet hL hX.1 ?_
  intro μ15 e15
  rw [e50] at e15
  have z39 : μ15.1 0 39 = st.1 1 := by rw [e15, mw_I_nj (by decide)]; exact hX.2 1 (by decide) (by decide)
  have z40 : μ15.1 0 40 = st.1 2 := by rw [e15, mw_I_nj (by decide)]; exact hX.2 2 (by decide) (by decide)
  rw [z39, z40]
  refine s11_size (s11_size ?_)
  intro μ20 e20
  rw [show μ15.1 0 51 = w by rw [e15, mw_I_nj (by decide)]; exact e51] at e20
  refine m_T2 (fa := st.1 9) (wa := wa) ?_ ?_ (by rw [e20, e15]; exact (hF.O (by decide)).O (by decide)) (fun k hk => ?_) (fun k hk => ?_) ?_ ?_ ?_ ?_ hQ
  · rw [e20, mw_I_nj (by decide), e15, mw_I_nj (by decide)]; exact hX.2 9 (by decide) (by decide)
  · rw [e20, mw_I_ne (by decide), e15, mw_I_ne (by decide)]; exact h64
  · rw [e20, mw_I_row (by omega), e15, mw_I_row (by omega)]; exact h16 k hk
  · rw [e20, mw_I_row (by omega), e15, mw_I_row (by omega)]; exact h14 k hk
  · rw [e20, mw_I_nj (by decide), e15, mw_I_nj (by decide)]; exact e49
  · rw [e20, mw_I_nj (by decide), e15, mw_I_eq]
  · rw [e20, mw_I_eq]
  · rw [e20, mw_I_nj (by decide), e15, mw_I_nj (by decide)]; exact e52
theorem MCm.sl {m v : mw_M} {be da de no wa fl i g : Nat} {sx sy : Int32} (h : MCm m be da de no wa fl i g sx sy) (hf : FM SL JL m v) : MCm v be da de no wa fl i g sx sy := by
  unfold MCm at h ⊢
  rw [(hf.1 6 (by decide) (by decide)).1, (hf.1 7 (by decide) (by decide)).1, (hf.1 8 (by decide) (by decide)).1, (hf.1 9 (by decide) (by decide)).1, hf.2 9 (by decide)]
  exact h
theorem m_ofL {a m : mw_M} {W : Option (List LN)} {ls : List LN} {n c0 be da de no wa fl i g li N : Nat} {sx sy goal seed : Int32} {f : Nat → Nat → Nat} (hN : NOK be da de no wa fl i g) (hC : MCm m be da de no wa fl i g sx sy) (hl : LAWm m li ls) (hW : WAT a m W) (hL : LOK n f c0) (hM : ML m n f c0) (hNN : N ≤ 50) {Q : mw_M → Prop} {K1 : Int32 → mw_M → Prop} (hK : ∀ u, MTT m u (lsS (LW W ls n c0 be da de no g sx sy goal seed f) n (nI wa) N) → K1 (nI N) u) : ∀ k t u, t + k = N → MTT m u (lsS (LW W ls n c0 be da de no g sx sy goal seed f) n (nI wa) t) → L11_findLoads_27 (nI li) (nI i) goal (nI N) seed Q K1 (k + 1) (nI t) u := by
  intro k
  induction k with
  | zero =>
    intro t u hk hT
    have e : t = N := by omega
    subst e
    unfold L11_findLoads_27
    exact ⟨fun _ => hK u hT, fun y => absurd (nI_le (Nat.le_refl _) (by omega)) y⟩
  | succ k ih =>
    intro t u hk hT
    have nxt := fun u => ih (t + 1) u (by omega)
    unfold L11_findLoads_27
    refine ⟨fun y => absurd y (by rw [zle, nI_toInt (by omega), nI_toInt (by omega)]; omega), fun _ => ?_⟩
    obtain ⟨t1, t2, t3, t4, t5, t6, t7, t8⟩ := hT
    have Mu : ML u n f c0 := hM.back hL.1 t3 (t1.1 5 (by decide) (by decide)).1 (t1.2 6 (by decide))
    have Cu := hC.sl t1
    refine m_goes (p6 := 0) (N := 60) hN Cu (hl.fm t1 ⟨by decide, by decide⟩) (hW.fm t1 ⟨by decide, by decide, by decide⟩) hL Mu (by decide) (fun v fv xv rv => ?_)
    have HI := WI_N (W := W) (ls := ls) (be := be) (da := da) (de := de) (no := no) (g := g) (sx := sx) (sy := sy) (goal := goal) (ini_WI (seed := seed + nI t) hL) 60 (by decide)
    have ES : lsS (LW W ls n c0 be da de no g sx sy goal seed f) n (nI wa) (t + 1) = ((lsS (LW W ls n c0 be da de no g sx sy goal seed f) n (nI wa) t).1 + (if (WN W ls n c0 be da de no g sx sy goal (iniW (seed + nI t) f (lopN n f c0)) 60).1 8 = -2 then 0 else 1), (lsS (LW W ls n c0 be da de no g sx sy goal seed f) n (nI wa) t).2.1 + nI (wetN (WN W ls n c0 be da de no g sx sy goal (iniW (seed + nI t) f (lopN n f c0)) 60).2.1 n), (lsS (LW W ls n c0 be da de no g sx sy goal seed f) n (nI wa) t).2.2.1 + (mw_abs ((WN W ls n c0 be da de no g sx sy goal (iniW (seed + nI t) f (lopN n f c0)) 60).1 1) + mw_abs ((WN W ls n c0 be da de no g sx sy goal (iniW (seed + nI t) f (lopN n f c0)) 60).1 2)), (lsS (LW W ls n c0 be da de no g sx sy goal seed f) n (nI wa) t).2.2.2 + (if (WN W ls n c0 be da de no g sx sy goal (iniW (seed + nI t) f (lopN n f c0)) 60).1 9 ≤ nI wa then 0 else 1)) := rfl
    rw [ES] at nxt
    have rv2 := rv.2 rfl
    generalize WN W ls n c0 be da de no g sx sy goal (iniW (seed + nI t) f (lopN n f c0)) 60 = st at xv HI nxt
    generalize lsS (LW W ls n c0 be da de no g sx sy goal seed f) n (nI wa) t = q at t5 t6 t7 t8 nxt
    have F1 : FM SL JL m v := t1.tr (fv.mono (by decide) (by decide))
    have w16 : ∀ k, 16 ≤ k → v.1 k = m.1 k := fun k hk => (rv2 k hk).trans (t2 k hk)
    have w14 : ∀ k, k < 37 → v.1 14 k = m.1 1 k := fun k hk => by rw [(fv.1 14 (by decide) (by decide)).1]; exact t4 k hk
    have v37 : v.1 0 37 = st.1 8 := xv.2 8 (by decide) (by decide)
    have v64 : v.1 6 4 = nI wa := by rw [(fv.1 6 (by decide) (by decide)).1]; exact Cu.1.2.2.2.2.1
    have v49 : v.1 0 49 = q.1 := by rw [fv.2 49 (by decide)]; exact t5
    have v50 : v.1 0 50 = q.2.1 := by rw [fv.2 50 (by decide)]; exact t6
    have v51 : v.1 0 51 = q.2.2.1 := by rw [fv.2 51 (by decide)]; exact t7
    have v52 : v.1 0 52 = q.2.2.2 := by rw [fv.2 52 (by decide)]; exact t8
    have D : (st.1 8 < 0) ↔ st.1 8 = -2 := by
      rcases HI.2.2.2 with e | ⟨j, hj, e⟩
      · rw [e]; exact ⟨fun _ => rfl, fun _ => by decide⟩
      · rw [e]
        refine ⟨fun z => absurd z (nI_nlt (b := 0) (by omega) (by omega)), fun z => ?_⟩
        rw [zeq, nI_toInt (by omega), show (-2 : Int32).toInt = -2 from rfl] at z
        omega
    have go : ∀ x μ, x = q.1 + (if st.1 8 = -2 then 0 else 1) → μ = mw_I v 0 49 x → mT1 (nI t) μ (L11_findLoads_27 (nI li) (nI i) goal (nI N) seed Q K1 (k + 1)) := by
      intro x μ ex eμ
      refine m_T1 (n := n) (c0 := c0) (st := st) (wa := nI wa) (d := q.1 + (if st.1 8 = -2 then 0 else 1)) (l := q.2.1) (w := q.2.2.1) (s := q.2.2.2) (m := m) HI.1 ⟨?_, fun k hk k3 => ?_⟩ ?_ (by rw [eμ]; exact F1.O (by decide)) (fun k hk => ?_) (fun k hk => ?_) ?_ ?_ ?_ ?_ nxt
      · refine ml_rows xv.1 ?_ ?_ ?_
        · rw [eμ, mw_I_row (by decide)]
        · rw [eμ, mw_I_row (by decide)]
        · rw [eμ, mw_I_nj (by decide)]
      · rw [eμ, mw_I_nj ((by decide : ∀ k, k < 10 → k ≠ 3 → slV k ≠ 49) k hk k3)]; exact xv.2 k hk k3
      · rw [eμ, mw_I_ne (by decide)]; exact v64
      · rw [eμ, mw_I_row (by omega)]; exact w16 k hk
      · rw [eμ, mw_I_row (by omega)]; exact w14 k hk
      · rw [eμ, mw_I_eq]; exact ex
      · rw [eμ, mw_I_nj (by decide)]; exact v50
      · rw [eμ, mw_I_nj (by decide)]; exact v51
      · rw [eμ, mw_I_nj (by decide)]; exact v52
    show mTal (nI t) v (L11_findLoads_27 (nI li) (nI i) goal (nI N) seed Q K1 (k + 1))
    unfold mTal
    rw [v37, v49]
    exact ⟨fun c μ e => go _ μ (by rw [if_pos (D.1 c)]) e, fun c μ e => go _ μ (by rw [if_neg (fun z => c (D.2 z))]) e⟩
theorem m_loads {a m : mw_M} {W : Option (List LN)} {ls : List LN} {n c0 be da de no wa fl i g li N : Nat} {sx sy goal seed : Int32} {f : Nat → Nat → Nat} (hN : NOK be da de no wa fl i g) (hC : MCm m be da de no wa fl i g sx sy) (hl : LAWm m li ls) (hW : WAT a m W) (hL : LOK n f c0) (hM : ML m n f c0) (hNN : N ≤ 50) (h1 : 1 ≤ N) {Q : mw_M → Prop} (hQ : ∀ v, FM SL JL m v → (∀ k, 16 ≤ k → v.1 k = m.1 k) → (∀ k, k < 37 → v.1 1 k = m.1 1 k) → v.1 0 49 = (lsS (LW W ls n c0 be da de no g sx sy goal seed f) n (nI wa) N).1 → v.1 0 50 = (lsS (LW W ls n c0 be da de no g sx sy goal seed f) n (nI wa) N).2.1 / nI N → v.1 0 51 = (lsS (LW W ls n c0 be da de no g sx sy goal seed f) n (nI wa) N).2.2.1 / nI N → v.1 0 52 = (lsS (LW W ls n c0 be da de no g sx sy goal seed f) n (nI wa) N).2.2.2 → Q v) : P11_findLoads (nI li) (nI i) goal (nI N) seed m Q := by
  have n0 : ¬ nI N = 0 := by rw [show (0 : Int32) = nI 0 from rfl, nI_eq (by omega) (by omega)]; omega
  unfold P11_findLoads
  intro μ1 e1 μ2 e2 μ3 e3 μ4 e4
  have F4 : FM SL JL m μ4 := by
    rw [e4, e3, e2, e1]
    exact (((FM.rf.O (by decide)).O (by decide)).O (by decide)).O (by decide)
  have R4 : ∀ k, k ≠ 0 → μ4.1 k = m.1 k := fun k hk => by rw [e4, mw_I_row hk, e3, mw_I_row hk, e2, mw_I_row hk, e1, mw_I_row hk]
  refine s11_keeps (fun v0 f0 k0 => ⟨N + 1, m_ofL hN hC hl hW hL hM hNN (fun u hu => ?_) N 0 v0 (Nat.zero_add N) ⟨F4.tr (f0.mono (by decide) (by decide)), fun k hk => ?_, fun k hk => ?_, fun k hk => ?_, ?_, ?_, ?_, ?_⟩⟩)
  · obtain ⟨t1, t2, t3, t4, t5, t6, t7, t8⟩ := hu
    refine ⟨n0, fun μ45 e45 => ⟨n0, fun μ47 e47 => ?_⟩⟩
    refine hQ μ47 (by rw [e47, e45]; exact (t1.O (by decide)).O (by decide)) (fun k hk => ?_) (fun k hk => ?_) ?_ ?_ ?_ ?_
    · rw [e47, mw_I_row (by omega), e45, mw_I_row (by omega)]; exact t2 k hk
    · rw [e47, mw_I_row (by decide), e45, mw_I_row (by decide)]; exact t3 k hk
    · rw [e47, mw_I_nj (by decide), e45, mw_I_nj (by decide)]; exact t5
    · rw [e47, mw_I_nj (by decide), e45, mw_I_eq, t6]
    · rw [e47, mw_I_eq, e45, mw_I_nj (by decide), t7]
    · rw [e47, mw_I_nj (by decide), e45, mw_I_nj (by decide)]; exact t8
  · rw [(f0.1 k (by simp; omega) (by omega)).1, R4 k (by omega)]
  · rw [(f0.1 1 (by decide) (by decide)).1, R4 1 (by decide)]
  · rw [k0 k hk, R4 1 (by decide)]
  · rw [f0.2 49 (by decide), e4, mw_I_nj (by decide), e3, mw_I_nj (by decide), e2, mw_I_nj (by decide), e1, mw_I_eq]; rfl
  · rw [f0.2 50 (by decide), e4, mw_I_nj (by decide), e3, mw_I_nj (by decide), e2, mw_I_eq]; rfl
  · rw [f0.2 51 (by decide), e4, mw_I_nj (by decide), e3, mw_I_eq]; rfl
  · rw [f0.2 52 (by decide), e4, mw_I_eq]; rfl
