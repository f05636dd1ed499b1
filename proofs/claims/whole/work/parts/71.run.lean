/-! a run -/
def rfOK (nl fl : Nat) (p : Int32) : Prop := ∃ k : Nat, k < 2147483648 ∧ p = nI k ∧ k / 10 < nl ∧ k % 10 < fl
theorem s11_run {m : mw_M} {nl fl : Nat} (hnl : nl ≤ 4) (hfl : fl ≤ 4) (h15 : m.1 0 15 = nI nl) (h9 : m.1 0 9 = nI fl) {p1 p2 p3 p4 : Int32} {K : Int32 → mw_M → Prop} (hF : ¬ (rfOK nl fl p1 ∧ gnOK p2 200 ∧ 0 ≤ p4.toInt ∧ p4.toInt ≤ 1) → K (-1) m) (hT : P11_keepsLoad m (fun μ10 => P11_goes (p1 / 10) (mw_rem p1 10) (p2 / 1000) (mw_rem p2 1000) p3 1 μ10 (fun μ11 => (∀ μ12 : mw_M, μ12 = mw_I μ11 0 41 (mw_rem p2 1000) → (∀ μ13 : mw_M, μ13 = mw_I μ12 0 42 (μ12.1 0 33) → (∀ μ14 : mw_M, μ14 = mw_I μ13 0 43 (μ13.1 0 34) → (∀ μ15 : mw_M, μ15 = mw_I μ14 0 44 (μ14.1 0 35) → (∀ μ16 : mw_M, μ16 = mw_I μ15 0 45 (μ15.1 0 37) → P11_allWet μ16 (fun r17 => (∀ μ19 : mw_M, μ19 = mw_I μ16 0 46 r17 → (∀ μ20 : mw_M, μ20 = mw_I μ19 0 47 (μ19.1 0 38) → (∀ μ21 : mw_M, μ21 = mw_I μ20 0 48 (μ20.1 6 4) → ((p4 = 0 → P11_laysBack μ21 (fun μ26 => (vp_in ((μ26.1 0 41) - 1) 200 ∧ K (μ26.1 16 (((μ26.1 0 41) - 1).toNatClampNeg)) μ26))) ∧ (¬ p4 = 0 → (∀ μ23 : mw_M, μ23 = mw_I μ21 0 5 0 → (∀ μ24 : mw_M, μ24 = mw_I μ23 0 4 0 → (vp_in ((μ24.1 0 41) - 1) 200 ∧ K (μ24.1 16 (((μ24.1 0 41) - 1).toNatClampNeg)) μ24))))))))))))))))) : P11_run p1 p2 p3 p4 m K := by
  unfold P11_run
  refine s11_rf hnl hfl h15 h9 (fun h1 => ?_) (fun h1 => hF (fun q => h1 q.1))
  have g := fun A B => s11_gn (p := p2) (M := 200) (by decide) (QT := A) (QF := B)
  rw [show (nI 200).toInt64 = 200 from rfl] at g
  refine g _ _ (fun h2 => ?_) (fun h2 => hF (fun q => h2 q.2.1))
  rw [ch_within, toL, show (0 : Int64).toInt = 0 from rfl, show (1 : Int64).toInt = 1 from rfl]
  by_cases c : 0 ≤ p4.toInt ∧ p4.toInt ≤ 1
  · rw [if_pos c]; exact hT
  · rw [if_neg c]; exact hF (fun q => c q.2.2)
theorem RRun_mk {u v : mw_M} {N n c0 : Nat} {st : WK} {h0 w : Int32} {KF : Nat → Nat → Int32} (h1 : 1 ≤ N) (hN : N ≤ 200) (hX : XG 32 u st.1 h0 KF n c0 N st.2.1) (h12 : u.1 32 12 = nI N) (h16 : u.1 32 16 = if st.1 9 ≤ w then 0 else 1) (hL : LOK n st.2.1 c0) (e41 : v.1 0 41 = nI N) (e42 : v.1 0 42 = st.1 6) (e43 : v.1 0 43 = st.1 7) (e44 : v.1 0 44 = st.1 5) (e45 : v.1 0 45 = st.1 8) (e46 : v.1 0 46 = nI (wetN st.2.1 n)) (e47 : v.1 0 47 = st.1 9) (e48 : v.1 0 48 = w) (hR : RK v KF N) (hK : ∀ w, KF (N - 1) w = kpN st (N - 1) w) : RRun u v := by
  have g := fun k hk => hX.2.1 k hk
  refine ⟨N, hN, h12, e41, fun _ => ⟨⟨?_, ?_, ?_, ?_, ?_⟩, by rw [e47, e48]; exact h16, ⟨?_, ?_⟩, fun x j hx hj => ?_, n, st.2.1, c0, hL, hX.1, e46⟩⟩
  · rw [e42]; exact (g 6 (by decide)).symm
  · rw [e43]; exact (g 7 (by decide)).symm
  · rw [e44]; exact (g 5 (by decide)).symm
  · rw [e45]; exact (g 8 (by decide)).symm
  · rw [e47]; exact (g 9 (by decide)).symm
  · rw [show v.1 19 (N - 1) = KF (N - 1) 3 from hR 3 (N - 1) (by decide) (by omega), hK]
    exact g 1 (by decide)
  · rw [show v.1 20 (N - 1) = KF (N - 1) 4 from hR 4 (N - 1) (by decide) (by omega), hK]
    exact g 2 (by decide)
  · rw [hR x j hx hj]
    exact hX.2.2.2 x j hx hj
def SR : List Nat := [1, 13, 14, 15, 16, 17, 18, 19, 20]
def JR : List Nat := [4, 5, 19, 20, 21, 22, 23, 25, 33, 34, 35, 36, 37, 38, 39, 40, 41, 42, 43, 44, 45, 46, 47, 48]
theorem CH.non {n : Nat} {u v : mw_M} (h5 : u.1 6 5 = 0) (h6 : u.1 6 6 = 0) (g5 : v.1 0 5 = 0) (g4 : v.1 0 4 = 0) : CH n u v := ⟨0, 0, Nat.le_refl _, by decide, h5, h6, g5, g4, fun _ hi => absurd hi (Nat.not_lt_zero _)⟩
theorem op_run {a m : mw_M} (hA : RLoad a m) (hK : RMach a m) (hR : RLaws a m) {p1 p2 p3 p4 : Int32} {Q : Int32 → Int32 → mw_M → mw_M → Prop} (hQ0 : Q (-1) (-1) a m) (hQ : ∀ r u v, FX ([1, 2, 3, 4, 5, 6] ++ SW 32) a u → (∀ q, LB q → u.1 q 2 = a.1 q 2) → FM SR JR m v → RLoad u v → RRun u v → Q r r u v) : P10_run p1 p2 p3 p4 a (fun r u => P11_run p1 p2 p3 p4 m (fun r' v => Q r r' u v)) := by
  obtain ⟨be0, da0, de0, no0, wa0, fl0, g0, kk, kx, km, kf⟩ := id hK
  have hfl0 : fl0 ≤ 4 := kk.2.2.2.2.2.1
  obtain ⟨nl, hnl, l3, l15, l4, l16, lw⟩ := id hR
  obtain ⟨W, hW⟩ := hR.wat
  have hF : ¬ (rfOK nl fl0 p1 ∧ gnOK p2 200 ∧ 0 ≤ p4.toInt ∧ p4.toInt ≤ 1) → P11_run p1 p2 p3 p4 m (fun r' v => Q (-1) r' a v) := fun h => by
    unfold P11_run
    refine s11_rf hnl hfl0 l15 km.2.2.2.2.2 (fun h1 => ?_) (fun h1 => hQ0)
    have g := fun A B => s11_gn (p := p2) (M := 200) (by decide) (QT := A) (QF := B)
    rw [show (nI 200).toInt64 = 200 from rfl] at g
    refine g _ _ (fun h2 => ?_) (fun h2 => hQ0)
    rw [ch_within, toL, show (0 : Int64).toInt = 0 from rfl, show (1 : Int64).toInt = 1 from rfl]
    rw [if_neg (fun c => h ⟨h1, h2, c⟩)]
    exact hQ0
  unfold P10_run
  refine s10_rf hnl hfl0 l3 kx.2.2.2.2.2 (fun k1 k1l e1 hli hi => ?_) (fun h => hF (fun q => h q.1))
  refine s10_gn (M := 200) (by decide) (fun h2 => ?_) (fun h2 => hF (fun q => h2 q.2.1))
  obtain ⟨k2, k2l, e2, hgo, hn1, hn2⟩ := id h2
  refine ⟨fun c => hF (fun q => ?_), fun c => ⟨fun c2 => ?_, fun c2 => hF (fun q => ?_)⟩⟩
  · have := zneg c
    omega
  · have p01 : 0 ≤ p4.toInt ∧ p4.toInt ≤ 1 := ⟨npos c, by rw [zle] at c2; exact c2⟩
    obtain ⟨be, da, de, no, wa, fl, g, sx, sy, hN, hMx, hMm⟩ := hK.two (i := k1 % 10) (fun fl' h4 h8 => by
      rw [kx.2.2.2.2.2, nI_eq (by omega) (by omega)] at h8
      omega)
    obtain ⟨ls, hl, hlm⟩ := (lw (k1 / 10) hli).two (by omega)
    obtain ⟨n, f, c0, hL, hX, hM, hC⟩ := hA
    have hNN : k2 % 1000 ≤ 200 := hn2
    have hgo2 := fun K => s11_run (K := K) (m := m) hnl hfl0 l15 km.2.2.2.2.2 (p1 := p1) (p2 := p2) (p3 := p3) (p4 := p4)
    rw [e1, e2] at hgo2 ⊢
    rw [d10 k1l, r10 k1l, d1000 k2l, r1000 k2l] at hgo2 ⊢
    refine x_through (Nat.le_refl 32) hN hMx hl hnl l3 hli hW hL hX hNN (fun u FU XU h12 h16 => ?_)
    have WE : ∀ w, KFN W ls n c0 be da de no g sx sy (nI (k2 / 1000)) (iniW p3 f (lopN n f c0)) (k2 % 1000 - 1) w = kpN (WN W ls n c0 be da de no g sx sy (nI (k2 / 1000)) (iniW p3 f (lopN n f c0)) (k2 % 1000)) (k2 % 1000 - 1) w := fun w => by
      unfold KFN
      rw [show k2 % 1000 - 1 + 1 = k2 % 1000 by omega]
    have HI := WI_N (W := W) (ls := ls) (be := be) (da := da) (de := de) (no := no) (g := g) (sx := sx) (sy := sy) (goal := nI (k2 / 1000)) (ini_WI (seed := p3) hL) (k2 % 1000) hNN
    -- the reference's side, for any end of the class
    have ref : ∀ (K : Int32 → mw_M → Prop), (∀ v, FM SR JR m v → (p4 = 0 → (∀ k, k < 37 → v.1 1 k = m.1 1 k) ∧ v.1 0 4 = m.1 0 4 ∧ v.1 0 5 = m.1 0 5) → (¬ p4 = 0 → ML v n (WN W ls n c0 be da de no g sx sy (nI (k2 / 1000)) (iniW p3 f (lopN n f c0)) (k2 % 1000)).2.1 c0 ∧ v.1 0 4 = 0 ∧ v.1 0 5 = 0) → RRun u v → K ((WN W ls n c0 be da de no g sx sy (nI (k2 / 1000)) (iniW p3 f (lopN n f c0)) (k2 % 1000)).1 3) v) → P11_run (nI k1) (nI k2) p3 p4 m K := by
      intro K hKK
      refine hgo2 K (fun q => absurd ⟨⟨k1, k1l, rfl, hli, hi⟩, ⟨k2, k2l, rfl, hgo, hn1, hn2⟩, p01⟩ q) ?_
      refine s11_keeps (fun v0 f0 k0 => ?_)
      have F00 : FM SR JR m v0 := f0.mono (by decide) (by decide)
      have C0 : MCm v0 be da de no wa fl (k1 % 10) g sx sy := by
        unfold MCm at hMm ⊢
        rw [(f0.1 6 (by decide) (by decide)).1, (f0.1 7 (by decide) (by decide)).1, (f0.1 8 (by decide) (by decide)).1, (f0.1 9 (by decide) (by decide)).1, f0.2 9 (by decide)]
        exact hMm
      refine m_goes (p6 := 1) hN C0 (hlm.fm f0 ⟨by decide, by decide⟩) (hW.fm f0 ⟨by decide, by decide, by decide⟩) hL (ml_rows hM (f0.1 1 (by decide) (by decide)).1 (f0.1 5 (by decide) (by decide)).1 (f0.2 6 (by decide))) hNN (fun v FV XV RV => ?_)
      have RV1 := RV.1 (by decide)
      have CV := C0.fm FV
      generalize KFN W ls n c0 be da de no g sx sy (nI (k2 / 1000)) (iniW p3 f (lopN n f c0)) = KF at WE XU RV1
      generalize WN W ls n c0 be da de no g sx sy (nI (k2 / 1000)) (iniW p3 f (lopN n f c0)) (k2 % 1000) = st at WE XU XV HI h16 hKK
      have q := XV.2
      have q5 : v.1 0 35 = st.1 5 := q 5 (by decide) (by decide)
      have q6 : v.1 0 33 = st.1 6 := q 6 (by decide) (by decide)
      have q7 : v.1 0 34 = st.1 7 := q 7 (by decide) (by decide)
      have q8 : v.1 0 37 = st.1 8 := q 8 (by decide) (by decide)
      have q9 : v.1 0 38 = st.1 9 := q 9 (by decide) (by decide)
      simp only [forall_eq]
      have M5 : ML (mw_I (mw_I (mw_I (mw_I (mw_I v 0 41 (nI (k2 % 1000))) 0 42 (v.1 0 33)) 0 43 (v.1 0 34)) 0 44 (v.1 0 35)) 0 45 (v.1 0 37)) n st.2.1 c0 := by
        refine ml_rows XV.1 ?_ ?_ ?_
        · simp only [mw_I_row (show 1 ≠ 0 by decide)]
        · simp only [mw_I_row (show 5 ≠ 0 by decide)]
        · rw [mw_I_nj (by decide), mw_I_nj (by decide), mw_I_nj (by decide), mw_I_nj (by decide), mw_I_nj (by decide)]
      rw [mw_I_nj (show 33 ≠ 41 by decide), mw_I_nj (show 34 ≠ 42 by decide), mw_I_nj (show 34 ≠ 41 by decide), mw_I_nj (show 35 ≠ 43 by decide), mw_I_nj (show 35 ≠ 42 by decide), mw_I_nj (show 35 ≠ 41 by decide), mw_I_nj (show 37 ≠ 44 by decide), mw_I_nj (show 37 ≠ 43 by decide), mw_I_nj (show 37 ≠ 42 by decide), mw_I_nj (show 37 ≠ 41 by decide)]
      refine s11_allWet HI.1 M5 ?_
      rw [mw_I_nj (show 38 ≠ 46 by decide), mw_I_nj (show 38 ≠ 45 by decide), mw_I_nj (show 38 ≠ 44 by decide), mw_I_nj (show 38 ≠ 43 by decide), mw_I_nj (show 38 ≠ 42 by decide), mw_I_nj (show 38 ≠ 41 by decide), mw_I_ne (show 6 ≠ 0 by decide), mw_I_ne (show 6 ≠ 0 by decide), mw_I_ne (show 6 ≠ 0 by decide), mw_I_ne (show 6 ≠ 0 by decide), mw_I_ne (show 6 ≠ 0 by decide), mw_I_ne (show 6 ≠ 0 by decide), mw_I_ne (show 6 ≠ 0 by decide)]
      rw [q5, q6, q7, q8, q9, CV.1.2.2.2.2.1]
      generalize e2' : mw_I (mw_I (mw_I (mw_I (mw_I (mw_I (mw_I (mw_I v 0 41 (nI (k2 % 1000))) 0 42 (st.1 6)) 0 43 (st.1 7)) 0 44 (st.1 5)) 0 45 (st.1 8)) 0 46 (nI (wetN st.2.1 n))) 0 47 (st.1 9)) 0 48 (nI wa) = v2
      have F2 : FM SR JR m v2 := by
        rw [← e2']
        exact (((((((((F00.tr (FV.mono (by decide) (by decide))).O (by decide)).O (by decide)).O (by decide)).O (by decide)).O (by decide)).O (by decide)).O (by decide)).O (by decide))
      have N2 : ∀ k, k ≠ 0 → v2.1 k = v.1 k := fun k k0 => by rw [← e2']; simp only [mw_I_row k0]
      have g41 : v2.1 0 41 = nI (k2 % 1000) := by rw [← e2']; simp (config := { decide := true }) only [mw_I_get, true_and, if_true, if_false]
      have g42 : v2.1 0 42 = st.1 6 := by rw [← e2']; simp (config := { decide := true }) only [mw_I_get, true_and, if_true, if_false]
      have g43 : v2.1 0 43 = st.1 7 := by rw [← e2']; simp (config := { decide := true }) only [mw_I_get, true_and, if_true, if_false]
      have g44 : v2.1 0 44 = st.1 5 := by rw [← e2']; simp (config := { decide := true }) only [mw_I_get, true_and, if_true, if_false]
      have g45 : v2.1 0 45 = st.1 8 := by rw [← e2']; simp (config := { decide := true }) only [mw_I_get, true_and, if_true, if_false]
      have g46 : v2.1 0 46 = nI (wetN st.2.1 n) := by rw [← e2']; simp (config := { decide := true }) only [mw_I_get, true_and, if_true, if_false]
      have g47 : v2.1 0 47 = st.1 9 := by rw [← e2']; simp (config := { decide := true }) only [mw_I_get, true_and, if_true, if_false]
      have g48 : v2.1 0 48 = nI wa := by rw [← e2']; simp (config := { decide := true }) only [mw_I_get, true_and, if_true, if_false]
      have g4 : v2.1 0 4 = v.1 0 4 := by rw [← e2']; simp (config := { decide := true }) only [mw_I_get, true_and, if_true, if_false]
      have g5 : v2.1 0 5 = v.1 0 5 := by rw [← e2']; simp (config := { decide := true }) only [mw_I_get, true_and, if_true, if_false]
      have g6 : v2.1 0 6 = v.1 0 6 := by rw [← e2']; simp (config := { decide := true }) only [mw_I_get, true_and, if_true, if_false]
      have R2 : RRun u v2 := RRun_mk hn1 hNN XU h12 h16 HI.1 g41 g42 g43 g44 g45 g46 g47 g48 (fun x j hx hj => by rw [N2 _ (by omega)]; exact RV1 x j hx hj) WE
      have last : ∀ w : mw_M, w.1 0 41 = v2.1 0 41 → w.1 16 = v2.1 16 → K (st.1 3) w → vp_in (w.1 0 41 - 1) 200 ∧ K (w.1 16 ((w.1 0 41 - 1).toNatClampNeg)) w := fun w w1 w2 w3 => by
        rw [w1, g41, w2, N2 16 (by decide), show nI (k2 % 1000) - 1 = nI (k2 % 1000 - 1) from nI_sub1 hn1, nI_clamp (by omega), show v.1 16 (k2 % 1000 - 1) = KF (k2 % 1000 - 1) 0 from RV1 0 _ (by decide) (by omega), WE]
        exact ⟨vp_in_nI (by omega) (by decide), w3⟩
      refine ⟨fun d => ?_, fun d => ?_⟩
      · refine s11_lays (fun w fw kw => ?_)
        refine last w (fw.2 41 (by decide)) (fw.1 16 (by decide) (by decide)).1 (hKK w (F2.tr (fw.mono (by decide) (by decide))) (fun _ => ⟨fun k hk => ?_, ?_, ?_⟩) (fun d' => absurd d d') (R2.fr (FX.rf (S := [])) fw ⟨by decide, by decide, by decide⟩))
        · rw [kw k hk, N2 14 (by decide), (FV.1 14 (by decide) (by decide)).1, k0 k hk]
        · rw [fw.2 4 (by decide), g4, FV.2 4 (by decide), f0.2 4 (by decide)]
        · rw [fw.2 5 (by decide), g5, FV.2 5 (by decide), f0.2 5 (by decide)]
      · have fw : FM [] [4, 5] v2 (mw_I (mw_I v2 0 5 0) 0 4 0) := (FM.rf.O (by decide)).O (by decide)
        refine last _ (fw.2 41 (by decide)) (fw.1 16 (by decide) (by decide)).1 (hKK _ (F2.tr (fw.mono (by decide) (by decide))) (fun d' => absurd d' d) (fun _ => ⟨?_, mw_I_eq, by rw [mw_I_nj (by decide), mw_I_eq]⟩) (R2.fr (FX.rf (S := [])) fw ⟨by decide, by decide, by decide⟩))
        refine ml_rows XV.1 ?_ ?_ ?_
        · rw [mw_I_row (by decide), mw_I_row (by decide), N2 1 (by decide)]
        · rw [mw_I_row (by decide), mw_I_row (by decide), N2 5 (by decide)]
        · rw [mw_I_nj (by decide), mw_I_nj (by decide), g6]
    have u13 : u.1 32 13 = (WN W ls n c0 be da de no g sx sy (nI (k2 / 1000)) (iniW p3 f (lopN n f c0)) (k2 % 1000)).1 3 := XU.2.1 3 (by decide)
    have FUU : FX ([1, 2, 3, 4, 5, 6] ++ SW 32) a u := FU.1.mono (fun x hx => List.mem_append_right _ hx)
    refine ⟨fun d1 => ?_, fun d1 => ?_⟩
    · have d0 : ¬ p4 = 0 := by rw [d1]; decide
      refine s2_lieG (Or.inl (by decide)) HI.1.1 XU.1 (fun w fw kw xw => ?_)
      unfold P1_end
      simp only [forall_eq]
      have fw2 : FX [1, 2, 3, 4, 5, 6] u (mw_I (mw_I w 6 5 0) 6 6 0) := ((fw.mono (by decide)).I (by decide)).I (by decide)
      rw [(fw2 32 (by decide)).1, u13]
      refine ref _ (fun v f1 f2 f3 f4 => hQ _ _ v (FUU.tr (fw2.mono (fun x hx => List.mem_append_left _ hx))) (fun q hq => ?_) f1 ?_ (f4.fr fw2 (FM.rf (S := []) (J := [])) ⟨by decide, by decide, by decide⟩))
      · rw [(fw2 q (by have := hq.ge; simp; omega)).1]; exact FU.2 q hq
      · obtain ⟨y1, y2, y3⟩ := f3 d0
        exact ⟨n, _, c0, HI.1, xl_rows xw (fun k h1 h2 => by rw [mw_I_row (by omega), mw_I_row (by omega)]), y1, CH.non (by rw [mw_I_nj (by decide), mw_I_eq]) mw_I_eq y3 y2⟩
    · have d0 : p4 = 0 := by
        rw [zeq, show (1 : Int32).toInt = 1 from rfl] at d1
        rw [zeq, show (0 : Int32).toInt = 0 from rfl]
        omega
      rw [u13]
      refine ref _ (fun v f1 f2 f3 f4 => hQ _ _ v FUU FU.2 f1 ?_ f4)
      obtain ⟨y1, y2, y3⟩ := f2 d0
      have ux : ∀ k, k < 19 → u.1 k = a.1 k := fun k hk => FU.at (Nat.le_refl 32) (Or.inl hk)
      exact ⟨n, f, c0, hL, xl_rows hX (fun k h1 h2 => ux k (by omega)), hM.back hL.1 y1 (f1.1 5 (by decide) (by decide)).1 (f1.2 6 (by decide)), hC.fr ⟨ux 6 (by decide), ux 7 (by decide), ux 8 (by decide), ux 9 (by decide), ux 10 (by decide)⟩ ⟨(f1.1 2 (by decide) (by decide)).1, (f1.1 3 (by decide) (by decide)).1, (f1.1 4 (by decide) (by decide)).1⟩ ⟨y2, y3⟩⟩
  · rw [zle, show (1 : Int32).toInt = 1 from rfl] at c2
    omega
