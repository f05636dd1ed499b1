/-! best, the reference's side -/
theorem m_bestL {a m : mw_M} {W : Option (List LN)} {lsF : Nat → List LN} {n c0 be da de no wa fl i g nl : Nat} {sx sy goal seed : Int32} {f : Nat → Nat → Nat} (hN : NOK be da de no wa fl i g) (hL : LOK n f c0) (hnl : nl ≤ 4) (hC : MCm m be da de no wa fl i g sx sy) (hl : ∀ l, l < nl → LAWm m l (lsF l)) (h15 : m.1 0 15 = nI nl) (hW : WAT a m W) (hM : ML m n f c0) {Q : Int32 → mw_M → Prop} (hQ : ∀ v, FM SL JL m v → (∀ k, 16 ≤ k → v.1 k = m.1 k) → (∀ k, k < 37 → v.1 1 k = m.1 1 k) → 1 ≤ nl → Q (nI (btS (fun l => lsS (LW W (lsF l) n c0 be da de no g sx sy goal seed f) n (nI wa) 9) nl).2) v) : ∀ k t u, t + k = nl → 1 ≤ nl → FM SL JL m u → (∀ k, 16 ≤ k → u.1 k = m.1 k) → (∀ k, k < 37 → u.1 1 k = m.1 1 k) → ∀ w : Int32, (w = if t = 0 then -1 else nI (btS (fun l => lsS (LW W (lsF l) n c0 be da de no g sx sy goal seed f) n (nI wa) 9) t).2) → L11_best_50 (nI i) goal seed Q (k + 1) (nI t) (btS (fun l => lsS (LW W (lsF l) n c0 be da de no g sx sy goal seed f) n (nI wa) 9) t).1.1 (btS (fun l => lsS (LW W (lsF l) n c0 be da de no g sx sy goal seed f) n (nI wa) 9) t).1.2.1 (btS (fun l => lsS (LW W (lsF l) n c0 be da de no g sx sy goal seed f) n (nI wa) 9) t).1.2.2 w u := by
  intro k
  induction k with
  | zero =>
    intro t u hk n1 hF h16 h1 w hw
    have e : t = nl := by omega
    subst e
    unfold L11_best_50
    rw [hF.2 15 (by decide), h15, hw, if_neg (by omega)]
    exact ⟨fun _ => hQ u hF h16 h1 n1, fun y => absurd (nI_le (Nat.le_refl _) (by omega)) y⟩
  | succ k ih =>
    intro t u hk n1 hF h16 h1 w hw
    have nxt := ih (t + 1)
    unfold L11_best_50
    rw [hF.2 15 (by decide), h15]
    refine ⟨fun y => absurd y (by rw [zle, nI_toInt (by omega), nI_toInt (by omega)]; omega), fun _ => ?_⟩
    have Mu : ML u n f c0 := hM.back hL.1 h1 (hF.1 5 (by decide) (by decide)).1 (hF.2 6 (by decide))
    refine m_loads (N := 9) hN (hC.sl hF) ((hl t (by omega)).fm hF ⟨by decide, by decide⟩) (hW.fm hF ⟨by decide, by decide, by decide⟩) hL Mu (by decide) (by decide) (fun v fv v16 v1 e49 e50 e51 e52 => ?_)
    have F1 := hF.tr fv
    have V16 : ∀ k, 16 ≤ k → v.1 k = m.1 k := fun k hk => (v16 k hk).trans (h16 k hk)
    have V1 : ∀ k, k < 37 → v.1 1 k = m.1 1 k := fun k hk => (v1 k hk).trans (h1 k hk)
    have BY := btS_y (q := fun l => lsS (LW W (lsF l) n c0 be da de no g sx sy goal seed f) n (nI wa) 9) (l := t)
    have BN := btS_n (q := fun l => lsS (LW W (lsF l) n c0 be da de no g sx sy goal seed f) n (nI wa) 9) (l := t)
    have BL := btS_le (fun l => lsS (LW W (lsF l) n c0 be da de no g sx sy goal seed f) n (nI wa) 9) t
    generalize hq : lsS (LW W (lsF t) n c0 be da de no g sx sy goal seed f) n (nI wa) 9 = q at e49 e50 e51 e52
    simp only [hq] at BY BN
    generalize (fun l => lsS (LW W (lsF l) n c0 be da de no g sx sy goal seed f) n (nI wa) 9) = qq at BY BN BL nxt hw ⊢
    have e1 : ∀ x : Int32, x = nI t + 1 → x = nI (t + 1) := fun x hx => hx.trans (nI_add t 1)
    have W0 : (w < 0) ↔ t = 0 := by
      rw [hw]
      by_cases c : t = 0
      · rw [if_pos c]; exact ⟨fun _ => c, fun _ => by decide⟩
      · rw [if_neg c]; exact ⟨fun z => absurd z (nI_nlt (b := 0) (by omega) (by omega)), fun z => absurd z c⟩
    rw [e49, e50, e51]
    have take : (t = 0 ∨ btB q.1 (q.2.2.1 / nI 9) (q.2.1 / nI 9) (btS qq t).1.2.2 (btS qq t).1.2.1 (btS qq t).1.1) → ∀ x54 : Int32, x54 = q.1 → (∀ x55 : Int32, x55 = q.2.2.1 / nI 9 → (∀ x56 : Int32, x56 = q.2.1 / nI 9 → (∀ x57 : Int32, x57 = nI t + 1 → L11_best_50 (nI i) goal seed Q (k + 1) x57 x56 x55 x54 (nI t) v))) := by
      intro hb a1 b1 a2 b2 a3 b3 x hx
      have fin := nxt v (by omega) n1 F1 V16 V1 (nI t)
      rw [BY hb] at fin
      rw [e1 x hx, b1, b2, b3]
      exact fin (by rw [if_neg (by omega)])
    have keep : (¬ t = 0) → (¬ btB q.1 (q.2.2.1 / nI 9) (q.2.1 / nI 9) (btS qq t).1.2.2 (btS qq t).1.2.1 (btS qq t).1.1) → ∀ x25 : Int32, x25 = nI t + 1 → L11_best_50 (nI i) goal seed Q (k + 1) x25 (btS qq t).1.1 (btS qq t).1.2.1 (btS qq t).1.2.2 w v := by
      intro t0 hb x hx
      have fin := nxt v (by omega) n1 F1 V16 V1 w
      rw [BN t0 hb] at fin
      rw [e1 x hx]
      exact fin (by rw [if_neg (by omega), hw, if_neg t0])
    unfold btB at take keep
    generalize q.1 = D at take keep ⊢
    generalize q.2.2.1 / nI 9 = K at take keep ⊢
    generalize q.2.1 / nI 9 = L at take keep ⊢
    generalize (btS qq t).1.2.2 = v9 at take keep ⊢
    generalize (btS qq t).1.2.1 = v8 at take keep ⊢
    generalize (btS qq t).1.1 = v7 at take keep ⊢
    simp only [W0]
    simp only [zeq (x := D), zeq (x := K), zlt (x := v9), zlt (x := K), zle (x := v7)]
    repeat' (apply And.intro <;> intro _)
    all_goals first
      | exact take (by omega)
      | exact keep (by omega) (by omega)
theorem op_best {a m : mw_M} (hA : RLoad a m) (hK : RMach a m) (hR : RLaws a m) (hU : RRun a m) {p1 p2 p3 : Int32} {Q : Int32 → Int32 → mw_M → mw_M → Prop} (hQ : ∀ r u v, FL a u → FM SL JL m v → RLoad u v → RRun u v → Q r r u v) : P10_best p1 p2 p3 a (fun r u => P11_best p1 p2 p3 m (fun r' v => Q r r' u v)) := by
  obtain ⟨be0, da0, de0, no0, wa0, fl0, g0, kk, kx, km, kf⟩ := id hK
  have hfl0 : fl0 ≤ 4 := kk.2.2.2.2.2.1
  obtain ⟨nl, hnl, l3, l15, l4, l16, lw⟩ := id hR
  obtain ⟨W, hW⟩ := hR.wat
  have hb := fun r => hQ r a m FL.rf FM.rf hA hU
  unfold P10_best
  rw [ch5_hasFloor hfl0 kx.2.2.2.2.2, ch5_isGoal, l3]
  have ref : ∀ (K : Int32 → mw_M → Prop), P11_best p1 p2 p3 m K = if 0 ≤ p1.toInt ∧ p1.toInt < fl0 then (if 100 ≤ p2.toInt ∧ p2.toInt ≤ 1200 then ((nI nl = 0 → K (-5) m) ∧ (¬ nI nl = 0 → (∃ n12, L11_best_50 p1 p2 p3 K n12 0 0 0 0 (-1) m))) else K (-1) m) else K (-1) m := fun K => by
    unfold P11_best
    rw [ch11_floorW hfl0 km.2.2.2.2.2, ch11_isGoal, l15]
  simp only [ref]
  by_cases c : 0 ≤ p1.toInt ∧ p1.toInt < fl0
  · rw [if_pos c]
    by_cases d : 100 ≤ p2.toInt ∧ p2.toInt ≤ 1200
    · rw [if_pos d]
      refine ⟨fun z => ?_, fun z => ?_⟩
      · rw [if_pos c, if_pos d]
        exact ⟨fun _ => hb _, fun y => absurd z y⟩
      · obtain ⟨i, hi, e1⟩ := nI_get (x := p1) (by omega)
        rw [e1, nI_toInt (by omega)] at c
        obtain ⟨n, c0, be, da, de, no, wa, fl, g, sx, sy, f, hN, hL, hMx, hMm, hX, hM⟩ := walk_ctx hA hK (i := i) (fun fl' h4 h8 => by
          rw [kx.2.2.2.2.2, nI_eq (by omega) (by omega)] at h8
          omega)
        have hls : ∃ lsF : Nat → List LN, ∀ l, l < nl → LAWl a l (lsF l) ∧ LAWm m l (lsF l) := by
          refine ⟨fun l => if h : l < nl then Classical.choose ((lw l h).two (show l < 4 by omega)) else [], fun l h => ?_⟩
          simp only [dif_pos h]
          exact Classical.choose_spec ((lw l h).two (show l < 4 by omega))
        obtain ⟨lsF, hls⟩ := hls
        have n1 : 1 ≤ nl := by
          rcases Nat.eq_zero_or_pos nl with e | e
          · exact absurd (by rw [e]; rfl) z
          · exact e
        unfold P8_bestRule
        rw [e1]
        refine ⟨nl + 1, x_bestL hN hL hnl hMx (fun l h => (hls l h).1) l3 hW hX (fun u fu => ?_) nl 0 a (Nat.zero_add nl) FL.rf⟩
        rw [if_pos (by rw [nI_toInt (by omega)]; exact c), if_pos d]
        refine ⟨fun y => absurd y z, fun _ => ⟨nl + 1, m_bestL hN hL hnl hMm (fun l h => (hls l h).2) l15 hW hM (fun v f1 f2 f3 _ => hQ _ u v fu f1 (hA.fl fu f1 f3) (hU.fl fu f1 f2)) nl 0 m (Nat.zero_add nl) n1 FM.rf (fun _ _ => rfl) (fun _ _ => rfl) (-1) rfl⟩⟩
    · rw [if_neg d, if_pos c, if_neg d]; exact hb _
  · rw [if_neg c, if_neg c]; exact hb _
