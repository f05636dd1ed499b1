/-! loads and best -/
theorem s8_mean {N : Nat} (h1 : 1 ≤ N) (hN : N ≤ 50) {x : Int32} {Q : Int32 → Prop} (hQ : Q (x / nI N)) : P8_meanOf x (nI N) Q := by
  have n0 : ¬ nI N = 0 := by rw [show (0 : Int32) = nI 0 from rfl, nI_eq (by omega) (by omega)]; omega
  unfold P8_meanOf
  exact ⟨fun _ => ⟨n0, hQ⟩, fun z => absurd (nI_le (a := 1) (by omega) (by omega)) z⟩
def tlV (N : Nat) (q : Int32 × Int32 × Int32 × Int32) (p : Int32) : Int32 := if p = 0 then q.1 else if p = 1 then q.2.1 / nI N else if p = 2 then q.2.2.1 / nI N else q.2.2.2
theorem s8_tal {N : Nat} (h1 : 1 ≤ N) (hN : N ≤ 50) {u : mw_M} {q : Int32 × Int32 × Int32 × Int32} (hT : XT u N q) {p : Int32} {Q : Int32 → Prop} (hQ : Q (tlV N q p)) : P8_tallied p u Q := by
  obtain ⟨t5, t6, t7, t8, t9⟩ := hT
  unfold P8_tallied
  rw [t5, t6, t7, t8, t9]
  unfold tlV at hQ
  refine ⟨fun e => ?_, fun e => s8_mean h1 hN ?_, fun e => s8_mean h1 hN ?_, fun e0 e1 e2 => ?_⟩
  · rw [if_pos e] at hQ; exact hQ
  · subst e; exact hQ
  · subst e; exact hQ
  · rw [if_neg e0, if_neg e1, if_neg e2] at hQ; exact hQ
theorem walk_ctx {a m : mw_M} (hA : RLoad a m) (hK : RMach a m) {i : Nat} (hi : ∀ fl : Nat, fl ≤ 4 → a.1 11 8 = nI fl → i < fl) : ∃ n c0 be da de no wa fl g sx sy f, NOK be da de no wa fl i g ∧ LOK n f c0 ∧ MCx a be da de no wa fl i g sx sy ∧ MCm m be da de no wa fl i g sx sy ∧ XL 1 a n f c0 ∧ ML m n f c0 := by
  obtain ⟨be, da, de, no, wa, fl, g, sx, sy, hN, hMx, hMm⟩ := hK.two hi
  obtain ⟨n, f, c0, hL, hX, hM, hC⟩ := hA
  exact ⟨n, c0, be, da, de, no, wa, fl, g, sx, sy, f, hN, hL, hMx, hMm, hX, hM⟩
theorem RLoad.fl {a m u v : mw_M} (h : RLoad a m) (hx : FL a u) (hm : FM SL JL m v) (h1 : ∀ k, k < 37 → v.1 1 k = m.1 1 k) : RLoad u v := by
  refine h.back hx.1 (by decide) h1 (fun k hk => ?_) (fun k hk => ?_)
  · have : k = 2 ∨ k = 3 ∨ k = 4 ∨ k = 5 := by simpa using hk
    exact (hm.1 k (by simp [SL, SV]; omega) (by omega)).1
  · have : k = 4 ∨ k = 5 ∨ k = 6 := by simpa using hk
    exact hm.2 k (by simp [JL, JV]; omega)
theorem RRun.fl {a m u v : mw_M} (h : RRun a m) (hx : FL a u) (hm : FM SL JL m v) (h16 : ∀ k, 16 ≤ k → v.1 k = m.1 k) : RRun u v := by
  refine h.fr2 (fun k hk => (hx.1 k ((by decide : ∀ k ∈ [32, 33, 34, 35, 36, 37, 39, 40, 41, 42, 43], k ∉ 44 :: SW 50) k hk)).1) (fun k hk => h16 k ?_) (fun k hk => hm.2 k ((by decide : ∀ k ∈ [41, 42, 43, 44, 45, 46, 47, 48], k ∉ JL) k hk))
  simp at hk
  omega
theorem op_loads {a m : mw_M} (hA : RLoad a m) (hK : RMach a m) (hR : RLaws a m) (hU : RRun a m) {p1 p2 p3 p4 : Int32} {Q : Int32 → Int32 → mw_M → mw_M → Prop} (hQ : ∀ r u v, FL a u → FM SL JL m v → RLoad u v → RRun u v → Q r r u v) : P10_loads p1 p2 p3 p4 a (fun r u => P11_loads p1 p2 p3 p4 m (fun r' v => Q r r' u v)) := by
  obtain ⟨be0, da0, de0, no0, wa0, fl0, g0, kk, kx, km, kf⟩ := id hK
  have hfl0 : fl0 ≤ 4 := kk.2.2.2.2.2.1
  obtain ⟨nl, hnl, l3, l15, l4, l16, lw⟩ := id hR
  obtain ⟨W, hW⟩ := hR.wat
  have g50 := fun A B => s11_gn (p := p2) (M := 50) (by decide) (QT := A) (QF := B)
  rw [show (nI 50).toInt64 = 50 from rfl] at g50
  have hF : ¬ (rfOK nl fl0 p1 ∧ gnOK p2 50 ∧ 0 ≤ p4.toInt ∧ p4.toInt ≤ 3) → P11_loads p1 p2 p3 p4 m (fun r' v => Q (-1) r' a v) := fun h => by
    have hb := hQ (-1) a m FL.rf FM.rf hA hU
    unfold P11_loads
    refine s11_rf hnl hfl0 l15 km.2.2.2.2.2 (fun h1 => ?_) (fun h1 => hb)
    refine g50 _ _ (fun h2 => ?_) (fun h2 => hb)
    rw [ch_within, toL, show (0 : Int64).toInt = 0 from rfl, show (3 : Int64).toInt = 3 from rfl]
    rw [if_neg (fun c => h ⟨h1, h2, c⟩)]
    exact hb
  unfold P10_loads
  refine s10_rf hnl hfl0 l3 kx.2.2.2.2.2 (fun k1 k1l e1 hli hi => ?_) (fun h => hF (fun q => h q.1))
  refine s10_gn (M := 50) (by decide) (fun h2 => ?_) (fun h2 => hF (fun q => h2 q.2.1))
  obtain ⟨k2, k2l, e2, hgo, hn1, hn2⟩ := id h2
  refine ⟨fun c => hF (fun q => ?_), fun c => ⟨fun c2 => ?_, fun c2 => hF (fun q => ?_)⟩⟩
  · have := zneg c
    omega
  · have p03 : 0 ≤ p4.toInt ∧ p4.toInt ≤ 3 := ⟨npos c, by rw [zle] at c2; exact c2⟩
    obtain ⟨n, c0, be, da, de, no, wa, fl, g, sx, sy, f, hN, hL, hMx, hMm, hX, hM⟩ := walk_ctx hA hK (i := k1 % 10) (fun fl' h4 h8 => by
      rw [kx.2.2.2.2.2, nI_eq (by omega) (by omega)] at h8
      omega)
    obtain ⟨ls, hl, hlm⟩ := (lw (k1 / 10) hli).two (by omega)
    have hNN : k2 % 1000 ≤ 50 := hn2
    have ref : ∀ u, FL a u → P11_loads p1 p2 p3 p4 m (fun r' v => Q (tlV (k2 % 1000) (lsS (LW W ls n c0 be da de no g sx sy (nI (k2 / 1000)) p3 f) n (nI wa) (k2 % 1000)) p4) r' u v) := by
      intro u fu
      unfold P11_loads
      refine s11_rf hnl hfl0 l15 km.2.2.2.2.2 (fun _ => ?_) (fun h => absurd ⟨k1, k1l, e1, hli, hi⟩ h)
      refine g50 _ _ (fun _ => ?_) (fun h => absurd h2 h)
      rw [ch_within, toL, show (0 : Int64).toInt = 0 from rfl, show (3 : Int64).toInt = 3 from rfl, if_pos p03, e1, e2, d10 k1l, r10 k1l, d1000 k2l, r1000 k2l]
      refine m_loads hN hMm hlm hW hL hM hNN hn1 (fun v f1 f2 f3 g49 g50' g51 g52 => ?_)
      have fin := fun r => hQ r u v fu f1 (hA.fl fu f1 f3) (hU.fl fu f1 f2)
      unfold tlV
      refine ⟨fun d => ?_, fun d0 => ⟨fun d => ?_, fun d1 => ⟨fun d => ?_, fun d2 => ?_⟩⟩⟩
      · rw [if_pos d, g49]; exact fin _
      · rw [if_neg d0, if_pos d, g50']; exact fin _
      · rw [if_neg d0, if_neg d1, if_pos d, g51]; exact fin _
      · rw [if_neg d0, if_neg d1, if_neg d2, g52]; exact fin _
    have goal : P8_walkOften (nI (k1 / 10)) (nI (k1 % 10)) (nI (k2 / 1000)) (nI (k2 % 1000)) p3 a (fun μ7 => P8_tallied p4 μ7 (fun r8 => P11_loads p1 p2 p3 p4 m (fun r' v => Q r8 r' μ7 v))) := x_loads hN hL hnl hli ⟨hMx, hl, l3, hW, hX⟩ hNN (fun u fu tu => s8_tal hn1 hNN tu (ref u fu))
    rw [← d10 k1l, ← r10 k1l, ← d1000 k2l, ← r1000 k2l, ← e1, ← e2] at goal
    exact goal
  · rw [zle, show (3 : Int32).toInt = 3 from rfl] at c2
    omega
/-! best -/
def btB (D Wk L done walked left : Int32) : Prop := done.toInt < D.toInt ∨ (D.toInt = done.toInt ∧ (Wk.toInt < walked.toInt ∨ (Wk.toInt = walked.toInt ∧ L.toInt < left.toInt)))
def btDec (D Wk L done walked left : Int32) : Decidable (btB D Wk L done walked left) := inferInstanceAs (Decidable (_ ∨ (_ ∧ (_ ∨ (_ ∧ _)))))
/-- left, walked, done, best *)  before rule l -/
noncomputable def btS (q : Nat → Int32 × Int32 × Int32 × Int32) : Nat → (Int32 × Int32 × Int32) × Nat
  | 0 => ((0, 0, 0), 0)
  | l + 1 => if l = 0 then (((q l).2.1 / nI 9, (q l).2.2.1 / nI 9, (q l).1), l) else @ite _ (btB (q l).1 ((q l).2.2.1 / nI 9) ((q l).2.1 / nI 9) (btS q l).1.2.2 (btS q l).1.2.1 (btS q l).1.1) (btDec _ _ _ _ _ _) (((q l).2.1 / nI 9, (q l).2.2.1 / nI 9, (q l).1), l) (btS q l)
theorem btS_le (q : Nat → Int32 × Int32 × Int32 × Int32) : ∀ l, (btS q l).2 ≤ l
  | 0 => Nat.le_refl _
  | l + 1 => by
    have := btS_le q l
    unfold btS
    split
    · exact Nat.le_succ _
    · split
      · exact Nat.le_succ _
      · omega
theorem btS_y {q : Nat → Int32 × Int32 × Int32 × Int32} {l : Nat} (h : l = 0 ∨ btB (q l).1 ((q l).2.2.1 / nI 9) ((q l).2.1 / nI 9) (btS q l).1.2.2 (btS q l).1.2.1 (btS q l).1.1) : btS q (l + 1) = (((q l).2.1 / nI 9, (q l).2.2.1 / nI 9, (q l).1), l) := by
  rw [btS]
  by_cases c : l = 0
  · rw [if_pos c]
  · rw [if_neg c, if_pos (h.resolve_left c)]
theorem btS_n {q : Nat → Int32 × Int32 × Int32 × Int32} {l : Nat} (c : ¬ l = 0) (h : ¬ btB (q l).1 ((q l).2.2.1 / nI 9) ((q l).2.1 / nI 9) (btS q l).1.2.2 (btS q l).1.2.1 (btS q l).1.1) : btS q (l + 1) = btS q l := by
  rw [btS, if_neg c, if_neg h]
theorem x_bestL {a m : mw_M} {W : Option (List LN)} {lsF : Nat → List LN} {n c0 be da de no wa fl i g nl : Nat} {sx sy goal seed : Int32} {f : Nat → Nat → Nat} (hN : NOK be da de no wa fl i g) (hL : LOK n f c0) (hnl : nl ≤ 4) (hM : MCx a be da de no wa fl i g sx sy) (hl : ∀ l, l < nl → LAWl a l (lsF l)) (h15 : a.1 15 3 = nI nl) (hW : WAT a m W) (hX : XL 1 a n f c0) {Q : Int32 → mw_M → Prop} (hQ : ∀ u, FL a u → Q (nI (btS (fun l => lsS (LW W (lsF l) n c0 be da de no g sx sy goal seed f) n (nI wa) 9) nl).2) u) : ∀ k t u, t + k = nl → FL a u → L8_bestRule_15 (nI i) goal seed Q (k + 1) (nI t) (btS (fun l => lsS (LW W (lsF l) n c0 be da de no g sx sy goal seed f) n (nI wa) 9) t).1.1 (btS (fun l => lsS (LW W (lsF l) n c0 be da de no g sx sy goal seed f) n (nI wa) 9) t).1.2.1 (btS (fun l => lsS (LW W (lsF l) n c0 be da de no g sx sy goal seed f) n (nI wa) 9) t).1.2.2 (nI (btS (fun l => lsS (LW W (lsF l) n c0 be da de no g sx sy goal seed f) n (nI wa) 9) t).2) u := by
  intro k
  induction k with
  | zero =>
    intro t u hk hF
    have e : t = nl := by omega
    subst e
    unfold L8_bestRule_15
    rw [hF.at (show 15 < 19 ∨ _ by omega), h15]
    exact ⟨fun _ => hQ u hF, fun y => absurd (nI_le (Nat.le_refl _) (by omega)) y⟩
  | succ k ih =>
    intro t u hk hF
    have nxt := ih (t + 1)
    have C := XC.fl (⟨hM, hl t (by omega), h15, hW, hX⟩ : XC a m W (lsF t) n c0 be da de no wa fl i g t nl sx sy f) hF
    unfold L8_bestRule_15
    rw [hF.at (show 15 < 19 ∨ _ by omega), h15]
    refine ⟨fun y => absurd y (by rw [zle, nI_toInt (by omega), nI_toInt (by omega)]; omega), fun _ => ?_⟩
    refine x_loads (N := 9) hN hL hnl (by omega) C (by decide) (fun v fv tv => ?_)
    have F1 := hF.tr fv
    have t6 := tv.2.1
    have BY := btS_y (q := fun l => lsS (LW W (lsF l) n c0 be da de no g sx sy goal seed f) n (nI wa) 9) (l := t)
    have BN := btS_n (q := fun l => lsS (LW W (lsF l) n c0 be da de no g sx sy goal seed f) n (nI wa) 9) (l := t)
    have BL := btS_le (fun l => lsS (LW W (lsF l) n c0 be da de no g sx sy goal seed f) n (nI wa) 9) t
    generalize hq : lsS (LW W (lsF t) n c0 be da de no g sx sy goal seed f) n (nI wa) 9 = q at tv t6
    simp only [hq] at BY BN
    generalize (fun l => lsS (LW W (lsF l) n c0 be da de no g sx sy goal seed f) n (nI wa) 9) = qq at BY BN BL nxt ⊢
    have T1 : tlV 9 q 1 = q.2.1 / nI 9 := rfl
    have T2 : tlV 9 q 2 = q.2.2.1 / nI 9 := rfl
    have e1 : ∀ x : Int32, x = nI t + 1 → x = nI (t + 1) := fun x hx => hx.trans (nI_add t 1)
    rw [t6]
    have take : (t = 0 ∨ btB q.1 (q.2.2.1 / nI 9) (q.2.1 / nI 9) (btS qq t).1.2.2 (btS qq t).1.2.1 (btS qq t).1.1) → ∀ x11 : Int32, x11 = q.1 → P8_tallied 2 v (fun r12 => P8_tallied 1 v (fun r14 => (∀ x16 : Int32, x16 = nI t + 1 → L8_bestRule_15 (nI i) goal seed Q (k + 1) x16 r14 r12 x11 (nI t) v))) := by
      intro hb x11 e11
      refine s8_tal (by decide) (by decide) tv (s8_tal (by decide) (by decide) tv (fun x hx => ?_))
      have fin := nxt v (by omega) F1
      rw [BY hb] at fin
      rw [T1, T2, e1 x hx, e11]
      exact fin
    refine ⟨fun c => take (Or.inl ?_), fun c => ?_⟩
    · rw [show (0 : Int32) = nI 0 from rfl, nI_eq (by omega) (by omega)] at c; exact c
    · have t0 : ¬ t = 0 := fun z => c (by rw [z]; rfl)
      have keep : (¬ btB q.1 (q.2.2.1 / nI 9) (q.2.1 / nI 9) (btS qq t).1.2.2 (btS qq t).1.2.1 (btS qq t).1.1) → ∀ x25 : Int32, x25 = nI t + 1 → L8_bestRule_15 (nI i) goal seed Q (k + 1) x25 (btS qq t).1.1 (btS qq t).1.2.1 (btS qq t).1.2.2 (nI (btS qq t).2) v := by
        intro hb x hx
        have fin := nxt v (by omega) F1
        rw [BN t0 hb] at fin
        rw [e1 x hx]
        exact fin
      unfold P8_isBetter
      rw [t6]
      refine ⟨fun c1 => s8_tal (by decide) (by decide) tv ?_, fun c1 => ⟨fun c2 => keep ?_, fun c2 => take (Or.inr ?_)⟩⟩
      · rw [T2]
        refine ⟨fun c2 => s8_tal (by decide) (by decide) tv ?_, fun c2 => s8_tal (by decide) (by decide) tv ?_⟩
        · rw [T1]
          refine ⟨fun c3 => keep ?_, fun c3 => take (Or.inr ?_)⟩
          · unfold btB
            rw [zle] at c3; rw [zeq] at c1 c2
            omega
          · unfold btB
            rw [zle] at c3; rw [zeq] at c1 c2
            omega
        · rw [T2]
          refine ⟨fun c3 => keep ?_, fun c3 => take (Or.inr ?_)⟩
          · unfold btB
            rw [zle] at c3; rw [zeq] at c1 c2
            omega
          · unfold btB
            rw [zle] at c3; rw [zeq] at c1 c2
            omega
      · unfold btB
        rw [zle] at c2; rw [zeq] at c1
        omega
      · unfold btB
        rw [zle] at c2; rw [zeq] at c1
        omega
