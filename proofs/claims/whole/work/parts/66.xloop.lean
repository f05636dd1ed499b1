/-! the walk of the class, tick by tick -/
theorem endN_cong {n c0 be da g : Nat} {sx sy goal : Int32} {t p : Nat} {f1 : Nat → Nat → Nat} {z1 calm anew tum : Int32} {r r' h : Nat → Int32} (e1 : r' 1 = r 1) (e2 : r' 2 = r 2) (e6 : r' 6 = r 6) (e7 : r' 7 = r 7) (e8 : r' 8 = r 8) (e9 : r' 9 = r 9) : endN n c0 be da g sx sy goal t p f1 z1 calm anew tum r h = endN n c0 be da g sx sy goal t p f1 z1 calm anew tum r' h := by
  unfold endN
  rw [e1, e2, e6, e7, e8, e9]
theorem tick_lo {W : Option (List LN)} {ls : List LN} {n c0 be da de no g : Nat} {sx sy goal : Int32} {st : WK} {t p : Nat} (hp : paN ls de no goal st t = p) (c : ¬ p < 60) {r' : Nat → Int32} (e1 : r' 1 = st.1 1) (e2 : r' 2 = st.1 2) (e6 : r' 6 = st.1 6) (e7 : r' 7 = st.1 7) (e8 : r' 8 = st.1 8) (e9 : r' 9 = st.1 9) (e0 : r' 0 = dz (st.1 0)) (e4 : r' 4 = st.1 4 + 1) (e5 : r' 5 = st.1 5) : tickN W ls n c0 be da de no g sx sy goal st t = endN n c0 be da g sx sy goal t p (fDr W st.2.1 p (nI t) (st.2.2 t) (st.1 4) (st.1 5) n) (r' 0) (r' 4) (r' 5) 0 r' st.2.2 := by
  unfold tickN
  rw [hp, if_neg c, e0, e4, e5]
  exact endN_cong e1 e2 e6 e7 e8 e9
theorem tick_tu {W : Option (List LN)} {ls : List LN} {n c0 be da de no g : Nat} {sx sy goal : Int32} {st : WK} {t p : Nat} (hp : paN ls de no goal st t = p) (c : p < 60) {r' : Nat → Int32} (e1 : r' 1 = st.1 1) (e2 : r' 2 = st.1 2) (e6 : r' 6 = st.1 6) (e7 : r' 7 = st.1 7) (e8 : r' 8 = st.1 8) (e9 : r' 9 = st.1 9) (e0 : r' 0 = zI (dz (st.1 0)) n) (e4 : r' 4 = 0) (e5 : r' 5 = if st.1 10 = 0 then st.1 5 + 1 else st.1 5) : tickN W ls n c0 be da de no g sx sy goal st t = endN n c0 be da g sx sy goal t p (fTu st.2.1 (dz (st.1 0)) n) (r' 0) (r' 4) (r' 5) 1 r' st.2.2 := by
  unfold tickN
  rw [hp, if_pos c, e0, e4, e5]
  exact endN_cong e1 e2 e6 e7 e8 e9
def WN (W : Option (List LN)) (ls : List LN) (n c0 be da de no g : Nat) (sx sy goal : Int32) (ini : WK) : Nat → WK
  | 0 => ini
  | t + 1 => tickN W ls n c0 be da de no g sx sy goal (WN W ls n c0 be da de no g sx sy goal ini t) t
def WI (n c0 : Nat) (st : WK) (t : Nat) : Prop := LOK n st.2.1 c0 ∧ st.2.2 t = lopN n st.2.1 c0 ∧ (∃ p : Nat, p ≤ 1200 ∧ st.1 3 = nI p ∧ st.1 10 = if t = 0 then 0 else if p < 60 then 1 else 0) ∧ (st.1 8 = -2 ∨ ∃ k : Nat, k < 200 ∧ st.1 8 = nI k)
theorem paN_le {ls : List LN} {de no : Nat} {goal : Int32} {st : WK} {t : Nat} : paN ls de no goal st t ≤ 1200 := pcN_le
theorem WI_end {n c0 be da g : Nat} {sx sy goal : Int32} {t p : Nat} {f1 : Nat → Nat → Nat} {z1 calm anew tum : Int32} {r h : Nat → Int32} (hL : LOK n f1 c0) (hp : p ≤ 1200) (ht : t < 200) (h8 : r 8 = -2 ∨ ∃ k : Nat, k < 200 ∧ r 8 = nI k) (htum : tum = if p < 60 then 1 else 0) : WI n c0 (endN n c0 be da g sx sy goal t p f1 z1 calm anew tum r h) (t + 1) := by
  refine ⟨hL, if_pos rfl, ⟨p, hp, rfl, ?_⟩, ?_⟩
  · rw [if_neg (by omega)]; exact htum
  · show (if r 8 = -2 ∧ ¬ nI p < goal then nI t else r 8) = -2 ∨ ∃ k : Nat, k < 200 ∧ (if r 8 = -2 ∧ ¬ nI p < goal then nI t else r 8) = nI k
    split
    · exact Or.inr ⟨t, ht, rfl⟩
    · exact h8
theorem WI_tick {W : Option (List LN)} {ls : List LN} {n c0 be da de no g : Nat} {sx sy goal : Int32} {st : WK} {t : Nat} (h : WI n c0 st t) (ht : t < 200) : WI n c0 (tickN W ls n c0 be da de no g sx sy goal st t) (t + 1) := by
  obtain ⟨h1, h2, h3, h4⟩ := h
  unfold tickN
  by_cases c : paN ls de no goal st t < 60
  · rw [if_pos c]
    exact WI_end (fTu_ok h1 n) paN_le ht h4 (by rw [if_pos c])
  · rw [if_neg c]
    exact WI_end (fDr_ok h1 n) paN_le ht h4 (by rw [if_neg c])
theorem WI_N {W : Option (List LN)} {ls : List LN} {n c0 be da de no g : Nat} {sx sy goal : Int32} {ini : WK} (h : WI n c0 ini 0) : ∀ t, t ≤ 200 → WI n c0 (WN W ls n c0 be da de no g sx sy goal ini t) t
  | 0, _ => h
  | t + 1, ht => WI_tick (WI_N h t (by omega)) (by omega)
theorem tick_h {W : Option (List LN)} {ls : List LN} {n c0 be da de no g : Nat} {sx sy goal : Int32} {st : WK} {t j : Nat} (hj : j ≠ t + 1) : (tickN W ls n c0 be da de no g sx sy goal st t).2.2 j = st.2.2 j := by
  unfold tickN
  split
  · exact if_neg hj
  · exact if_neg hj
theorem WN_h {W : Option (List LN)} {ls : List LN} {n c0 be da de no g : Nat} {sx sy goal : Int32} {ini : WK} : ∀ t j, j ≤ t → (WN W ls n c0 be da de no g sx sy goal ini t).2.2 j = (WN W ls n c0 be da de no g sx sy goal ini j).2.2 j
  | 0, j, h => by rw [show j = 0 by omega]
  | t + 1, j, h => by
    by_cases e : j = t + 1
    · rw [e]
    · rw [← WN_h t j (by omega)]
      exact tick_h e
def KFN (W : Option (List LN)) (ls : List LN) (n c0 be da de no g : Nat) (sx sy goal : Int32) (ini : WK) (j w : Nat) : Int32 := kpN (WN W ls n c0 be da de no g sx sy goal ini (j + 1)) j w
theorem xw_loop {b : Nat} (h32 : 32 ≤ b) {a m : mw_M} {W : Option (List LN)} {ls : List LN} {n c0 be da de no wa fl i g li nl N d1 : Nat} {sx sy goal p6 : Int32} {ini : WK} (hN : NOK be da de no wa fl i g) (hM : MCx a be da de no wa fl i g sx sy) (hl : LAWl a li ls) (hnl : nl ≤ 4) (h15 : a.1 15 3 = nI nl) (hli : li < nl) (hW : WAT a m W) (hI : WI n c0 ini 0) (hNN : N ≤ 200) {Q : mw_M → Prop} {K1 : Int32 → Int32 → Int32 → mw_M → Prop} (hK : ∀ u, FW b a u → XG b u (WN W ls n c0 be da de no g sx sy goal ini N).1 (ini.2.2 0) (KFN W ls n c0 be da de no g sx sy goal ini) n c0 N (WN W ls n c0 be da de no g sx sy goal ini N).2.1 → u.1 b 12 = nI N → ∀ x y z, K1 x y z u) : ∀ k t u, t + k = N → FW b a u → XG b u (WN W ls n c0 be da de no g sx sy goal ini t).1 (ini.2.2 0) (KFN W ls n c0 be da de no g sx sy goal ini) n c0 t (WN W ls n c0 be da de no g sx sy goal ini t).2.1 → u.1 b 12 = nI t → L9_through_19 b d1 (nI li) (nI i) goal (nI N) p6 Q K1 (k + 1) (nI t) ((WN W ls n c0 be da de no g sx sy goal ini t).1 10) ((WN W ls n c0 be da de no g sx sy goal ini t).2.2 t) u := by
  intro k
  induction k with
  | zero =>
    intro t u hk hF hX h12
    have e : t = N := by omega
    subst e
    unfold L9_through_19
    exact ⟨fun _ => hK u hF hX h12 _ _ _, fun y => absurd (nI_le (Nat.le_refl _) (by omega)) y⟩
  | succ k ih =>
    intro t u hk hF hX h12
    have ht : t < 200 := by omega
    have nxt := fun u' => ih (t + 1) u' (by omega)
    have HI := WI_N (W := W) (ls := ls) (be := be) (da := da) (de := de) (no := no) (g := g) (sx := sx) (sy := sy) (goal := goal) hI t (by omega)
    have HH := fun j => WN_h (W := W) (ls := ls) (n := n) (c0 := c0) (be := be) (da := da) (de := de) (no := no) (g := g) (sx := sx) (sy := sy) (goal := goal) (ini := ini) t j
    have ES : WN W ls n c0 be da de no g sx sy goal ini (t + 1) = tickN W ls n c0 be da de no g sx sy goal (WN W ls n c0 be da de no g sx sy goal ini t) t := rfl
    have EK : ∀ w, KFN W ls n c0 be da de no g sx sy goal ini t w = kpN (WN W ls n c0 be da de no g sx sy goal ini (t + 1)) t w := fun _ => rfl
    have E0 := (HH 0 (by omega)).symm
    have ER : ∀ j, j < t → KFN W ls n c0 be da de no g sx sy goal ini j 1 = (WN W ls n c0 be da de no g sx sy goal ini t).2.2 (j + 1) := fun j hj => (HH (j + 1) (by omega)).symm
    generalize WN W ls n c0 be da de no g sx sy goal ini (t + 1) = st' at nxt ES EK
    generalize WN W ls n c0 be da de no g sx sy goal ini t = st at hX HI ES E0 ER ⊢
    generalize hKF : KFN W ls n c0 be da de no g sx sy goal ini = KF at hX EK ER nxt hK
    have n1 := hN.1
    obtain ⟨hL, hlop, ⟨q, hq1, hq2, hq3⟩, h8⟩ := HI
    have hu11 : u.1 11 = a.1 11 := hF.at h32 (by omega)
    unfold L9_through_19
    refine ⟨fun y => absurd y (by rw [zle, nI_toInt (by omega), nI_toInt (by omega)]; omega), fun _ => ⟨fun y => absurd y (by rw [zle, nI_toInt (by omega)]; simp only [Int32.reduceToInt]; omega), fun _ => ?_⟩⟩
    unfold P2_drawn
    intro μ12 e12
    have X12 : XG b μ12 (setR st.1 0 (dz (st.1 0))) (ini.2.2 0) KF n c0 t st.2.1 := by
      rw [e12, show u.1 b 4 = st.1 0 from hX.2.1 0 (by decide)]
      exact hX.I 0 (by decide) rfl
    have F12 : FW b a μ12 := by rw [e12]; exact hF.I h32 (by simp [SW]) (by omega)
    have q4 : μ12.1 b 4 = dz (st.1 0) := X12.2.1 0 (by decide)
    have q13 : μ12.1 b 13 = st.1 3 := X12.2.1 3 (by decide)
    have q8 : μ12.1 b 8 = st.1 4 := X12.2.1 4 (by decide)
    have q9 : μ12.1 b 9 = st.1 5 := X12.2.1 5 (by decide)
    have M12 := hM.fw h32 F12
    refine s9_seenAt (h := st.2.2) M12.1.2.2.1 M12.1.2.2.2.1 hN.2.2.1 hN.2.2.2.1 ht (X12.2.2.1.trans E0) (fun j hj => (X12.2.2.2 1 j (by decide) hj).trans (ER j hj)) ?_
    rw [q4, q13, q8, q9]
    refine s4_pace (hl.fw h32 F12) hnl (by rw [F12.at h32 (show 15 < 19 ∨ _ by omega)]; exact h15) hli (fun u1 hu1 hj1 => ?_)
    have hp1 : paN ls de no goal st t ≤ 1200 := paN_le
    have ep : pcN ls (st.1 3) (nI t) (seenN de no st.2.2 (dz (st.1 0)) t) goal (st.1 4) (st.1 5) = paN ls de no goal st t := rfl
    rw [ep]
    generalize hp : paN ls de no goal st t = p at hp1 ⊢
    have F13 : FW b a u1 := F12.tr (FW.of hu1 (fun x hx => by
      by_cases e : x = 20 + 3 * li
      · rw [e]; exact hj1 2 (by decide)
      · rw [(hu1 x (by
          have h4 := hl.1
          simp
          rcases hx with rfl | rfl | rfl | rfl <;> omega)).1]) (fun x hx => by
      have h4 := hl.1
      simp [SW] at hx ⊢
      omega))
    have X13 : XG b u1 (setR st.1 0 (dz (st.1 0))) (ini.2.2 0) KF n c0 t st.2.1 := X12.fr (fun x h1 h2 => (hu1 x (by
      have h4 := hl.1
      simp
      omega)).1)
    intro μ17 e17
    have X17 : XG b μ17 (setR (setR st.1 0 (dz (st.1 0))) 3 (nI p)) (ini.2.2 0) KF n c0 t st.2.1 := by
      rw [e17]; exact X13.I 3 (by decide) rfl
    have F17 : FW b a μ17 := by rw [e17]; exact F13.I h32 (by simp [SW]) (by omega)
    have w13 : μ17.1 b 13 = nI p := X17.2.1 3 (by decide)
    have w8 : μ17.1 b 8 = st.1 4 := X17.2.1 4 (by decide)
    have w9 : μ17.1 b 9 = st.1 5 := X17.2.1 5 (by decide)
    have w4 : μ17.1 b 4 = dz (st.1 0) := X17.2.1 0 (by decide)
    rw [w13, w8, w9, w4]
    refine ⟨fun c => ?_, fun c => ?_⟩
    · have cp : ¬ p < 60 := by
        rw [zle, nI_toInt (by omega)] at c
        simp only [Int32.reduceToInt] at c
        omega
      refine s4_drain (by omega) hL X17.1 (hW.fw h32 F17) hp1 (fun μ19 f1 f2 f3 => ?_)
      intro μ20 e20
      have X19 : XG b μ19 (setR (setR st.1 0 (dz (st.1 0))) 3 (nI p)) (ini.2.2 0) KF n c0 t (fDr W st.2.1 p (nI t) (st.2.2 t) (st.1 4) (st.1 5) n) := X17.ld f3 (fun x hx => (f1 x (by simp [SD]; omega)).1)
      have F19 : FW b a μ19 := F17.tr (FW.of f1 f2 (fun x hx => by simp [SD, SW] at hx ⊢; omega))
      rw [show μ19.1 b 8 = st.1 4 from X19.2.1 4 (by decide)] at e20
      have X20 : XG b μ20 (setR (setR (setR st.1 0 (dz (st.1 0))) 3 (nI p)) 4 (st.1 4 + 1)) (ini.2.2 0) KF n c0 t (fDr W st.2.1 p (nI t) (st.2.2 t) (st.1 4) (st.1 5) n) := by
        rw [e20]; exact X19.I 4 (by decide) rfl
      have F20 : FW b a μ20 := by rw [e20]; exact F19.I h32 (by simp [SW]) (by omega)
      have TK := (tick_lo (W := W) (n := n) (c0 := c0) (be := be) (da := da) (g := g) (sx := sx) (sy := sy) hp cp (r' := setR (setR (setR st.1 0 (dz (st.1 0))) 3 (nI p)) 4 (st.1 4 + 1)) rfl rfl rfl rfl rfl rfl rfl rfl rfl)
      rw [← ES] at TK
      show xEnd b (nI i) goal (nI t) 0 μ20 (L9_through_19 b d1 (nI li) (nI i) goal (nI N) p6 Q K1 (k + 1))
      refine x_end (be := be) (da := da) (sx := sx) (sy := sy) (h := st.2.2) h32 ht hN (hM.fw h32 F20) (fDr_ok hL n) X20 hp1 rfl (fun w hw => by rw [EK w, TK]) (fun u' g1 g2 g3 => ?_)
      have fin := nxt u' (F20.tr g1) (by rw [TK]; exact g2) g3
      rw [TK] at fin
      rw [show (endN n c0 be da g sx sy goal t p (fDr W st.2.1 p (nI t) (st.2.2 t) (st.1 4) (st.1 5) n) (setR (setR (setR st.1 0 (dz (st.1 0))) 3 (nI p)) 4 (st.1 4 + 1) 0) (setR (setR (setR st.1 0 (dz (st.1 0))) 3 (nI p)) 4 (st.1 4 + 1) 4) (setR (setR (setR st.1 0 (dz (st.1 0))) 3 (nI p)) 4 (st.1 4 + 1) 5) 0 (setR (setR (setR st.1 0 (dz (st.1 0))) 3 (nI p)) 4 (st.1 4 + 1)) st.2.2).2.2 (t + 1) = lopN n (fDr W st.2.1 p (nI t) (st.2.2 t) (st.1 4) (st.1 5) n) c0 from if_pos rfl] at fin
      exact fin
    · have cp : p < 60 := by
        rw [zle, nI_toInt (by omega)] at c
        simp only [Int32.reduceToInt] at c
        omega
      refine s2_tumble hL.1 X17.1 (fun μ31 f1 f3 => ?_)
      intro μ32 e32
      have X31 : XG b μ31 (setR (setR st.1 0 (dz (st.1 0))) 3 (nI p)) (ini.2.2 0) KF n c0 t (fTu st.2.1 (dz (st.1 0)) n) := X17.ld f3 (fun x hx => (f1 x (by simp; omega)).1)
      have F31 : FW b a μ31 := F17.tr (FW.of f1 (fun x hx => (by rw [(f1 x (by have := hx.lt; simp; omega)).1])) (fun x hx => by simp [SW] at hx ⊢; omega))
      have X32 : XG b μ32 (setR (setR (setR st.1 0 (dz (st.1 0))) 3 (nI p)) 0 (zI (dz (st.1 0)) n)) (ini.2.2 0) KF n c0 t (fTu st.2.1 (dz (st.1 0)) n) := by
        rw [e32]; exact X31.I 0 (by decide) rfl
      have F32 : FW b a μ32 := by rw [e32]; exact F31.I h32 (by simp [SW]) (by omega)
      have y9 : μ32.1 b 9 = st.1 5 := X32.2.1 5 (by decide)
      rw [y9]
      refine ⟨fun cv => ?_, fun cv => ?_⟩
      · intro μ44 e44 μ45 e45
        have X44 : XG b μ44 (setR (setR (setR (setR st.1 0 (dz (st.1 0))) 3 (nI p)) 0 (zI (dz (st.1 0)) n)) 5 (st.1 5 + 1)) (ini.2.2 0) KF n c0 t (fTu st.2.1 (dz (st.1 0)) n) := by
          rw [e44]; exact X32.I 5 (by decide) rfl
        have F44 : FW b a μ44 := by rw [e44]; exact F32.I h32 (by simp [SW]) (by omega)
        have X45 : XG b μ45 (setR (setR (setR (setR (setR st.1 0 (dz (st.1 0))) 3 (nI p)) 0 (zI (dz (st.1 0)) n)) 5 (st.1 5 + 1)) 4 0) (ini.2.2 0) KF n c0 t (fTu st.2.1 (dz (st.1 0)) n) := by
          rw [e45]; exact X44.I 4 (by decide) rfl
        have F45 : FW b a μ45 := by rw [e45]; exact F44.I h32 (by simp [SW]) (by omega)
        have TK := (tick_tu (W := W) (n := n) (c0 := c0) (be := be) (da := da) (g := g) (sx := sx) (sy := sy) hp cp (r' := setR (setR (setR (setR (setR st.1 0 (dz (st.1 0))) 3 (nI p)) 0 (zI (dz (st.1 0)) n)) 5 (st.1 5 + 1)) 4 0) rfl rfl rfl rfl rfl rfl rfl rfl (if_pos cv).symm)
        rw [← ES] at TK
        show xEnd b (nI i) goal (nI t) 1 μ45 (L9_through_19 b d1 (nI li) (nI i) goal (nI N) p6 Q K1 (k + 1))
        refine x_end (be := be) (da := da) (sx := sx) (sy := sy) (h := st.2.2) h32 ht hN (hM.fw h32 F45) (fTu_ok hL n) X45 hp1 rfl (fun w hw => by rw [EK w, TK]) (fun u' g1 g2 g3 => ?_)
        have fin := nxt u' (F45.tr g1) (by rw [TK]; exact g2) g3
        have el : st'.2.2 (t + 1) = lopN n (fTu st.2.1 (dz (st.1 0)) n) c0 := by rw [TK]; exact if_pos rfl
        have e10 : st'.1 10 = 1 := by rw [TK]; rfl
        rw [el, e10] at fin
        exact fin
      · intro μ34 e34
        have X45 : XG b μ34 (setR (setR (setR (setR st.1 0 (dz (st.1 0))) 3 (nI p)) 0 (zI (dz (st.1 0)) n)) 4 0) (ini.2.2 0) KF n c0 t (fTu st.2.1 (dz (st.1 0)) n) := by
          rw [e34]; exact X32.I 4 (by decide) rfl
        have F45 : FW b a μ34 := by rw [e34]; exact F32.I h32 (by simp [SW]) (by omega)
        have TK := (tick_tu (W := W) (n := n) (c0 := c0) (be := be) (da := da) (g := g) (sx := sx) (sy := sy) hp cp (r' := setR (setR (setR (setR st.1 0 (dz (st.1 0))) 3 (nI p)) 0 (zI (dz (st.1 0)) n)) 4 0) rfl rfl rfl rfl rfl rfl rfl rfl (if_neg cv).symm)
        rw [← ES] at TK
        show xEnd b (nI i) goal (nI t) 1 μ34 (L9_through_19 b d1 (nI li) (nI i) goal (nI N) p6 Q K1 (k + 1))
        refine x_end (be := be) (da := da) (sx := sx) (sy := sy) (h := st.2.2) h32 ht hN (hM.fw h32 F45) (fTu_ok hL n) X45 hp1 rfl (fun w hw => by rw [EK w, TK]) (fun u' g1 g2 g3 => ?_)
        have fin := nxt u' (F45.tr g1) (by rw [TK]; exact g2) g3
        have el : st'.2.2 (t + 1) = lopN n (fTu st.2.1 (dz (st.1 0)) n) c0 := by rw [TK]; exact if_pos rfl
        have e10 : st'.1 10 = 1 := by rw [TK]; rfl
        rw [el, e10] at fin
        exact fin
