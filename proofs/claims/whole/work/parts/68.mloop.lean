/-! the walk of the reference, tick by tick -/
theorem FM.lift {S J : List Nat} {m u v : mw_M} (h : FM SV JV m u) (h2 : FM S J u v) (hs : ∀ k ∈ S, k ∈ SV) (hj : ∀ k ∈ J, k ∈ JV) : FM SV JV m v := h.tr (h2.mono hs hj)
theorem m_tick {t : Nat} {a m u : mw_M} {W : Option (List LN)} {ls : List LN} {n c0 be da de no wa fl i g li : Nat} {sx sy goal : Int32} {st : WK} (hN : NOK be da de no wa fl i g) (hC : MCm m be da de no wa fl i g sx sy) (hl : LAWm m li ls) (hW : WAT a m W) (ht : t < 200) (hI : WI n c0 st t) (hF : FM SV JV m u) (hX : MW u st.1 n c0 st.2.1) (hB : ∀ j, j < t → u.1 15 j = st.2.2 j) {K : Int32 → mw_M → Prop} (hK : ∀ v, FM SV JV m v → (∀ k, 16 ≤ k → v.1 k = u.1 k) → MW v (tickN W ls n c0 be da de no g sx sy goal st t).1 n c0 (tickN W ls n c0 be da de no g sx sy goal st t).2.1 → (∀ j, j ≤ t → v.1 15 j = st.2.2 j) → K (nI (paN ls de no goal st t)) v) : P11_oneTick (nI li) (nI i) goal (nI t) (st.1 3) (st.1 10) u K := by
  obtain ⟨hL, hlop, ⟨q, hq1, hq2, hq3⟩, h8⟩ := hI
  unfold P11_oneTick
  refine s11_lopsided hL hX.1 ⟨vp_in_nI ht (by decide), ?_⟩
  intro μ4 e4
  rw [nI_clamp (by omega), ← hlop] at e4
  have F4 : FM SV JV m μ4 := by rw [e4]; exact hF.I (by decide) (by decide)
  have X4 : MW μ4 st.1 n c0 st.2.1 := by
    rw [e4]
    exact hX.fr (mw_I_row (by decide)) (mw_I_row (by decide)) (mw_I_row (by decide))
  have B4 : ∀ j, j ≤ t → μ4.1 15 j = st.2.2 j := fun j hj => by
    rw [e4, mw_I_get]
    by_cases e : j = t
    · rw [if_pos ⟨rfl, e⟩, e]
    · rw [if_neg (fun z => e z.2)]; exact hB j (by omega)
  have K4 : ∀ k, 16 ≤ k → μ4.1 k = u.1 k := fun k hk => by rw [e4, mw_I_row (by omega)]
  have C4 := hC.fm F4
  have z4 : μ4.1 0 25 = st.1 0 := X4.2 0 (by decide) (by decide)
  refine s11_seenAt (h := st.2.2) C4.1.2.2.1 C4.1.2.2.2.1 hN.2.2.1 hN.2.2.2.1 ht B4 ?_
  rw [z4]
  generalize e6 : mw_I μ4 0 25 (dz (st.1 0)) = μ6
  have F6 : FM SV JV m μ6 := by rw [← e6]; exact F4.O (by decide)
  have X6 : MW μ6 (setR st.1 0 (dz (st.1 0))) n c0 st.2.1 := by rw [← e6]; exact X4.O 0 (by decide) (by decide) rfl
  have K6 : ∀ k, 15 ≤ k → μ6.1 k = μ4.1 k := fun k hk => by rw [← e6, mw_I_row (by omega)]
  have y36 : μ6.1 0 36 = st.1 4 := X6.2 4 (by decide) (by decide)
  have y35 : μ6.1 0 35 = st.1 5 := X6.2 5 (by decide) (by decide)
  rw [y36, y35]
  refine s11_ruled (hl.fm F6 ⟨by decide, by decide⟩) (fun μ8 f8 => ?_)
  have hp1 : paN ls de no goal st t ≤ 1200 := paN_le
  have ep : pcN ls (st.1 3) (nI t) (seenN de no st.2.2 (dz (st.1 0)) t) goal (st.1 4) (st.1 5) = paN ls de no goal st t := rfl
  rw [ep]
  generalize hp : paN ls de no goal st t = p at hp1 hK ⊢
  have F8 : FM SV JV m μ8 := F6.lift f8 (by decide) (by decide)
  have X8 : MW μ8 (setR st.1 0 (dz (st.1 0))) n c0 st.2.1 := X6.ld (ml_rows X6.1 (f8.1 1 (by decide) (by decide)).1 (f8.1 5 (by decide) (by decide)).1 (f8.2 6 (by decide))) (fun k hk k3 => f8.2 _ ((by decide : ∀ k, k < 10 → k ≠ 3 → slV k ∉ [19, 20, 21, 22, 23]) k hk k3))
  have K8 : ∀ k, 15 ≤ k → μ8.1 k = μ6.1 k := fun k hk => (f8.1 k (by simp; omega) (by omega)).1
  have w36 : μ8.1 0 36 = st.1 4 := X8.2 4 (by decide) (by decide)
  have w35 : μ8.1 0 35 = st.1 5 := X8.2 5 (by decide) (by decide)
  have w25 : μ8.1 0 25 = dz (st.1 0) := X8.2 0 (by decide) (by decide)
  rw [w36, w35]
  refine ⟨fun c => ?_, fun c => ?_⟩
  · have cp : ¬ p < 60 := by
      rw [zle, nI_toInt (by omega)] at c
      simp only [Int32.reduceToInt] at c
      omega
    refine s11_leaves hL X8.1 (hW.fm F8 ⟨by decide, by decide, by decide⟩) hp1 (fun μ10 f1 f3 => ?_)
    rw [← hlop] at f3
    intro μ11 e11
    have X10 : MW μ10 (setR st.1 0 (dz (st.1 0))) n c0 (fDr W st.2.1 p (nI t) (st.2.2 t) (st.1 4) (st.1 5) n) := X8.ld f3 (fun k hk k3 => f1.2 _ ((by decide : ∀ k, k < 10 → k ≠ 3 → slV k ∉ SM) k hk k3))
    have F10 : FM SV JV m μ10 := F8.lift f1 (by decide) (by decide)
    rw [show μ10.1 0 36 = st.1 4 from X10.2 4 (by decide) (by decide)] at e11
    have X11 : MW μ11 (setR (setR st.1 0 (dz (st.1 0))) 4 (st.1 4 + 1)) n c0 (fDr W st.2.1 p (nI t) (st.2.2 t) (st.1 4) (st.1 5) n) := by rw [e11]; exact X10.O 4 (by decide) (by decide) rfl
    have F11 : FM SV JV m μ11 := by rw [e11]; exact F10.O (by decide)
    have K11 : ∀ k, 15 ≤ k → μ11.1 k = μ8.1 k := fun k hk => by
      rw [e11, mw_I_row (by omega)]
      exact (f1.1 k (by simp; omega) (by omega)).1
    have TK := (tick_lo (W := W) (n := n) (c0 := c0) (be := be) (da := da) (g := g) (sx := sx) (sy := sy) hp cp (r' := setR (setR st.1 0 (dz (st.1 0))) 4 (st.1 4 + 1)) rfl rfl rfl rfl rfl rfl rfl rfl rfl)
    rw [TK] at hK
    show mEnd (nI p) (nI i) goal (nI t) μ11 K
    refine m_end (h := st.2.2) (tum := 0) hN (hC.fm F11) F11 (fDr_ok hL n) X11 hp1 h8 (fun v g1 g2 g3 => ?_)
    refine hK v g1 (fun k hk => ?_) g3 (fun j hj => ?_)
    · rw [g2 k (by omega), K11 k (by omega), K8 k (by omega), K6 k (by omega), K4 k hk]
    · rw [g2 15 (by decide), K11 15 (by decide), K8 15 (by decide), K6 15 (by decide)]; exact B4 j hj
  · have cp : p < 60 := by
      rw [zle, nI_toInt (by omega)] at c
      simp only [Int32.reduceToInt] at c
      omega
    refine s11_tumbles hL.1 X8.1 (fun μ141 f1 f25 f3 => ?_)
    rw [w25] at f25 f3
    have X1 : MW μ141 (setR (setR st.1 0 (dz (st.1 0))) 0 (zI (dz (st.1 0)) n)) n c0 (fTu st.2.1 (dz (st.1 0)) n) := by
      refine ⟨f3, fun k hk k3 => ?_⟩
      by_cases e : k = 0
      · subst e; exact f25
      · rw [f1.2 _ ((by decide : ∀ k, k < 10 → k ≠ 3 → k ≠ 0 → slV k ∉ [25]) k hk k3 e), X8.2 k hk k3]
        unfold setR
        rw [if_neg e, if_neg e]
    have F1 : FM SV JV m μ141 := F8.lift f1 (by decide) (by decide)
    have K1 : ∀ k, 15 ≤ k → μ141.1 k = μ8.1 k := fun k hk => (f1.1 k (by simp; omega) (by omega)).1
    have v35 : μ141.1 0 35 = st.1 5 := X1.2 5 (by decide) (by decide)
    rw [v35, Int32.add_zero]
    have key : ∀ w z, w = mw_I μ141 0 35 z → z = (if st.1 10 = 0 then st.1 5 + 1 else st.1 5) → ∀ w2, w2 = mw_I w 0 36 0 → mEnd (nI p) (nI i) goal (nI t) w2 K := by
      intro w z ew ez w2 ew2
      have Xw : MW w2 (setR (setR (setR (setR st.1 0 (dz (st.1 0))) 0 (zI (dz (st.1 0)) n)) 5 z) 4 0) n c0 (fTu st.2.1 (dz (st.1 0)) n) := by
        rw [ew2, ew]; exact (X1.O 5 (by decide) (by decide) rfl).O 4 (by decide) (by decide) rfl
      have Fw : FM SV JV m w2 := by rw [ew2, ew]; exact (F1.O (by decide)).O (by decide)
      have TK := (tick_tu (W := W) (n := n) (c0 := c0) (be := be) (da := da) (g := g) (sx := sx) (sy := sy) hp cp (r' := setR (setR (setR (setR st.1 0 (dz (st.1 0))) 0 (zI (dz (st.1 0)) n)) 5 z) 4 0) rfl rfl rfl rfl rfl rfl rfl rfl ez)
      rw [TK] at hK
      refine m_end (h := st.2.2) (tum := 1) hN (hC.fm Fw) Fw (fTu_ok hL n) Xw hp1 h8 (fun v g1 g2 g3 => ?_)
      refine hK v g1 (fun k hk => ?_) g3 (fun j hj => ?_)
      · rw [g2 k (by omega), ew2, mw_I_row (by omega), ew, mw_I_row (by omega), K1 k (by omega), K8 k (by omega), K6 k (by omega), K4 k hk]
      · rw [g2 15 (by decide), ew2, mw_I_row (by decide), ew, mw_I_row (by decide), K1 15 (by decide), K8 15 (by decide), K6 15 (by decide)]; exact B4 j hj
    refine ⟨fun cv μ143 e1 μ144 e2 => key μ143 _ e1 (by rw [if_pos cv]) μ144 e2, fun cv μ143 e1 μ144 e2 => key μ143 _ e1 (by rw [if_neg cv]) μ144 e2⟩
def mKeep (v10 p6 r16 : Int32) (μ17 : mw_M) (L : Int32 → Int32 → mw_M → Prop) : Prop := ((p6 = 0 → (∀ x19 : Int32, x19 = v10 + 1 → L x19 r16 μ17)) ∧ (¬ p6 = 0 → (vp_in v10 200 ∧ (∀ μ21 : mw_M, μ21 = mw_I μ17 16 v10.toNatClampNeg r16 → P11_lopsided μ21 (fun r22 => (vp_in v10 200 ∧ (∀ μ25 : mw_M, μ25 = mw_I μ21 17 v10.toNatClampNeg r22 → (vp_in v10 200 ∧ P11_shakeOf (μ25.1 17 v10.toNatClampNeg) r16 μ25 (fun r27 => (vp_in v10 200 ∧ (∀ μ30 : mw_M, μ30 = mw_I μ25 18 v10.toNatClampNeg r27 → (vp_in v10 200 ∧ (∀ μ32 : mw_M, μ32 = mw_I μ30 19 v10.toNatClampNeg (μ30.1 0 39) → (vp_in v10 200 ∧ (∀ μ34 : mw_M, μ34 = mw_I μ32 20 v10.toNatClampNeg (μ32.1 0 40) → (∀ x35 : Int32, x35 = v10 + 1 → L x35 r16 μ34))))))))))))))))
/-- the rows of kept ticks of the reference -/
def RK (v : mw_M) (KF : Nat → Nat → Int32) (t : Nat) : Prop := ∀ w j, w < 5 → j < t → v.1 (16 + w) j = KF j w
def kpM (t : Nat) (p lop sh x y : Int32) (v : mw_M) : mw_M := mw_I (mw_I (mw_I (mw_I (mw_I v 16 t p) 17 t lop) 18 t sh) 19 t x) 20 t y
theorem kpM_RK {t : Nat} {p lop sh x y : Int32} {v : mw_M} {KF : Nat → Nat → Int32} (h : RK v KF t) (hK : ∀ w, w < 5 → KF t w = kvN p lop sh x y w) : RK (kpM t p lop sh x y v) KF (t + 1) := by
  intro w j hw hj
  have E : (kpM t p lop sh x y v).1 (16 + w) j = if j = t then kvN p lop sh x y w else v.1 (16 + w) j := by
    unfold kpM
    rcases (show w = 0 ∨ w = 1 ∨ w = 2 ∨ w = 3 ∨ w = 4 by omega) with rfl | rfl | rfl | rfl | rfl
    · rw [mw_I_ne (by omega), mw_I_ne (by omega), mw_I_ne (by omega), mw_I_ne (by omega), mw_I_get]
      simp [kvN]
    · rw [mw_I_ne (by omega), mw_I_ne (by omega), mw_I_ne (by omega), mw_I_get, mw_I_ne (by omega)]
      simp [kvN]
    · rw [mw_I_ne (by omega), mw_I_ne (by omega), mw_I_get, mw_I_ne (by omega), mw_I_ne (by omega)]
      simp [kvN]
    · rw [mw_I_ne (by omega), mw_I_get, mw_I_ne (by omega), mw_I_ne (by omega), mw_I_ne (by omega)]
      simp [kvN]
    · rw [mw_I_get, mw_I_ne (by omega), mw_I_ne (by omega), mw_I_ne (by omega), mw_I_ne (by omega)]
      simp [kvN]
  rw [E]
  by_cases e : j = t
  · rw [if_pos e, e, hK w hw]
  · rw [if_neg e]; exact h w j hw (by omega)
theorem m_keep {t p : Nat} (ht : t < 200) (hp : p ≤ 1200) {be da : Nat} (hbe : be ≤ 900) (hda : 1 ≤ da ∧ da ≤ 9999) {p6 : Int32} {v : mw_M} {n c0 : Nat} {r : Nat → Int32} {f : Nat → Nat → Nat} (hL : LOK n f c0) (hX : MW v r n c0 f) (h0 : v.1 6 0 = nI be) (h1 : v.1 6 1 = nI da) {L : Int32 → Int32 → mw_M → Prop} (hQ0 : p6 = 0 → L (nI (t + 1)) (nI p) v) (hQ1 : ¬ p6 = 0 → L (nI (t + 1)) (nI p) (kpM t (nI p) (lopN n f c0) (shS be da (lopN n f c0) p) (r 1) (r 2) v)) : mKeep (nI t) p6 (nI p) v L := by
  have hv := vp_in_nI ht (by decide)
  unfold mKeep
  refine ⟨fun c x hx => by rw [hx, show nI t + 1 = nI (t + 1) from nI_add t 1]; exact hQ0 c, fun c => ?_⟩
  rw [nI_clamp (by omega)]
  simp only [forall_eq]
  refine ⟨hv, s11_lopsided hL (hX.fr (mw_I_row (by decide)) (mw_I_row (by decide)) (mw_I_row (by decide))).1 ⟨hv, hv, ?_⟩⟩
  rw [mw_I_eq]
  refine s11_shakeOf hbe hda hp (by rw [mw_I_ne (by decide), mw_I_ne (by decide)]; exact h0) (by rw [mw_I_ne (by decide), mw_I_ne (by decide)]; exact h1) ⟨hv, hv, hv, ?_⟩
  rw [mw_I_ne (show 0 ≠ 19 by decide), mw_I_ne (show 0 ≠ 18 by decide), mw_I_ne (show 0 ≠ 17 by decide), mw_I_ne (show 0 ≠ 16 by decide), mw_I_ne (show 0 ≠ 18 by decide), mw_I_ne (show 0 ≠ 17 by decide), mw_I_ne (show 0 ≠ 16 by decide), show v.1 0 39 = r 1 from hX.2 1 (by decide) (by decide), show v.1 0 40 = r 2 from hX.2 2 (by decide) (by decide), show nI t + 1 = nI (t + 1) from nI_add t 1]
  exact hQ1 c
theorem tick_3 {W : Option (List LN)} {ls : List LN} {n c0 be da de no g : Nat} {sx sy goal : Int32} {st : WK} {t : Nat} : (tickN W ls n c0 be da de no g sx sy goal st t).1 3 = nI (paN ls de no goal st t) := by
  unfold tickN
  split <;> rfl
theorem tick_sh {W : Option (List LN)} {ls : List LN} {n c0 be da de no g : Nat} {sx sy goal : Int32} {st : WK} {t : Nat} : (tickN W ls n c0 be da de no g sx sy goal st t).1 11 = shS be da (lopN n (tickN W ls n c0 be da de no g sx sy goal st t).2.1 c0) (paN ls de no goal st t) := by
  unfold tickN
  split <;> rfl
/-- what is kept of ticks: told when told to keep, else the rows stay -/
def RP (p6 : Int32) (m v : mw_M) (KF : Nat → Nat → Int32) (t : Nat) : Prop := (¬ p6 = 0 → RK v KF t) ∧ (p6 = 0 → ∀ k, 16 ≤ k → v.1 k = m.1 k)
theorem m_loop {a m : mw_M} {W : Option (List LN)} {ls : List LN} {n c0 be da de no wa fl i g li N : Nat} {sx sy goal p5 p6 : Int32} {ini : WK} (hN : NOK be da de no wa fl i g) (hC : MCm m be da de no wa fl i g sx sy) (hl : LAWm m li ls) (hW : WAT a m W) (hI : WI n c0 ini 0) (hNN : N ≤ 200) {Q : mw_M → Prop} (hK : ∀ v, FM SV JV m v → MW v (WN W ls n c0 be da de no g sx sy goal ini N).1 n c0 (WN W ls n c0 be da de no g sx sy goal ini N).2.1 → RP p6 m v (KFN W ls n c0 be da de no g sx sy goal ini) N → Q v) : ∀ k t v, t + k = N → FM SV JV m v → MW v (WN W ls n c0 be da de no g sx sy goal ini t).1 n c0 (WN W ls n c0 be da de no g sx sy goal ini t).2.1 → (∀ j, j < t → v.1 15 j = (WN W ls n c0 be da de no g sx sy goal ini t).2.2 j) → RP p6 m v (KFN W ls n c0 be da de no g sx sy goal ini) t → L11_goes_53 (nI li) (nI i) goal (nI N) p5 p6 Q (k + 1) (nI t) ((WN W ls n c0 be da de no g sx sy goal ini t).1 3) v := by
  intro k
  induction k with
  | zero =>
    intro t v hk hF hX hB hR
    have e : t = N := by omega
    subst e
    unfold L11_goes_53
    exact ⟨fun _ => hK v hF hX hR, fun y => absurd (nI_le (Nat.le_refl _) (by omega)) y⟩
  | succ k ih =>
    intro t v hk hF hX hB hR
    have ht : t < 200 := by omega
    have nxt := fun u' => ih (t + 1) u' (by omega)
    have HI := WI_N (W := W) (ls := ls) (be := be) (da := da) (de := de) (no := no) (g := g) (sx := sx) (sy := sy) (goal := goal) hI t (by omega)
    have HI' := WI_N (W := W) (ls := ls) (be := be) (da := da) (de := de) (no := no) (g := g) (sx := sx) (sy := sy) (goal := goal) hI (t + 1) (by omega)
    have ES : WN W ls n c0 be da de no g sx sy goal ini (t + 1) = tickN W ls n c0 be da de no g sx sy goal (WN W ls n c0 be da de no g sx sy goal ini t) t := rfl
    have EK : ∀ w, KFN W ls n c0 be da de no g sx sy goal ini t w = kpN (WN W ls n c0 be da de no g sx sy goal ini (t + 1)) t w := fun _ => rfl
    generalize WN W ls n c0 be da de no g sx sy goal ini (t + 1) = st' at nxt ES EK HI'
    generalize WN W ls n c0 be da de no g sx sy goal ini t = st at hX HI ES hB ⊢
    generalize hKF : KFN W ls n c0 be da de no g sx sy goal ini = KF at hR EK nxt hK
    have e3 : st'.1 3 = nI (paN ls de no goal st t) := by rw [ES]; exact tick_3
    have e11 : st'.1 11 = shS be da (lopN n st'.2.1 c0) (paN ls de no goal st t) := by rw [ES]; exact tick_sh
    have key : P11_oneTick (nI li) (nI i) goal (nI t) (st.1 3) (st.1 10) v (fun r16 μ17 => mKeep (nI t) p6 r16 μ17 (L11_goes_53 (nI li) (nI i) goal (nI N) p5 p6 Q (k + 1))) := by
      refine m_tick hN hC hl hW ht HI hF hX hB (fun w g1 g2 g3 g4 => ?_)
      rw [← ES] at g3
      have Cw := hC.fm g1
      have B' : ∀ j, j < t + 1 → st.2.2 j = st'.2.2 j := fun j hj => by rw [ES, tick_h (by omega)]
      have RKw : ¬ p6 = 0 → RK w KF t := fun c x j hx hj => by rw [g2 (16 + x) (by omega)]; exact hR.1 c x j hx hj
      refine m_keep ht paN_le hN.1 hN.2.1 HI'.1 g3 Cw.1.1 Cw.1.2.1 (fun c => ?_) (fun c => ?_)
      · rw [← e3]
        exact nxt w g1 g3 (fun j hj => by rw [g4 j (by omega), B' j hj]) ⟨fun d => absurd c d, fun d x hx => by rw [g2 x hx]; exact hR.2 d x hx⟩
      · have fin := nxt (kpM t (nI (paN ls de no goal st t)) (lopN n st'.2.1 c0) (shS be da (lopN n st'.2.1 c0) (paN ls de no goal st t)) (st'.1 1) (st'.1 2) w) (((((g1.I (by decide) (by decide)).I (by decide) (by decide)).I (by decide) (by decide)).I (by decide) (by decide)).I (by decide) (by decide)) (g3.fr (by unfold kpM; rw [mw_I_row (by decide), mw_I_row (by decide), mw_I_row (by decide), mw_I_row (by decide), mw_I_row (by decide)]) (by unfold kpM; rw [mw_I_row (by decide), mw_I_row (by decide), mw_I_row (by decide), mw_I_row (by decide), mw_I_row (by decide)]) (by unfold kpM; rw [mw_I_row (by decide), mw_I_row (by decide), mw_I_row (by decide), mw_I_row (by decide), mw_I_row (by decide)])) (fun j hj => by
            unfold kpM
            rw [mw_I_ne (by decide), mw_I_ne (by decide), mw_I_ne (by decide), mw_I_ne (by decide), mw_I_ne (by decide), g4 j (by omega), B' j hj]) ⟨fun _ => kpM_RK (RKw c) (fun x hx => by
            rw [EK x, ← e11, ← e3, ← HI'.2.1]
            rfl), fun d => absurd d c⟩
        rw [e3] at fin
        exact fin
    obtain ⟨hL, hlop, ⟨q, hq1, hq2, hq3⟩, h8⟩ := HI
    unfold L11_goes_53
    refine ⟨fun y => absurd y (by rw [zle, nI_toInt (by omega), nI_toInt (by omega)]; omega), fun _ => ⟨fun y => ?_, fun y => ⟨fun z => ?_, fun z => ?_⟩⟩⟩
    · have t0 : t = 0 := by
        rw [zle, nI_toInt (by omega)] at y
        simp only [Int32.reduceToInt] at y
        omega
      rw [hq3, if_pos t0] at key
      exact key
    · have t0 : ¬ t = 0 := by
        rw [zle, nI_toInt (by omega)] at y
        simp only [Int32.reduceToInt] at y
        omega
      rw [hq3, if_neg t0, if_neg (by
        rw [hq2, zle, nI_toInt (by omega)] at z
        simp only [Int32.reduceToInt] at z
        omega)] at key
      exact key
    · have t0 : ¬ t = 0 := by
        rw [zle, nI_toInt (by omega)] at y
        simp only [Int32.reduceToInt] at y
        omega
      rw [hq3, if_neg t0, if_pos (by
        rw [hq2, zle, nI_toInt (by omega)] at z
        simp only [Int32.reduceToInt] at z
        omega)] at key
      exact key
