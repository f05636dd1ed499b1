/-! the reference's water leaves -/
theorem ml_next {v : mw_M} {n i p c0 : Nat} {W : Option (List LN)} {f : Nat → Nat → Nat} {t lop s c : Int32} (hn : n ≤ 12) (hi : i < n) (h : ML v n (fDr W f p t lop s c i) c0) : ML (mw_I v 1 (12 + i) (nI (f 1 i - outN W (f 1 i) (f 3 i) p t lop s c))) n (fDr W f p t lop s c (i + 1)) c0 := by
  refine ⟨by rw [mw_I_ne (by decide)]; exact h.1, by rw [mw_I_nj (by omega)]; exact h.2.1, fun k hk => ?_⟩
  obtain ⟨h1, h2, h3, h4⟩ := h.2.2 k hk
  have g : ∀ w, w ≠ 1 → fDr W f p t lop s c (i + 1) w k = fDr W f p t lop s c i w k := fun w hw => by
    unfold fDr
    rw [if_neg (by omega), if_neg (by omega)]
  refine ⟨by rw [mw_I_nj (by omega), g 0 (by decide)]; exact h1, ?_, by rw [mw_I_nj (by omega), g 2 (by decide)]; exact h3, by rw [mw_I_ne (by decide), g 3 (by decide)]; exact h4⟩
  rw [mw_I_get]
  by_cases q : k = i
  · subst q
    rw [if_pos ⟨rfl, rfl⟩]
    unfold fDr
    rw [if_pos ⟨rfl, by omega⟩]
  · rw [if_neg (fun z => q (by omega)), h2]
    unfold fDr
    by_cases r : k < i
    · rw [if_pos ⟨rfl, r⟩, if_pos ⟨rfl, by omega⟩]
    · rw [if_neg (by omega), if_neg (by omega)]
theorem ml_rows {v v' : mw_M} {n c0 : Nat} {f : Nat → Nat → Nat} (h : ML v n f c0) (e1 : v'.1 1 = v.1 1) (e5 : v'.1 5 = v.1 5) (e6 : v'.1 0 6 = v.1 0 6) : ML v' n f c0 := by
  unfold ML at h ⊢
  rw [e1, e5, e6]
  exact h
def SM : List Nat := [19, 20, 21, 22, 23]
theorem m_leavesL {a m : mw_M} {n p c0 : Nat} {W : Option (List LN)} {f : Nat → Nat → Nat} {t lop s c : Int32} (hL : LOK n f c0) (hW : WAT a m W) (hp : p ≤ 1200) {Q : mw_M → Prop} (hQ : ∀ v', FM [1, 13] SM m v' → ML v' n (fDr W f p t lop s c n) c0 → Q v') : ∀ k i v, i + k = n → FM [1, 13] SM m v → ML v n (fDr W f p t lop s c i) c0 → L11_waterLeaves_9 lop (nI p) t s c Q (k + 1) (nI i) v := by
  have hn := hL.1
  intro k
  induction k with
  | zero =>
    intro i v hi hF hM
    have e : i = n := by omega
    subst e
    unfold L11_waterLeaves_9
    rw [hM.1]
    exact ⟨fun _ => hQ v hF hM, fun z => absurd (nI_le (Nat.le_refl _) (by omega)) z⟩
  | succ k ih =>
    intro i v hi hF hM
    obtain ⟨-, -, hwt, -, hhd⟩ := hL.2.2 i (by omega)
    obtain ⟨-, y1, -, y3⟩ := hM.2.2 i (by omega)
    have ew : fDr W f p t lop s c i 1 i = f 1 i := by unfold fDr; rw [if_neg (by omega)]
    have eh : fDr W f p t lop s c i 3 i = f 3 i := by unfold fDr; rw [if_neg (by omega)]
    rw [ew] at y1
    rw [eh] at y3
    have ol := outN_le (W := W) (hold := f 3 i) (t := t) (lop := lop) (s := s) (c := c) hwt hp
    have m1 : f 1 i * p ≤ 99 * 1200 := Nat.mul_le_mul hwt hp
    have hv12 : vp_in (nI (12 + i)) 37 := vp_in_nI (by omega) (by decide)
    unfold L11_waterLeaves_9
    rw [hM.1, show (12 : Int32) + nI i = nI (12 + i) from nI_add 12 i, nI_clamp (show 12 + i < 2 ^ 31 by omega)]
    refine ⟨fun z => absurd z (by rw [zle, nI_toInt (by omega), nI_toInt (by omega)]; omega), fun _ => ⟨hv12, fun x8 e8 x9 e9 => ?_⟩⟩
    rw [y1] at e8
    subst e8
    rw [pk_mul, show (6000 : Int32) = nI 6000 from rfl, zdiv (by omega) (by decide) (by decide)] at e9
    have fin : ∀ v2, FM [1, 13] SM m v2 → ML v2 n (fDr W f p t lop s c i) c0 → ∀ r : Int32, clN (f 1 i) r = outN W (f 1 i) (f 3 i) p t lop s c → ((0 ≤ r → ((r ≤ nI (f 1 i) → (vp_in (nI (12 + i)) 37 ∧ (∀ μ14 : mw_M, μ14 = mw_I v2 1 (12 + i) (nI (f 1 i) - r) → (∀ x15 : Int32, x15 = nI i + 1 → L11_waterLeaves_9 lop (nI p) t s c Q (k + 1) x15 μ14)))) ∧ (¬ r ≤ nI (f 1 i) → (vp_in (nI (12 + i)) 37 ∧ (∀ μ17 : mw_M, μ17 = mw_I v2 1 (12 + i) (nI (f 1 i) - nI (f 1 i)) → (∀ x18 : Int32, x18 = nI i + 1 → L11_waterLeaves_9 lop (nI p) t s c Q (k + 1) x18 μ17)))))) ∧ (¬ 0 ≤ r → (vp_in (nI (12 + i)) 37 ∧ (∀ μ20 : mw_M, μ20 = mw_I v2 1 (12 + i) (nI (f 1 i) - 0) → (∀ x21 : Int32, x21 = nI i + 1 → L11_waterLeaves_9 lop (nI p) t s c Q (k + 1) x21 μ20))))) := fun v2 h1 h2 r hr => by
      have go : ∀ o : Nat, o = outN W (f 1 i) (f 3 i) p t lop s c → L11_waterLeaves_9 lop (nI p) t s c Q (k + 1) (nI i + 1) (mw_I v2 1 (12 + i) (nI (f 1 i) - nI o)) := fun o ho => by
        subst ho
        rw [pk_sub ol, show nI i + 1 = nI (i + 1) from nI_add i 1]
        exact ih (i + 1) _ (by omega) (h1.I (by decide) (by decide)) (ml_next hn (by omega) h2)
      simp only [forall_eq]
      unfold clN at hr
      refine ⟨fun z => ⟨fun z2 => ⟨hv12, ?_⟩, fun z2 => ⟨hv12, ?_⟩⟩, fun z => ⟨hv12, ?_⟩⟩
      · rw [if_neg (by rw [zle] at z; rw [zlt]; omega), if_neg (by rw [zle] at z2; rw [zlt]; omega)] at hr
        have er : r = nI r.toInt.toNat := nI_of_toInt (by rw [zle] at z; simp only [Int32.reduceToInt] at z; omega)
        rw [er]
        exact go _ hr
      · rw [if_neg (by rw [zle] at z; rw [zlt]; omega), if_pos (by rw [zle] at z2; rw [zlt]; omega)] at hr
        exact go _ hr
      · rw [if_pos (by rw [zle] at z; rw [zlt]; omega)] at hr
        exact go 0 hr
    have e16 : v.1 0 16 = m.1 0 16 := hF.2 16 (by decide)
    rw [e16]
    rcases hW with ⟨rfl, w1, w2⟩ | ⟨w, ls, n2, j, tb, rfl, hw4, -, w1, w2, g1, g2, g3, g4, g5, g6⟩
    · rw [w2]
      refine ⟨fun _ => ?_, fun z => absurd (by decide) z⟩
      refine fin v hF hM x9 ?_
      rw [e9]
      have hle : f 1 i * p / 6000 ≤ f 1 i := ol
      unfold clN
      rw [if_neg (show ¬ nI (f 1 i * p / 6000) < 0 from nI_nlt (b := 0) (by omega) (by omega)), if_neg (nI_nlt hle (by omega)), nI_toInt (by omega)]
      rfl
    · rw [w2]
      refine ⟨fun z => absurd z (nI_nlt (b := 0) (by omega) (by omega)), fun _ => ?_⟩
      refine s11_clear (fun v1 hv1 hz => ?_)
      simp only [forall_eq]
      refine ⟨vp_in_nI (by omega) (by decide), ?_⟩
      rw [nI_clamp (show i < 2 ^ 31 by omega)]
      have e5 : (mw_I v1 13 0 (nI (f 1 i))).1 5 i = nI (f 3 i) := by
        rw [mw_I_ne (by decide), (hv1.1 5 (by decide) (by decide)).1]; exact y3
      rw [e5]
      generalize hu : mw_I (mw_I (mw_I (mw_I (mw_I (mw_I (mw_I v1 13 0 (nI (f 1 i))) 13 1 (nI (f 3 i))) 13 2 (nI p)) 13 3 t) 13 4 lop) 13 7 s) 13 8 c = v3
      have fv : FM [13] [] v v3 := by
        rw [← hu]
        exact ((((((hv1.I (by decide) (by decide)).I (by decide) (by decide)).I (by decide) (by decide)).I (by decide) (by decide)).I (by decide) (by decide)).I (by decide) (by decide)).I (by decide) (by decide)
      have nu : ∀ k, k < 9 → v3.1 13 k = wNm (f 1 i) (f 3 i) p t lop s c k := by
        intro k hk
        rw [← hu]
        unfold wNm
        rcases (show k = 0 ∨ k = 1 ∨ k = 2 ∨ k = 3 ∨ k = 4 ∨ k = 5 ∨ k = 6 ∨ k = 7 ∨ k = 8 by omega) with rfl | rfl | rfl | rfl | rfl | rfl | rfl | rfl | rfl
        all_goals simp (config := { decide := true }) only [mw_I_get, true_and, false_and, if_true, if_false, hz]
      have f3 : FM [1, 13] SM m v3 := hF.tr (fv.mono (by decide) (by simp))
      have z16 : v3.1 0 16 = nI w := (f3.2 16 (by decide)).trans w2
      have r12 : v3.1 12 = m.1 12 := (f3.1 12 (by decide) (by decide)).1
      have r11 : v3.1 11 = m.1 11 := (f3.1 11 (by decide) (by decide)).1
      have hn1 := g1.1
      have gt := pText_G g1 120 0 (Nat.zero_le _) j ls g4
      rw [z16, nI_clamp (by omega), r12, g2, show (120 : Int32) * nI w = nI (120 * w) from pk_mul 120 w]
      refine ⟨vp_in_nI (by omega) (by decide), ?_⟩
      refine m_workOut g1 (Or.inr ⟨120 * w, by omega, rfl, by rw [r11]; exact g3⟩) (fun v4 j' ls' h1 h2 h3 => ?_) (fun v4 j' x h1 h2 h3 h4 => ?_)
      · rw [g4] at h1
        simp only [Prod.mk.injEq, Option.some.injEq] at h1
        obtain ⟨rfl, rfl⟩ := h1
        rw [tx_cong nu ls gt.2.2.1]
        have f4 : FM [1, 13] SM m v4 := f3.tr (h2.mono (by simp) (fun _ q => q))
        have ff := fin v4 f4 (ml_rows hM ?_ ?_ ?_) (txVal (wNm (f 1 i) (f 3 i) p t lop s c) ls) rfl
        · simp only [forall_eq] at ff
          exact ff
        · exact (h2.1 1 (by simp) (by decide)).1.trans (fv.1 1 (by decide) (by decide)).1
        · exact (h2.1 5 (by simp) (by decide)).1.trans (fv.1 5 (by decide) (by decide)).1
        · exact (h2.2 6 (by decide)).trans (fv.2 6 (by simp))
      · rw [g4] at h1
        simp at h1
/-- the water leaves on both sides: from the drum d1 and from the reference's load -/
theorem op_drain {d1 : Nat} (h32 : 32 ≤ d1) {a m : mw_M} {n p c0 : Nat} {f : Nat → Nat → Nat} {t s c : Int32} (hL : LOK n f c0) (hX : XL d1 a n f c0) (hM : ML m n f c0) (hR : RLaws a m) (hp : p ≤ 1200) {Q : mw_M → mw_M → Prop} (hQ : ∀ u v f', FX (SD d1) a u → (∀ b, LB b → u.1 b 2 = a.1 b 2) → FM [1, 13] SM m v → LOK n f' c0 → XL d1 u n f' c0 → ML v n f' c0 → Q u v) : P4_drain d1 (lopN n f c0) (nI p) t s c a (fun u => P11_waterLeaves (nI p) t s c m (fun v => Q u v)) := by
  obtain ⟨W, hW⟩ := hR.wat
  have h0 : fDr W f p t (lopN n f c0) s c 0 = f := by
    funext w k
    unfold fDr
    rw [if_neg (by omega)]
  refine ⟨n + 1, x_drainL h32 hL hW hp (fun u h1 h2 h3 => ?_) n 0 a (by omega) FX.rf (fun _ _ => rfl) (by rw [h0]; exact hX)⟩
  unfold P11_waterLeaves
  refine s11_lopsided hL hM ⟨n + 1, m_leavesL hL hW hp (fun v h4 h5 => ?_) n 0 m (by omega) FM.rf (by rw [h0]; exact hM)⟩
  exact hQ u v _ h1 h2 h4 (fDr_ok hL n) h3 h5
