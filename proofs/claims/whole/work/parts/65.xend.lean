/-! a tick of the class, its second half -/
def NOK (be da de no wa fl i g : Nat) : Prop := be ≤ 900 ∧ (1 ≤ da ∧ da ≤ 9999) ∧ de ≤ 9 ∧ no ≤ 50 ∧ wa ≤ 9999 ∧ fl ≤ 4 ∧ i < fl ∧ g ≤ 999
def MCx (a : mw_M) (be da de no wa fl i g : Nat) (sx sy : Int32) : Prop := (a.1 11 0 = nI be ∧ a.1 11 1 = nI da ∧ a.1 11 2 = nI de ∧ a.1 11 3 = nI no ∧ a.1 11 4 = nI wa ∧ a.1 11 8 = nI fl) ∧ a.1 12 i = nI g ∧ a.1 13 i = sx ∧ a.1 14 i = sy
def MCm (m : mw_M) (be da de no wa fl i g : Nat) (sx sy : Int32) : Prop := (m.1 6 0 = nI be ∧ m.1 6 1 = nI da ∧ m.1 6 2 = nI de ∧ m.1 6 3 = nI no ∧ m.1 6 4 = nI wa ∧ m.1 0 9 = nI fl) ∧ m.1 7 i = nI g ∧ m.1 8 i = sx ∧ m.1 9 i = sy
theorem MCx.fw {b : Nat} (h32 : 32 ≤ b) {a u : mw_M} {be da de no wa fl i g : Nat} {sx sy : Int32} (h : MCx a be da de no wa fl i g sx sy) (hf : FW b a u) : MCx u be da de no wa fl i g sx sy := by
  unfold MCx at h ⊢
  rw [hf.at h32 (show 11 < 19 ∨ _ by omega), hf.at h32 (show 12 < 19 ∨ _ by omega), hf.at h32 (show 13 < 19 ∨ _ by omega), hf.at h32 (show 14 < 19 ∨ _ by omega)]
  exact h
theorem tl_row {b t k : Nat} {lop sh : Int32} {μ : mw_M} (h1 : k ≠ b) (h2 : k < b + 7 ∨ b + 12 ≤ k) : (tlM b t lop sh μ).1 k = μ.1 k := by
  unfold tlM
  rw [mw_I_row h1, mw_I_row (by omega), mw_I_row (by omega), mw_I_row (by omega), mw_I_row (by omega), mw_I_row (by omega), mw_I_row h1]
theorem tl_b {b t j : Nat} {lop sh : Int32} {μ : mw_M} (h1 : j ≠ 12) (h2 : j ≠ 15) : (tlM b t lop sh μ).1 b j = μ.1 b j := by
  unfold tlM
  rw [mw_I_nj h1, mw_I_ne (by omega), mw_I_ne (by omega), mw_I_ne (by omega), mw_I_ne (by omega), mw_I_ne (by omega), mw_I_nj h2]
theorem tl_12 {b t : Nat} {lop sh : Int32} {μ : mw_M} : (tlM b t lop sh μ).1 b 12 = nI (t + 1) := mw_I_eq
theorem tl_15 {b t : Nat} {lop sh : Int32} {μ : mw_M} : (tlM b t lop sh μ).1 b 15 = mw_max (μ.1 b 15) (mw_abs (μ.1 b 5) + mw_abs (μ.1 b 6)) := by
  unfold tlM
  rw [mw_I_nj (by decide), mw_I_ne (by omega), mw_I_ne (by omega), mw_I_ne (by omega), mw_I_ne (by omega), mw_I_ne (by omega), mw_I_eq]
theorem tl_k {b t w j : Nat} {lop sh : Int32} {μ : mw_M} (hw : w < 5) : (tlM b t lop sh μ).1 (b + 7 + w) j = if j = t then kvN (μ.1 b 13) lop sh (μ.1 b 5) (μ.1 b 6) w else μ.1 (b + 7 + w) j := by
  unfold tlM
  rw [mw_I_ne (by omega)]
  rcases (show w = 0 ∨ w = 1 ∨ w = 2 ∨ w = 3 ∨ w = 4 by omega) with rfl | rfl | rfl | rfl | rfl
  · rw [mw_I_ne (by omega), mw_I_ne (by omega), mw_I_ne (by omega), mw_I_ne (by omega), mw_I_get, mw_I_ne (by omega)]
    simp [kvN]
  · rw [mw_I_ne (by omega), mw_I_ne (by omega), mw_I_ne (by omega), mw_I_get, mw_I_ne (by omega), mw_I_ne (by omega)]
    simp [kvN]
  · rw [mw_I_ne (by omega), mw_I_ne (by omega), mw_I_get, mw_I_ne (by omega), mw_I_ne (by omega), mw_I_ne (by omega)]
    simp [kvN]
  · rw [mw_I_ne (by omega), mw_I_get, mw_I_ne (by omega), mw_I_ne (by omega), mw_I_ne (by omega), mw_I_ne (by omega)]
    simp [kvN]
  · rw [mw_I_get, mw_I_ne (by omega), mw_I_ne (by omega), mw_I_ne (by omega), mw_I_ne (by omega), mw_I_ne (by omega)]
    simp [kvN]
theorem slW_ne : ∀ k, k < 9 → slW k ≠ 12 ∧ slW k ≠ 15 := by decide
theorem tl_XG {b t n c0 : Nat} {μ : mw_M} {r : Nat → Int32} {h0 : Int32} {KF : Nat → Nat → Int32} {f : Nat → Nat → Nat} {lop sh : Int32} (h : XG b μ r h0 KF n c0 t f) (hK : ∀ w, w < 5 → KF t w = kvN (r 3) lop sh (r 1) (r 2) w) : XG b (tlM b t lop sh μ) (setR r 9 (mw_max (r 9) (mw_abs (r 1) + mw_abs (r 2)))) h0 KF n c0 (t + 1) f := by
  have g1 := h.2.1 1 (by decide)
  have g2 := h.2.1 2 (by decide)
  have g3 := h.2.1 3 (by decide)
  have g9 := h.2.1 9 (by decide)
  simp only [slW] at g1 g2 g3 g9
  refine ⟨xl_rows h.1 (fun k _ _ => tl_row (by omega) (by omega)), fun k hk => ?_, ?_, fun w j hw hj => ?_⟩
  · by_cases e : k = 9
    · subst e
      show (tlM b t lop sh μ).1 b 15 = _
      rw [tl_15, g1, g2, g9]
      rfl
    · have := slW_ne k (by omega)
      rw [tl_b this.1 this.2, h.2.1 k hk]
      unfold setR
      rw [if_neg e]
  · rw [tl_b (by decide) (by decide)]; exact h.2.2.1
  · rw [tl_k hw, g1, g2, g3]
    by_cases e : j = t
    · rw [if_pos e, e, hK w hw]
    · rw [if_neg e]; exact h.2.2.2 w j hw (by omega)
theorem skn_XG {b t n c0 : Nat} {μ : mw_M} {r : Nat → Int32} {h0 : Int32} {KF : Nat → Nat → Int32} {f : Nat → Nat → Nat} {sh : Int32} (h : XG b μ r h0 KF n c0 t f) : XG b (sknM b sh μ) (if sh ≤ 500 then r else setR r 6 (r 6 + 1)) h0 KF n c0 t f := by
  have g := h.2.1 6 (by decide)
  simp only [slW] at g
  unfold sknM
  by_cases c : sh ≤ 500
  · rw [if_pos c, if_pos c]; exact h
  · rw [if_neg c, if_neg c, g]; exact h.I 6 (by decide) rfl
theorem shp_XG {b t n c0 g a : Nat} {μ : mw_M} {r : Nat → Int32} {h0 : Int32} {KF : Nat → Nat → Int32} {f : Nat → Nat → Nat} {sh sx sy : Int32} (h : XG b μ r h0 KF n c0 t f) : XG b (shpM b g a sh sx sy μ) (if nI g < sh then setR (setR (setR r 7 (r 7 + 1)) 1 (held (r 1 + co a * (sh - nI g) / 1000 + sx))) 2 (held (r 2 + si a * (sh - nI g) / 1000 + sy)) else r) h0 KF n c0 t f := by
  have g1 := h.2.1 1 (by decide)
  have g2 := h.2.1 2 (by decide)
  have g7 := h.2.1 7 (by decide)
  simp only [slW] at g1 g2 g7
  unfold shpM hpM
  by_cases c : nI g < sh
  · rw [if_pos c, if_pos c, g1, g2, g7]
    exact ((h.I 7 (by decide) rfl).I 1 (by decide) rfl).I 2 (by decide) rfl
  · rw [if_neg c, if_neg c]; exact h
theorem tl_FW {b t : Nat} (h32 : 32 ≤ b) {lop sh : Int32} {a μ : mw_M} (h : FW b a μ) : FW b a (tlM b t lop sh μ) := ((((((h.I h32 (by simp [SW]) (by omega)).I h32 (by simp [SW]) (by omega)).I h32 (by simp [SW]) (by omega)).I h32 (by simp [SW]) (by omega)).I h32 (by simp [SW]) (by omega)).I h32 (by simp [SW]) (by omega)).I h32 (by simp [SW]) (by omega)
theorem skn_FW {b : Nat} (h32 : 32 ≤ b) {sh : Int32} {a μ : mw_M} (h : FW b a μ) : FW b a (sknM b sh μ) := by
  unfold sknM
  split
  · exact h
  · exact h.I h32 (by simp [SW]) (by omega)
theorem shp_FW {b g k : Nat} (h32 : 32 ≤ b) {sh sx sy : Int32} {a μ : mw_M} (h : FW b a μ) : FW b a (shpM b g k sh sx sy μ) := by
  unfold shpM hpM
  split
  · exact ((h.I h32 (by simp [SW]) (by omega)).I h32 (by simp [SW]) (by omega)).I h32 (by simp [SW]) (by omega)
  · exact h
def xEnd (b : Nat) (p3 p4 v3 tum : Int32) (μ20 : mw_M) (L : Int32 → Int32 → Int32 → mw_M → Prop) : Prop := P2_lopsided (b + 1) μ20 (fun r21 => P9_shakeAndHop b v3 p3 r21 μ20 (fun μ23 => (((μ23.1 b 14) = (-2) → (((μ23.1 b 13) < p4 → (∀ x27 : Int32, x27 = v3 + 1 → L x27 tum r21 μ23)) ∧ (¬ (μ23.1 b 13) < p4 → (∀ μ28 : mw_M, μ28 = mw_I μ23 b 14 v3 → (∀ x29 : Int32, x29 = v3 + 1 → L x29 tum r21 μ28))))) ∧ (¬ (μ23.1 b 14) = (-2) → (∀ x25 : Int32, x25 = v3 + 1 → L x25 tum r21 μ23)))))
theorem x_end {b t : Nat} (h32 : 32 ≤ b) (ht : t < 200) {u : mw_M} {n c0 be da de no wa fl i g p : Nat} {sx sy goal tum : Int32} {f : Nat → Nat → Nat} {r h : Nat → Int32} {h0 : Int32} {KF : Nat → Nat → Int32} (hN : NOK be da de no wa fl i g) (hM : MCx u be da de no wa fl i g sx sy) (hL : LOK n f c0) (hX : XG b u r h0 KF n c0 t f) (hp : p ≤ 1200) (h3 : r 3 = nI p) (hK : ∀ w, w < 5 → KF t w = kpN (endN n c0 be da g sx sy goal t p f (r 0) (r 4) (r 5) tum r h) t w) {L : Int32 → Int32 → Int32 → mw_M → Prop} (hQ : ∀ u', FW b u u' → XG b u' (endN n c0 be da g sx sy goal t p f (r 0) (r 4) (r 5) tum r h).1 h0 KF n c0 (t + 1) f → u'.1 b 12 = nI (t + 1) → L (nI (t + 1)) tum (lopN n f c0) u') : xEnd b (nI i) goal (nI t) tum u L := by
  obtain ⟨n1, n2, n3, n4, n5, n6, n7, n8⟩ := hN
  obtain ⟨⟨m0, m1, m2, m3, m4, m8⟩, m12, m13, m14⟩ := hM
  have h13 : u.1 b 13 = nI p := by rw [← h3]; exact hX.2.1 3 (by decide)
  unfold xEnd
  refine s2_lopsided hL hX.1 (s9_shake h32 ht hL hX.1 n1 n2 hp m0 m1 n6 m8 n7 n8 m12 m13 m14 h13 ?_)
  generalize es : shS be da (lopN n f c0) p = s at *
  have X1 := shp_XG (g := g) (a := sideN n f c0) (sh := s) (sx := sx) (sy := sy) (skn_XG (sh := s) hX)
  have F1 : FW b u (tlM b t (lopN n f c0) s (shpM b g (sideN n f c0) s sx sy (sknM b s u))) := tl_FW h32 (shp_FW h32 (skn_FW h32 FW.rf))
  generalize er : (if nI g < s then setR (setR (setR (if s ≤ 500 then r else setR r 6 (r 6 + 1)) 7 ((if s ≤ 500 then r else setR r 6 (r 6 + 1)) 7 + 1)) 1 (held ((if s ≤ 500 then r else setR r 6 (r 6 + 1)) 1 + co (sideN n f c0) * (s - nI g) / 1000 + sx))) 2 (held ((if s ≤ 500 then r else setR r 6 (r 6 + 1)) 2 + si (sideN n f c0) * (s - nI g) / 1000 + sy)) else (if s ≤ 500 then r else setR r 6 (r 6 + 1))) = r2 at X1
  have R : ∀ k, k < 9 → k ≠ 8 → r2 k = (endN n c0 be da g sx sy goal t p f (r 0) (r 4) (r 5) tum r h).1 k := by
    intro k hk k8
    subst er
    unfold endN
    simp only [es]
    rcases (show k = 0 ∨ k = 1 ∨ k = 2 ∨ k = 3 ∨ k = 4 ∨ k = 5 ∨ k = 6 ∨ k = 7 by omega) with rfl | rfl | rfl | rfl | rfl | rfl | rfl | rfl
    all_goals
      by_cases c1 : s ≤ 500
      · by_cases c2 : nI g < s
        · simp (config := { decide := true }) only [c1, c2, if_true, if_false, setR, h3]
        · simp (config := { decide := true }) only [c1, c2, if_true, if_false, setR, h3]
      · by_cases c2 : nI g < s
        · simp (config := { decide := true }) only [c1, c2, if_true, if_false, setR, h3]
        · simp (config := { decide := true }) only [c1, c2, if_true, if_false, setR, h3]
  have R8 : r2 8 = r 8 := by
    subst er
    by_cases c1 : s ≤ 500
    · by_cases c2 : nI g < s
      · simp (config := { decide := true }) only [c1, c2, if_true, if_false, setR]
      · simp (config := { decide := true }) only [c1, c2, if_true, if_false, setR]
    · by_cases c2 : nI g < s
      · simp (config := { decide := true }) only [c1, c2, if_true, if_false, setR]
      · simp (config := { decide := true }) only [c1, c2, if_true, if_false, setR]
  have R9 : r2 9 = r 9 := by
    subst er
    by_cases c1 : s ≤ 500
    · by_cases c2 : nI g < s
      · simp (config := { decide := true }) only [c1, c2, if_true, if_false, setR]
      · simp (config := { decide := true }) only [c1, c2, if_true, if_false, setR]
    · by_cases c2 : nI g < s
      · simp (config := { decide := true }) only [c1, c2, if_true, if_false, setR]
      · simp (config := { decide := true }) only [c1, c2, if_true, if_false, setR]
  have E9 : (endN n c0 be da g sx sy goal t p f (r 0) (r 4) (r 5) tum r h).1 9 = mw_max (r 9) (mw_abs (r2 1) + mw_abs (r2 2)) := by
    rw [R 1 (by decide) (by decide), R 2 (by decide) (by decide)]
    unfold endN
    simp (config := { decide := true }) only [if_true, if_false]
  have E8 : (endN n c0 be da g sx sy goal t p f (r 0) (r 4) (r 5) tum r h).1 8 = if r 8 = -2 ∧ ¬ nI p < goal then nI t else r 8 := by
    unfold endN
    simp (config := { decide := true }) only [if_true, if_false]
  have E11 : (endN n c0 be da g sx sy goal t p f (r 0) (r 4) (r 5) tum r h).1 11 = s := by
    unfold endN
    simp (config := { decide := true }) only [if_true, if_false]
    exact es
  have EL : (endN n c0 be da g sx sy goal t p f (r 0) (r 4) (r 5) tum r h).2.2 (t + 1) = lopN n f c0 := if_pos rfl
  have X2 := tl_XG (lop := lopN n f c0) (sh := s) X1 (fun w hw => by
    rw [hK w hw]
    unfold kpN
    rw [E11, EL, ← R 1 (by decide) (by decide), ← R 2 (by decide) (by decide), ← R 3 (by decide) (by decide)])
  have T12 : (tlM b t (lopN n f c0) s (shpM b g (sideN n f c0) s sx sy (sknM b s u))).1 b 12 = nI (t + 1) := tl_12
  generalize tlM b t (lopN n f c0) s (shpM b g (sideN n f c0) s sx sy (sknM b s u)) = v at X2 F1 T12 ⊢
  have v8 : v.1 b 14 = r 8 := by
    have := X2.2.1 8 (by decide)
    unfold setR at this
    rw [if_neg (by decide), R8] at this
    exact this
  have v3 : v.1 b 13 = nI p := by
    have := X2.2.1 3 (by decide)
    unfold setR at this
    rw [if_neg (by decide), R 3 (by decide) (by decide)] at this
    exact this
  rw [v8, v3]
  have et : ∀ x : Int32, x = nI t + 1 → x = nI (t + 1) := fun x hx => hx.trans (nI_add t 1)
  have fin : ¬ (r 8 = -2 ∧ ¬ nI p < goal) → L (nI (t + 1)) tum (lopN n f c0) v := fun c => by
    refine hQ v F1 (X2.cong (fun k hk => ?_) (fun _ _ _ _ => rfl)) T12
    by_cases e9 : k = 9
    · rw [e9, E9, ← R9]; exact if_pos rfl
    · unfold setR
      rw [if_neg e9]
      by_cases e8 : k = 8
      · rw [e8, E8, if_neg c, R8]
      · exact R k (by omega) e8
  refine ⟨fun c8 => ⟨fun cg x hx => ?_, fun cg μ28 e28 x hx => ?_⟩, fun c8 x hx => ?_⟩
  · rw [et x hx]
    exact fin (fun q => q.2 cg)
  · rw [et x hx, e28]
    refine hQ _ (F1.I h32 (by simp [SW]) (by omega)) ((X2.I 8 (by decide) rfl).cong (fun k hk => ?_) (fun _ _ _ _ => rfl)) (by rw [mw_I_nj (by decide)]; exact T12)
    by_cases e8 : k = 8
    · rw [e8, E8, if_pos ⟨c8, cg⟩]
      exact if_pos rfl
    · unfold setR
      rw [if_neg e8]
      by_cases e9 : k = 9
      · rw [e9, E9, if_pos rfl, R9]
      · rw [if_neg e9]
        exact R k (by omega) e8
  · rw [et x hx]
    exact fin (fun q => c8 q.1)
