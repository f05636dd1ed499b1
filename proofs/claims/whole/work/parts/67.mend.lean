/-! a tick of the reference, its second half -/
def slV : Nat → Nat
  | 0 => 25 | 1 => 39 | 2 => 40 | 4 => 36 | 5 => 35 | 6 => 33 | 7 => 34 | 8 => 37 | _ => 38
def MW (m : mw_M) (r : Nat → Int32) (n c0 : Nat) (f : Nat → Nat → Nat) : Prop := ML m n f c0 ∧ ∀ k, k < 10 → k ≠ 3 → m.1 0 (slV k) = r k
theorem slV_inj : ∀ k, k < 10 → ∀ j, j < 10 → k ≠ 3 → j ≠ 3 → slV k = slV j → k = j := by decide
theorem slV_6 : ∀ k, k < 10 → 6 ≠ slV k := by decide
theorem MW.O {m : mw_M} {r : Nat → Int32} {n c0 : Nat} {f : Nat → Nat → Nat} (h : MW m r n c0 f) (k : Nat) (hk : k < 10) (k3 : k ≠ 3) {j : Nat} (hj : j = slV k) {v : Int32} : MW (mw_I m 0 j v) (setR r k v) n c0 f := by
  subst hj
  refine ⟨ml_rows h.1 (mw_I_row (by decide)) (mw_I_row (by decide)) (mw_I_nj (slV_6 k hk)), fun q hq q3 => ?_⟩
  unfold setR
  rw [mw_I_get]
  by_cases e : q = k
  · subst e; rw [if_pos ⟨rfl, rfl⟩, if_pos rfl]
  · rw [if_neg (fun z => e (slV_inj q hq k hk q3 k3 z.2)), if_neg e]; exact h.2 q hq q3
theorem MW.cong {m : mw_M} {r r' : Nat → Int32} {n c0 : Nat} {f : Nat → Nat → Nat} (h : MW m r n c0 f) (e : ∀ k, k < 10 → k ≠ 3 → r k = r' k) : MW m r' n c0 f := ⟨h.1, fun k hk k3 => (h.2 k hk k3).trans (e k hk k3)⟩
theorem MW.fr {m v : mw_M} {r : Nat → Int32} {n c0 : Nat} {f : Nat → Nat → Nat} (h : MW m r n c0 f) (e0 : v.1 0 = m.1 0) (e1 : v.1 1 = m.1 1) (e5 : v.1 5 = m.1 5) : MW v r n c0 f := ⟨ml_rows h.1 e1 e5 (by rw [e0]), fun k hk k3 => by rw [e0]; exact h.2 k hk k3⟩
theorem MW.ld {m v : mw_M} {r : Nat → Int32} {n c0 : Nat} {f f' : Nat → Nat → Nat} (h : MW m r n c0 f) (hM : ML v n f' c0) (e : ∀ k, k < 10 → k ≠ 3 → v.1 0 (slV k) = m.1 0 (slV k)) : MW v r n c0 f' := ⟨hM, fun k hk k3 => (e k hk k3).trans (h.2 k hk k3)⟩
def SV : List Nat := [1, 13, 15, 16, 17, 18, 19, 20]
def JV : List Nat := [19, 20, 21, 22, 23, 25, 33, 34, 35, 36, 37, 38, 39, 40]
def mFar (r7 : Int32) (μ21 : mw_M) (Q : Int32 → mw_M → Prop) : Prop := P11_size (μ21.1 0 39) (fun r22 => P11_size (μ21.1 0 40) (fun r24 => (∀ x26 : Int32, x26 = (r22 + r24) → ((x26 ≤ (μ21.1 0 38) → (∀ μ28 : mw_M, μ28 = mw_I μ21 0 38 (μ21.1 0 38) → Q r7 μ28)) ∧ (¬ x26 ≤ (μ21.1 0 38) → (∀ μ29 : mw_M, μ29 = mw_I μ21 0 38 x26 → Q r7 μ29))))))
theorem m_far {r7 : Int32} {μ : mw_M} {Q : Int32 → mw_M → Prop} (hQ : Q r7 (mw_I μ 0 38 (mw_max (μ.1 0 38) (mw_abs (μ.1 0 39) + mw_abs (μ.1 0 40))))) : mFar r7 μ Q := by
  unfold mFar
  refine s11_size (s11_size ?_)
  intro x e
  subst e
  unfold mw_max at hQ
  refine ⟨fun h μ' e => ?_, fun h μ' e => ?_⟩
  · rw [if_neg (by rw [zle] at h; rw [zlt]; omega)] at hQ
    rw [e]; exact hQ
  · rw [if_pos (by rw [zle] at h; rw [zlt]; omega)] at hQ
    rw [e]; exact hQ
def mDone (r7 p3 p4 : Int32) (μ17 : mw_M) (Q : Int32 → mw_M → Prop) : Prop := ((0 ≤ (μ17.1 0 37) → (∀ μ21 : mw_M, μ21 = mw_I μ17 0 37 (μ17.1 0 37) → mFar r7 μ21 Q)) ∧ (¬ 0 ≤ (μ17.1 0 37) → ((r7 < p3 → (∀ μ31 : mw_M, μ31 = mw_I μ17 0 37 (μ17.1 0 37) → mFar r7 μ31 Q)) ∧ (¬ r7 < p3 → (∀ μ40 : mw_M, μ40 = mw_I μ17 0 37 p4 → mFar r7 μ40 Q)))))
def mHop (r7 p2 p3 p4 r14 : Int32) (μ17 : mw_M) (Q : Int32 → mw_M → Prop) : Prop := (vp_in p2 4 ∧ ((r14 ≤ (μ17.1 7 p2.toNatClampNeg) → mDone r7 p3 p4 μ17 Q) ∧ (¬ r14 ≤ (μ17.1 7 p2.toNatClampNeg) → P11_hopsOn p2 r14 μ17 (fun μ49 => mDone r7 p3 p4 μ49 Q))))
def mEnd (r7 p2 p3 p4 : Int32) (μ11 : mw_M) (Q : Int32 → mw_M → Prop) : Prop := P11_lopsided μ11 (fun r12 => P11_shakeOf r12 r7 μ11 (fun r14 => ((r14 ≤ 500 → (∀ μ17 : mw_M, μ17 = mw_I μ11 0 33 ((μ11.1 0 33) + 0) → mHop r7 p2 p3 p4 r14 μ17 Q)) ∧ (¬ r14 ≤ 500 → (∀ μ79 : mw_M, μ79 = mw_I μ11 0 33 ((μ11.1 0 33) + 1) → mHop r7 p2 p3 p4 r14 μ79 Q)))))
theorem m_done {r7 p3 p4 : Int32} {μ : mw_M} {d : Int32} (hd : μ.1 0 37 = d) (h8 : d = -2 ∨ ∃ k : Nat, k < 200 ∧ d = nI k) {Q : Int32 → mw_M → Prop} (hQ : Q r7 (mw_I (mw_I μ 0 37 (if d = -2 ∧ ¬ r7 < p3 then p4 else d)) 0 38 (mw_max (μ.1 0 38) (mw_abs (μ.1 0 39) + mw_abs (μ.1 0 40))))) : mDone r7 p3 p4 μ Q := by
  unfold mDone
  rw [hd]
  have g : ∀ x, Q r7 (mw_I (mw_I μ 0 37 x) 0 38 (mw_max (μ.1 0 38) (mw_abs (μ.1 0 39) + mw_abs (μ.1 0 40)))) → ∀ μ', μ' = mw_I μ 0 37 x → mFar r7 μ' Q := fun x hx μ' e => by
    subst e
    refine m_far ?_
    rw [mw_I_nj (show 38 ≠ 37 by decide), mw_I_nj (show 39 ≠ 37 by decide), mw_I_nj (show 40 ≠ 37 by decide)]
    exact hx
  rcases h8 with e | ⟨k, hk, e⟩
  · refine ⟨fun h => absurd h (by rw [e]; decide), fun _ => ⟨fun c => g _ ?_, fun c => g _ ?_⟩⟩
    · rw [if_neg (fun z => z.2 c)] at hQ; exact hQ
    · rw [if_pos ⟨e, c⟩] at hQ; exact hQ
  · have n2 : ¬ d = -2 := by
      rw [e, zeq, nI_toInt (by omega), show (-2 : Int32).toInt = -2 from rfl]
      omega
    refine ⟨fun _ => g _ ?_, fun h => absurd ?_ h⟩
    · rw [if_neg (fun z => n2 z.1)] at hQ; exact hQ
    · rw [e]; exact nI_le (a := 0) (by omega) (by omega)
def hqM (x1 y1 : Int32) (μ : mw_M) : mw_M := mw_I (mw_I (mw_I μ 0 34 (μ.1 0 34 + 1)) 0 39 x1) 0 40 y1
def hopM (g a : Nat) (sh sx sy : Int32) (μ : mw_M) : mw_M := if nI g < sh then hqM (held (μ.1 0 39 + co a * (sh - nI g) / 1000 + sx)) (held (μ.1 0 40 + si a * (sh - nI g) / 1000 + sy)) μ else μ
theorem m_hop {i g n c0 : Nat} {f : Nat → Nat → Nat} {p r7 p3 p4 sh sx sy d : Int32} {μ : mw_M} (hL : LOK n f c0) (hM : ML μ n f c0) (hi : i < 4) (h7 : μ.1 7 i = nI g) (hx : μ.1 8 i = sx) (hy : μ.1 9 i = sy) (hd : μ.1 0 37 = d) (h8 : d = -2 ∨ ∃ k : Nat, k < 200 ∧ d = nI k) {Q : Int32 → mw_M → Prop} (hQ : ∀ w, w = hopM g (sideN n f c0) sh sx sy μ → Q r7 (mw_I (mw_I w 0 37 (if d = -2 ∧ ¬ r7 < p3 then p4 else d)) 0 38 (mw_max (w.1 0 38) (mw_abs (w.1 0 39) + mw_abs (w.1 0 40))))) : mHop r7 (nI i) p3 p4 sh μ Q := by
  unfold mHop
  rw [nI_clamp (by omega), h7]
  refine ⟨vp_in_nI hi (by decide), fun c => ?_, fun c => ?_⟩
  · exact m_done hd h8 (hQ _ (by unfold hopM; rw [if_neg (by rw [zle] at c; rw [zlt]; omega)]))
  · have c2 : nI g < sh := by rw [zle] at c; rw [zlt]; omega
    refine s11_hopsOn hL hM side_lt hi h7 hx hy ?_
    refine m_done (d := d) ?_ h8 (hQ _ ?_)
    · rw [mw_I_nj (by decide), mw_I_nj (by decide), mw_I_nj (by decide)]; exact hd
    · unfold hopM hqM; rw [if_pos c2]
theorem hop_MW {n c0 g a : Nat} {μ : mw_M} {r : Nat → Int32} {f : Nat → Nat → Nat} {sh sx sy : Int32} (h : MW μ r n c0 f) : MW (hopM g a sh sx sy μ) (if nI g < sh then setR (setR (setR r 7 (r 7 + 1)) 1 (held (r 1 + co a * (sh - nI g) / 1000 + sx))) 2 (held (r 2 + si a * (sh - nI g) / 1000 + sy)) else r) n c0 f := by
  have g1 := h.2 1 (by decide) (by decide)
  have g2 := h.2 2 (by decide) (by decide)
  have g7 := h.2 7 (by decide) (by decide)
  simp only [slV] at g1 g2 g7
  unfold hopM hqM
  by_cases c : nI g < sh
  · rw [if_pos c, if_pos c, g1, g2, g7]
    exact ((h.O 7 (by decide) (by decide) rfl).O 1 (by decide) (by decide) rfl).O 2 (by decide) (by decide) rfl
  · rw [if_neg c, if_neg c]; exact h
theorem hop_FM {g a : Nat} {m μ : mw_M} {sh sx sy : Int32} (h : FM SV JV m μ) : FM SV JV m (hopM g a sh sx sy μ) := by
  unfold hopM hqM
  split
  · exact ((h.O (by decide)).O (by decide)).O (by decide)
  · exact h
theorem MCm.fm {m v : mw_M} {be da de no wa fl i g : Nat} {sx sy : Int32} (h : MCm m be da de no wa fl i g sx sy) (hf : FM SV JV m v) : MCm v be da de no wa fl i g sx sy := by
  unfold MCm at h ⊢
  rw [(hf.1 6 (by decide) (by decide)).1, (hf.1 7 (by decide) (by decide)).1, (hf.1 8 (by decide) (by decide)).1, (hf.1 9 (by decide) (by decide)).1, hf.2 9 (by decide)]
  exact h
theorem m_end {t : Nat} {m u : mw_M} {n c0 be da de no wa fl i g p : Nat} {sx sy goal tum : Int32} {f : Nat → Nat → Nat} {r h : Nat → Int32} (hN : NOK be da de no wa fl i g) (hC : MCm u be da de no wa fl i g sx sy) (hF : FM SV JV m u) (hL : LOK n f c0) (hX : MW u r n c0 f) (hp : p ≤ 1200) (h8 : r 8 = -2 ∨ ∃ k : Nat, k < 200 ∧ r 8 = nI k) {Q : Int32 → mw_M → Prop} (hQ : ∀ v, FM SV JV m v → (∀ k, k ≠ 0 → v.1 k = u.1 k) → MW v (endN n c0 be da g sx sy goal t p f (r 0) (r 4) (r 5) tum r h).1 n c0 f → Q (nI p) v) : mEnd (nI p) (nI i) goal (nI t) u Q := by
  obtain ⟨n1, n2, n3, n4, n5, n6, n7, n8⟩ := hN
  obtain ⟨⟨m0, m1, m2, m3, m4, m9⟩, m7, mx, my⟩ := hC
  unfold mEnd
  refine s11_lopsided hL hX.1 (s11_shakeOf n1 n2 hp m0 m1 ?_)
  generalize es : shS be da (lopN n f c0) p = s
  have q33 := hX.2 6 (by decide) (by decide)
  simp only [slV] at q33
  rw [q33, Int32.add_zero]
  have key : ∀ w r1, FM SV JV m w → MW w r1 n c0 f → (∀ k, k ≠ 0 → w.1 k = u.1 k) → r1 = setR r 6 (if s ≤ 500 then r 6 else r 6 + 1) → mHop (nI p) (nI i) goal (nI t) s w Q := by
    intro w r1 fw hw hk e1
    have w37 : w.1 0 37 = r 8 := by
      have := hw.2 8 (by decide) (by decide)
      rw [e1] at this
      exact this
    refine m_hop (sx := sx) (sy := sy) (p := 0) hL hw.1 (by omega) (by rw [hk 7 (by decide)]; exact m7) (by rw [hk 8 (by decide)]; exact mx) (by rw [hk 9 (by decide)]; exact my) w37 h8 (fun x ex => ?_)
    have X1 := hop_MW (g := g) (a := sideN n f c0) (sh := s) (sx := sx) (sy := sy) hw
    have F1 := hop_FM (g := g) (a := sideN n f c0) (sh := s) (sx := sx) (sy := sy) fw
    have K1 : ∀ k, k ≠ 0 → (hopM g (sideN n f c0) s sx sy w).1 k = u.1 k := fun k k0 => by
      unfold hopM hqM
      split
      · rw [mw_I_row k0, mw_I_row k0, mw_I_row k0]; exact hk k k0
      · exact hk k k0
    rw [← ex] at X1 F1 K1
    have z38 : x.1 0 38 = r 9 := by
      have := X1.2 9 (by decide) (by decide)
      rw [e1] at this
      refine this.trans ?_
      split <;> rfl
    have z39 := X1.2 1 (by decide) (by decide)
    have z40 := X1.2 2 (by decide) (by decide)
    simp only [slV] at z39 z40
    rw [z38, z39, z40]
    refine hQ _ ((F1.O (by decide)).O (by decide)) (fun k k0 => by rw [mw_I_row k0, mw_I_row k0]; exact K1 k k0) (((X1.O 8 (by decide) (by decide) rfl).O 9 (by decide) (by decide) rfl).cong (fun k hk k3 => ?_))
    unfold endN
    simp only [es]
    subst e1
    rcases (show k = 0 ∨ k = 1 ∨ k = 2 ∨ k = 4 ∨ k = 5 ∨ k = 6 ∨ k = 7 ∨ k = 8 ∨ k = 9 by omega) with rfl | rfl | rfl | rfl | rfl | rfl | rfl | rfl | rfl
    all_goals
      by_cases c2 : nI g < s
      · simp (config := { decide := true }) only [c2, if_true, if_false, setR]
      · simp (config := { decide := true }) only [c2, if_true, if_false, setR]
  refine ⟨fun c μ17 e => ?_, fun c μ17 e => ?_⟩
  · exact key μ17 _ (by rw [e]; exact hF.O (by decide)) (by rw [e]; exact hX.O 6 (by decide) (by decide) rfl) (fun k k0 => by rw [e, mw_I_row k0]) (by rw [if_pos c])
  · exact key μ17 _ (by rw [e]; exact hF.O (by decide)) (by rw [e]; exact hX.O 6 (by decide) (by decide) rfl) (fun k k0 => by rw [e, mw_I_row k0]) (by rw [if_neg c])
