/-! never -/
def nvO (ls : List LN) (goal : Int32) (v i j : Nat) : Prop := ¬ (v ≤ 50 * j ∧ 300 < pcN ls (nI (100 * i)) 0 (nI (50 * j)) goal 0 0)
def nvA (ls : List LN) (goal : Int32) (v : Nat) : Prop := ∀ i, i < 12 → ∀ j, j < 20 → nvO ls goal v i j
theorem s4_paceF {b : Nat} (h32 : 32 ≤ b) {a : mw_M} {i nl : Nat} {ls : List LN} (hl : LAWl a i ls) (hnl : nl ≤ 4) (h3 : a.1 15 3 = nI nl) (hi : i < nl) {p2 p3 p4 p5 p6 p7 : Int32} {Q : Int32 → mw_M → Prop} (hQ : ∀ u, FW b a u → Q (nI (pcN ls p2 p3 p4 p5 p6 p7)) u) : P4_paceBy (nI i) p2 p3 p4 p5 p6 p7 a Q := by
  refine s4_pace hl hnl h3 hi (fun u1 hu1 hj1 => hQ u1 (FW.of hu1 (fun x hx => ?_) (fun x hx => ?_)))
  · by_cases e : x = 20 + 3 * i
    · rw [e]; exact hj1 2 (by decide)
    · rw [(hu1 x (by
        have h4 := hl.1
        simp
        rcases hx with rfl | rfl | rfl | rfl <;> omega)).1]
  · have h4 := hl.1
    simp [SW] at hx ⊢
    omega
theorem x_nvI {a : mw_M} {ls : List LN} {li nl v i : Nat} {goal : Int32} (hl : LAWl a li ls) (hnl : nl ≤ 4) (h15 : a.1 15 3 = nI nl) (hli : li < nl) (hv : v ≤ 950) (hi : i < 12) {QT QF : mw_M → Prop} {K1 : Int32 → mw_M → Prop} (hF : ¬ nvA ls goal v → ∀ u, FW 45 a u → QF u) (hK : (∀ j, j < 20 → nvO ls goal v i j) → ∀ x u, FW 45 a u → K1 x u) : ∀ k j u, j + k = 20 → (∀ j', j' < j → nvO ls goal v i j') → FW 45 a u → L8_isCalm_14 (nI (100 * i)) (nI li) goal (nI v) QT QF K1 (k + 1) (nI (50 * j)) u := by
  intro k
  induction k with
  | zero =>
    intro j u hk hj hF'
    have e : j = 20 := by omega
    subst e
    unfold L8_isCalm_14
    exact ⟨fun _ => hK hj _ u hF', fun y => absurd (show (950 : Int32) < nI (50 * 20) by decide) y⟩
  | succ k ih =>
    intro j u hk hj hF'
    unfold L8_isCalm_14
    have e50 : ∀ x : Int32, x = nI (50 * j) + 50 → x = nI (50 * (j + 1)) := fun x hx => by
      rw [hx, show (50 : Int32) = nI 50 from rfl, nI_add]; rfl
    refine ⟨fun y => absurd y (by rw [zlt, nI_toInt (by omega)]; simp only [Int32.reduceToInt]; omega), fun _ => ⟨fun c x hx => ?_, fun c => ?_⟩⟩
    · rw [zlt, nI_toInt (by omega), nI_toInt (by omega)] at c
      rw [e50 x hx]
      refine ih (j + 1) u (by omega) (fun j' h' => ?_) hF'
      by_cases e : j' = j
      · rw [e]; exact fun q => absurd q.1 (by omega)
      · exact hj j' (by omega)
    · rw [zlt, nI_toInt (by omega), nI_toInt (by omega)] at c
      refine s4_paceF (b := 45) (by decide) (hl.fw (by decide) hF') hnl (by rw [hF'.at (by decide) (show 15 < 19 ∨ _ by omega)]; exact h15) hli (fun w fw => ?_)
      have hpc : pcN ls (nI (100 * i)) 0 (nI (50 * j)) goal 0 0 ≤ 1200 := pcN_le
      refine ⟨fun d x hx => ?_, fun d => ?_⟩
      · rw [zle, nI_toInt (by omega), show (300 : Int32).toInt = 300 from rfl] at d
        rw [e50 x hx]
        refine ih (j + 1) w (by omega) (fun j' h' => ?_) (hF'.tr fw)
        by_cases e : j' = j
        · rw [e]; exact fun q => absurd q.2 (by omega)
        · exact hj j' (by omega)
      · rw [zle, nI_toInt (by omega), show (300 : Int32).toInt = 300 from rfl] at d
        exact hF (fun q => q i hi j (by omega) ⟨by omega, by omega⟩) w (hF'.tr fw)
theorem x_nv {a : mw_M} {ls : List LN} {li nl v : Nat} {goal : Int32} (hl : LAWl a li ls) (hnl : nl ≤ 4) (h15 : a.1 15 3 = nI nl) (hli : li < nl) (hv : v ≤ 950) {QT QF : mw_M → Prop} (hT : nvA ls goal v → ∀ u, FW 45 a u → QT u) (hF : ¬ nvA ls goal v → ∀ u, FW 45 a u → QF u) : ∀ k i u, i + k = 12 → (∀ i', i' < i → ∀ j, j < 20 → nvO ls goal v i' j) → FW 45 a u → L8_isCalm_3 (nI li) goal (nI v) QT QF (k + 1) (nI (100 * i)) u := by
  intro k
  induction k with
  | zero =>
    intro i u hk hi hF'
    have e : i = 12 := by omega
    subst e
    unfold L8_isCalm_3
    exact ⟨fun _ => hT hi u hF', fun y => absurd (show (1100 : Int32) < nI (100 * 12) by decide) y⟩
  | succ k ih =>
    intro i u hk hi hF'
    unfold L8_isCalm_3
    refine ⟨fun y => absurd y (by rw [zlt, nI_toInt (by omega)]; simp only [Int32.reduceToInt]; omega), fun _ => ⟨21, x_nvI hl hnl h15 hli hv (by omega) hF (fun hj x w fw y hy => ?_) 20 0 u rfl (fun j' h' => absurd h' (Nat.not_lt_zero _)) hF'⟩⟩
    rw [hy, show (100 : Int32) = nI 100 from rfl, nI_add]
    refine ih (i + 1) w (by omega) (fun i' h' => ?_) fw
    by_cases e : i' = i
    · rw [e]; exact hj
    · exact hi i' (by omega)
theorem m_nvI {m : mw_M} {ls : List LN} {li v i : Nat} {goal : Int32} (hl : LAWm m li ls) (hv : v ≤ 950) (hi : i < 12) {Q : Int32 → mw_M → Prop} {K1 : Int32 → mw_M → Prop} (hF : ¬ nvA ls goal v → ∀ u, FM [13] SM m u → Q 0 u) (hK : (∀ j, j < 20 → nvO ls goal v i j) → ∀ x u, FM [13] SM m u → K1 x u) : ∀ k j u, j + k = 20 → (∀ j', j' < j → nvO ls goal v i j') → FM [13] SM m u → L11_never_43 (nI (100 * i)) (nI li) goal (nI v) Q K1 (k + 1) (nI (50 * j)) u := by
  intro k
  induction k with
  | zero =>
    intro j u hk hj hF'
    have e : j = 20 := by omega
    subst e
    unfold L11_never_43
    exact ⟨fun _ => hK hj _ u hF', fun y => absurd (show (950 : Int32) < nI (50 * 20) by decide) y⟩
  | succ k ih =>
    intro j u hk hj hF'
    unfold L11_never_43
    have e50 : ∀ x : Int32, x = nI (50 * j) + 50 → x = nI (50 * (j + 1)) := fun x hx => by
      rw [hx, show (50 : Int32) = nI 50 from rfl, nI_add]; rfl
    refine ⟨fun y => absurd y (by rw [zlt, nI_toInt (by omega)]; simp only [Int32.reduceToInt]; omega), fun _ => ⟨fun c x hx => ?_, fun c => ?_⟩⟩
    · rw [zlt, nI_toInt (by omega), nI_toInt (by omega)] at c
      rw [e50 x hx]
      refine ih (j + 1) u (by omega) (fun j' h' => ?_) hF'
      by_cases e : j' = j
      · rw [e]; exact fun q => absurd q.1 (by omega)
      · exact hj j' (by omega)
    · rw [zlt, nI_toInt (by omega), nI_toInt (by omega)] at c
      refine s11_ruled (hl.fm hF' ⟨by decide, by decide⟩) (fun w fw => ?_)
      have fw2 : FM [13] SM m w := hF'.tr (fw.mono (by decide) (by decide))
      have hpc : pcN ls (nI (100 * i)) 0 (nI (50 * j)) goal 0 0 ≤ 1200 := pcN_le
      refine ⟨fun d x hx => ?_, fun d => ?_⟩
      · rw [zle, nI_toInt (by omega), show (300 : Int32).toInt = 300 from rfl] at d
        rw [e50 x hx]
        refine ih (j + 1) w (by omega) (fun j' h' => ?_) fw2
        by_cases e : j' = j
        · rw [e]; exact fun q => absurd q.2 (by omega)
        · exact hj j' (by omega)
      · rw [zle, nI_toInt (by omega), show (300 : Int32).toInt = 300 from rfl] at d
        exact hF (fun q => q i hi j (by omega) ⟨by omega, by omega⟩) w fw2
theorem m_nv {m : mw_M} {ls : List LN} {li v : Nat} {goal : Int32} (hl : LAWm m li ls) (hv : v ≤ 950) {Q : Int32 → mw_M → Prop} (hT : nvA ls goal v → ∀ u, FM [13] SM m u → Q 1 u) (hF : ¬ nvA ls goal v → ∀ u, FM [13] SM m u → Q 0 u) : ∀ k i u, i + k = 12 → (∀ i', i' < i → ∀ j, j < 20 → nvO ls goal v i' j) → FM [13] SM m u → L11_never_32 (nI li) goal (nI v) Q (k + 1) (nI (100 * i)) u := by
  intro k
  induction k with
  | zero =>
    intro i u hk hi hF'
    have e : i = 12 := by omega
    subst e
    unfold L11_never_32
    exact ⟨fun _ => hT hi u hF', fun y => absurd (show (1100 : Int32) < nI (100 * 12) by decide) y⟩
  | succ k ih =>
    intro i u hk hi hF'
    unfold L11_never_32
    refine ⟨fun y => absurd y (by rw [zlt, nI_toInt (by omega)]; simp only [Int32.reduceToInt]; omega), fun _ => ⟨21, m_nvI hl hv (by omega) hF (fun hj x w fw y hy => ?_) 20 0 u rfl (fun j' h' => absurd h' (Nat.not_lt_zero _)) hF'⟩⟩
    rw [hy, show (100 : Int32) = nI 100 from rfl, nI_add]
    refine ih (i + 1) w (by omega) (fun i' h' => ?_) fw
    by_cases e : i' = i
    · rw [e]; exact hj
    · exact hi i' (by omega)
theorem op_never {a m : mw_M} (hR : RLaws a m) {p1 p2 p3 : Int32} {Q : Int32 → Int32 → mw_M → mw_M → Prop} (hQ : ∀ r u v, FW 45 a u → FM [13] SM m v → Q r r u v) : P10_never p1 p2 p3 a (fun r u => P11_never p1 p2 p3 m (fun r' v => Q r r' u v)) := by
  obtain ⟨nl, hnl, l3, l15, l4, l16, lw⟩ := id hR
  have hbad : ¬ ((0 ≤ p1.toInt ∧ p1.toInt < nl) ∧ (100 ≤ p2.toInt ∧ p2.toInt ≤ 1200) ∧ 0 ≤ p3.toInt ∧ p3.toInt ≤ 950) → P11_never p1 p2 p3 m (fun r' v => Q (-1) r' a v) := fun h => by
    unfold P11_never
    rw [ch11_isLaw hnl l15, ch11_isGoal, ch_within, toL, show (0 : Int64).toInt = 0 from rfl, show (950 : Int64).toInt = 950 from rfl]
    by_cases c : 0 ≤ p1.toInt ∧ p1.toInt < nl
    · rw [if_pos c]
      by_cases d : 100 ≤ p2.toInt ∧ p2.toInt ≤ 1200
      · rw [if_pos d, if_neg (fun e => h ⟨c, d, e⟩)]
        exact hQ _ _ _ FW.rf FM.rf
      · rw [if_neg d]
        exact hQ _ _ _ FW.rf FM.rf
    · rw [if_neg c]
      exact hQ _ _ _ FW.rf FM.rf
  unfold P10_never
  rw [ch4_has hnl l3, ch5_isGoal]
  by_cases c : 0 ≤ p1.toInt ∧ p1.toInt < nl
  · rw [if_pos c]
    by_cases d : 100 ≤ p2.toInt ∧ p2.toInt ≤ 1200
    · rw [if_pos d]
      refine ⟨fun e => hbad ?_, fun e1 => ⟨fun e2 => ?_, fun e => hbad ?_⟩⟩
      · have := zneg e; omega
      · have e1' := npos e1
        rw [zle, show (950 : Int32).toInt = 950 from rfl] at e2
        obtain ⟨li, hli, rfl⟩ := nI_get (x := p1) (by omega)
        obtain ⟨v, hv, rfl⟩ := nI_get (x := p3) (by omega)
        rw [nI_toInt (by omega)] at c e2
        obtain ⟨ls, hl, hlm⟩ := (lw li (by omega)).two (by omega)
        have ref : ∀ (K : Int32 → mw_M → Prop), (nvA ls p2 v → ∀ u, FM [13] SM m u → K 1 u) → (¬ nvA ls p2 v → ∀ u, FM [13] SM m u → K 0 u) → P11_never (nI li) p2 (nI v) m K := by
          intro K hT hF
          unfold P11_never
          rw [ch11_isLaw hnl l15, ch11_isGoal, ch_within, toL, show (0 : Int64).toInt = 0 from rfl, show (950 : Int64).toInt = 950 from rfl, if_pos (by rw [nI_toInt (by omega)]; omega), if_pos d, if_pos (by rw [nI_toInt (by omega)]; omega)]
          exact ⟨13, m_nv hlm (by omega) hT hF 12 0 m rfl (fun i' h' => absurd h' (Nat.not_lt_zero _)) FM.rf⟩
        unfold P8_isCalm
        refine ⟨13, x_nv hl hnl l3 (by omega) (by omega) (fun q u fu => ?_) (fun q u fu => ?_) 12 0 a rfl (fun i' h' => absurd h' (Nat.not_lt_zero _)) FW.rf⟩
        · exact ref _ (fun _ w fw => hQ _ _ _ fu fw) (fun q' => absurd q q')
        · exact ref _ (fun q' => absurd q' q) (fun _ w fw => hQ _ _ _ fu fw)
      · rw [zle, show (950 : Int32).toInt = 950 from rfl] at e; omega
    · rw [if_neg d]; exact hbad (fun q => d q.2.1)
  · rw [if_neg c]; exact hbad (fun q => c q.1)
