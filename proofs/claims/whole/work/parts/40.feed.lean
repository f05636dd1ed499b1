/-! feed -/
theorem and255 (x : Int32) : ∃ n : Nat, n < 256 ∧ x &&& 255 = nI n := by
  refine ⟨(x.toBitVec &&& 255#32).toNat, ?_, ?_⟩
  · rw [BitVec.toNat_and]
    exact Nat.lt_of_le_of_lt Nat.and_le_right (by decide)
  · have h : (x.toBitVec &&& 255#32).toNat < 256 := by
      rw [BitVec.toNat_and]
      exact Nat.lt_of_le_of_lt Nat.and_le_right (by decide)
    refine nI_of_toInt ?_
    show ((x &&& 255).toBitVec).toInt = _
    rw [Int32.toBitVec_and, show (255 : Int32).toBitVec = 255#32 from rfl, BitVec.toInt_eq_toNat_of_lt (by omega)]
theorem bit_u {x s : Int32} {k : Nat} (hs : ((s.toUInt32 &&& Int32.toUInt32 31).toBitVec % 32).toNat = k) (i : Nat) : (mw_ushr x s).toBitVec.getLsbD i = x.toBitVec.getLsbD (k + i) := by
  show (x.toUInt32 >>> (s.toUInt32 &&& Int32.toUInt32 31)).toBitVec.getLsbD i = x.toUInt32.toBitVec.getLsbD (k + i)
  rw [UInt32.toBitVec_shiftRight]
  show (x.toUInt32.toBitVec >>> ((s.toUInt32 &&& Int32.toUInt32 31).toBitVec % 32).toNat).getLsbD i = _
  rw [hs, BitVec.getLsbD_ushiftRight]
theorem bit_s {x s : Int32} {k : Nat} (hs : (s.toBitVec.smod 32).toNat = k) {i : Nat} (hi : k + i < 32) : (x >>> s).toBitVec.getLsbD i = x.toBitVec.getLsbD (k + i) := by
  rw [Int32.toBitVec_shiftRight]
  show (x.toBitVec.sshiftRight (s.toBitVec.smod 32).toNat).getLsbD i = _
  rw [hs, BitVec.getLsbD_sshiftRight, if_pos hi]
  have : ¬ 32 ≤ i := by omega
  simp [this]
theorem bit_255 {i : Nat} (hi : i < 32) : (255 : Int32).toBitVec.getLsbD i = decide (i < 8) :=
  (by decide +kernel : ∀ i, i < 32 → (255 : Int32).toBitVec.getLsbD i = decide (i < 8)) i hi
theorem ushr_K {x s : Int32} {k : Nat} (hk : k ≤ 24) (h1 : ((s.toUInt32 &&& Int32.toUInt32 31).toBitVec % 32).toNat = k) (h2 : ((s &&& 31).toBitVec.smod 32).toNat = k) : mw_ushr x s &&& 255 = x >>> (s &&& 31) &&& 255 := by
  refine Int32.toBitVec_inj.mp (BitVec.eq_of_getLsbD_eq fun i hi => ?_)
  rw [Int32.toBitVec_and, Int32.toBitVec_and, BitVec.getLsbD_and, BitVec.getLsbD_and, bit_255 hi]
  by_cases c : i < 8
  · rw [bit_u h1, bit_s h2 (by omega)]
  · rw [decide_eq_false c, Bool.and_false, Bool.and_false]
theorem ushr_k {k : Nat} (hk : k < 4) (x : Int32) : mw_ushr x (8 * nI k) &&& 255 = x >>> ((8 * nI k) &&& 31) &&& 255 := by
  rcases (show k = 0 ∨ k = 1 ∨ k = 2 ∨ k = 3 by omega) with rfl | rfl | rfl | rfl
  · exact ushr_K (k := 0) (by decide) (by decide) (by decide)
  · exact ushr_K (k := 8) (by decide) (by decide) (by decide)
  · exact ushr_K (k := 16) (by decide) (by decide) (by decide)
  · exact ushr_K (k := 24) (by decide) (by decide) (by decide)
/-- one byte taken on both sides -/
theorem RTape.put {a m : mw_M} {n t : Nat} (h : RTape a m) (hn : a.1 16 1 = nI n) (hl : n < 120) (ht : t < 256) : RTape (mw_I (mw_I a 17 n (nI t)) 16 1 (nI (n + 1))) (mw_I (mw_I m 10 n (nI t)) 0 14 (nI (n + 1))) := by
  obtain ⟨n', f, h1, h2, h3, h4⟩ := h
  rw [h2, nI_eq (by omega) (by omega)] at hn
  subst hn
  refine ⟨n' + 1, fun i => if i = n' then t else f i, by omega, mw_I_eq, mw_I_eq, fun i hi => ?_⟩
  by_cases q : i = n'
  · subst q
    simp (config := { decide := true }) only [mw_I_get, true_and, false_and, if_true, if_false]
    exact ht
  · simp (config := { decide := true }) only [mw_I_get, true_and, false_and, if_true, if_false, q]
    exact h4 i (by omega)
def byF (p : Int32) (i : Nat) : Int32 := mw_ushr p (8 * nI i) &&& 255
def fdX (p : Int32) (n : Nat) (a : mw_M) : Nat → mw_M
  | 0 => a
  | i + 1 => mw_I (mw_I (fdX p n a i) 17 (n + i) (byF p i)) 16 1 (nI (n + i + 1))
def fdM (p : Int32) (n : Nat) (m : mw_M) : Nat → mw_M
  | 0 => m
  | i + 1 => mw_I (mw_I (fdM p n m i) 10 (n + i) (byF p i)) 0 14 (nI (n + i + 1))
theorem fdX_n {p : Int32} {n : Nat} {a : mw_M} (h : a.1 16 1 = nI n) : ∀ i, (fdX p n a i).1 16 1 = nI (n + i)
  | 0 => h
  | _ + 1 => mw_I_eq
theorem fdM_n {p : Int32} {n : Nat} {m : mw_M} (h : m.1 0 14 = nI n) : ∀ i, (fdM p n m i).1 0 14 = nI (n + i)
  | 0 => h
  | _ + 1 => mw_I_eq
theorem fdX_F {p : Int32} {n : Nat} {a : mw_M} : ∀ i, FX [16, 17] a (fdX p n a i) ∧ ∀ j, j ≠ 1 → (fdX p n a i).1 16 j = a.1 16 j
  | 0 => ⟨FX.rf, fun _ _ => rfl⟩
  | i + 1 => ⟨((fdX_F i).1.I (by decide)).I (by decide), fun j hj => (mw_I_nj hj).trans ((mw_I_ne (by decide)).trans ((fdX_F i).2 j hj))⟩
theorem fdM_F {p : Int32} {n : Nat} {m : mw_M} : ∀ i, FM [10] [14] m (fdM p n m i)
  | 0 => FM.rf
  | i + 1 => ((fdM_F i).I (by decide) (by decide)).O (by decide)
theorem fd_R {p : Int32} {n : Nat} {a m : mw_M} (h : RTape a m) (h1 : a.1 16 1 = nI n) : ∀ i, n + i ≤ 120 → RTape (fdX p n a i) (fdM p n m i)
  | 0, _ => h
  | i + 1, hi => by
    obtain ⟨t, ht, e⟩ := and255 (mw_ushr p (8 * nI i))
    have := RTape.put (fd_R (p := p) h h1 i (by omega)) (fdX_n h1 i) (by omega) ht
    unfold fdX fdM byF
    rw [e]
    exact this
theorem l7_take {w n : Nat} (hw : w ≤ 4) {p2 : Int32} {a : mw_M} (h1 : a.1 16 1 = nI n) (hn : n + w ≤ 120) {Q : Int32 → mw_M → Prop} (hQ : Q (nI (n + w)) (fdX p2 n a w)) : ∀ k i, i + k = w → L7_take_2 (nI w) p2 Q (k + 1) (nI i) (fdX p2 n a i) := by
  intro k
  induction k with
  | zero =>
    intro i hi
    have e : i = w := by omega
    subst e
    unfold L7_take_2
    refine ⟨fun _ => ?_, fun z => absurd (nI_le (Nat.le_refl _) (by omega)) z⟩
    rw [fdX_n h1]
    exact hQ
  | succ k ih =>
    intro i hi
    unfold L7_take_2
    have e := fdX_n (p := p2) h1 i
    have c1 : ¬ nI w ≤ nI i := by rw [zle, nI_toInt (by omega), nI_toInt (by omega)]; omega
    have c2 : ¬ 120 ≤ nI (n + i) := by rw [zle, nI_toInt (by omega)]; simp only [Int32.reduceToInt]; omega
    rw [e]
    refine ⟨fun z => absurd z c1, fun _ => ⟨fun z => absurd z c2, fun _ => ⟨vp_in_nI (by omega) (by decide), ?_⟩⟩⟩
    intro μ7 e7 μ8 e8 x hx
    rw [nI_clamp (by omega)] at e7
    have e9 : μ7.1 16 1 = nI (n + i) := by rw [e7, mw_I_ne (by decide)]; exact e
    rw [e9, show nI (n + i) + 1 = nI (n + i + 1) from nI_add _ 1, e7] at e8
    rw [show nI i + 1 = nI (i + 1) from nI_add i 1] at hx
    rw [e8, hx]
    exact ih (i + 1) (by omega)
theorem l11_feed {w n : Nat} (hw : w ≤ 4) {p2 : Int32} {m : mw_M} (h1 : m.1 0 14 = nI n) (hn : n + w ≤ 120) {Q : Int32 → mw_M → Prop} (hQ : Q (nI (n + w)) (fdM p2 n m w)) : ∀ k i, i + k = w → L11_feed_30 (nI w) p2 Q (k + 1) (nI i) (fdM p2 n m i) := by
  intro k
  induction k with
  | zero =>
    intro i hi
    have e : i = w := by omega
    subst e
    unfold L11_feed_30
    refine ⟨fun _ => ?_, fun z => absurd (nI_le (Nat.le_refl _) (by omega)) z⟩
    rw [fdM_n h1]
    exact hQ
  | succ k ih =>
    intro i hi
    unfold L11_feed_30
    have e := fdM_n (p := p2) h1 i
    have c1 : ¬ nI w ≤ nI i := by rw [zle, nI_toInt (by omega), nI_toInt (by omega)]; omega
    rw [e]
    refine ⟨fun z => absurd z c1, fun _ => ⟨vp_in_nI (by omega) (by decide), ?_⟩⟩
    intro μ7 e7 μ8 e8 x hx
    rw [nI_clamp (by omega), ← ushr_k (by omega)] at e7
    have e9 : μ7.1 0 14 = nI (n + i) := by rw [e7, mw_I_ne (by decide)]; exact e
    rw [e9, show nI (n + i) + 1 = nI (n + i + 1) from nI_add _ 1, e7] at e8
    rw [show nI i + 1 = nI (i + 1) from nI_add i 1] at hx
    rw [e8, hx]
    exact ih (i + 1) (by omega)
/-- feed -/
theorem op_feed {a m : mw_M} (hT : RTape a m) {p1 p2 : Int32} {Q : Int32 → Int32 → mw_M → mw_M → Prop} (hQ : ∀ r u v, FX [16, 17] a u → (∀ j, j ≠ 1 → u.1 16 j = a.1 16 j) → FM [10] [14] m v → RTape u v → Q r r u v) : P10_feed p1 p2 a (fun r u => P11_feed p1 p2 m (fun r' v => Q r r' u v)) := by
  have hF := fun r => hQ r a m FX.rf (fun _ _ => rfl) FM.rf hT
  have hT' := hT
  obtain ⟨n, t, h1, h2, h3, -⟩ := hT
  unfold P10_feed P11_feed P7_hasRoomFor P7_take
  simp only [ch_within, toL, Int64.reduceToInt, if_ab, h2, h3]
  by_cases c : 1 ≤ p1.toInt ∧ p1.toInt ≤ 4
  · rw [if_neg (by rw [zlt]; simp only [Int32.reduceToInt]; omega), if_pos (by rw [zle]; simp only [Int32.reduceToInt]; omega)]
    simp only [if_pos c]
    obtain ⟨w, hw, rfl⟩ := nI_get (x := p1) (by omega)
    rw [nI_toInt hw] at c
    rw [nI_add]
    by_cases c2 : n + w ≤ 120
    · rw [if_neg (by rw [zlt, nI_toInt (by omega)]; simp only [Int32.reduceToInt]; omega)]
      simp only [if_pos (show nI (n + w) ≤ 120 from nI_le (b := 120) c2 (by decide))]
      exact ⟨w + 1, l7_take (by omega) h2 c2 ⟨w + 1, l11_feed (by omega) h3 c2 (hQ _ _ _ (fdX_F w).1 (fdX_F w).2 (fdM_F w) (fd_R hT' h2 w c2)) w 0 (by omega)⟩ w 0 (by omega)⟩
    · have q : 120 < nI (n + w) := by rw [zlt, nI_toInt (by omega)]; simp only [Int32.reduceToInt]; omega
      rw [if_pos q]
      simp only [if_neg (show ¬ nI (n + w) ≤ 120 by rw [zlt] at q; rw [zle]; omega)]
      exact hF _
  · simp only [if_neg c]
    split
    · exact hF _
    · rw [if_neg (by rename_i z; rw [zlt] at z; rw [zle]; simp only [Int32.reduceToInt] at z ⊢; omega)]
      exact hF _
