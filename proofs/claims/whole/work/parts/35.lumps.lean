/-! lumps: a row of bytes read by fours -/
theorem s6_valueAt {a : mw_M} {d n j : Nat} (hd : d < 6) (hn : n ≤ 60) (h66 : a.1 66 d = 2) (h69 : a.1 69 d = nI n) (hj : j < n) {Q : Int64 → Prop} (hQ : Q (a.2 (71 + d) j)) : P6_valueAt (nI d) (nI j) a Q := by
  obtain ⟨f1, f2, f3⟩ := dfac hd (by decide)
  obtain ⟨g1, g2, g3⟩ := dfac (N := 60) (d := j) (by omega) (by decide)
  unfold P6_valueAt
  rw [ch6_hasPlaces hd hn h66 h69 (zL _), if_pos (by rw [toL, g1]; simp only [Int32.reduceToInt]; omega)]
  simp only [f2, f3, g2, g3, true_and]
  exact ⟨fun q => absurd q (nI_ge (a := j) (b := 60) (by omega) (by decide)), fun _ => hQ⟩
theorem b_toInt {v : Int64} (h : -128 ≤ v.toInt ∧ v.toInt ≤ 127) : v.toInt32.toInt = v.toInt := by
  rw [Int64.toInt_toInt32]
  exact bmE (by omega) (by omega)
theorem b_get {v : Int64} (h : -128 ≤ v.toInt ∧ v.toInt ≤ 127) (h0 : 0 ≤ v.toInt) : v.toInt32 = nI v.toInt.toNat := nI_of_toInt (by rw [b_toInt h]; omega)
def lsX (a : mw_M) (n : Nat) (g : Nat → Nat → Nat) : Nat → mw_M
  | 0 => a
  | j + 1 => jX (lsX a n g j) (n + j) (nI (g j 0)) (nI (g j 1)) (nI (g j 2)) (nI (g j 3))
def lsM (m : mw_M) (n : Nat) (g : Nat → Nat → Nat) : Nat → mw_M
  | 0 => m
  | j + 1 => jM (lsM m n g j) (n + j) (nI (g j 0)) (nI (g j 1)) (nI (g j 2)) (nI (g j 3))
theorem lsX_fx {a : mw_M} {n : Nat} {g : Nat → Nat → Nat} : ∀ j, FX [1, 2, 3, 4, 5] a (lsX a n g j)
  | 0 => FX.rf
  | j + 1 => (lsX_fx j).tr jX_fx
theorem lsM_fm {a : mw_M} {n : Nat} {g : Nat → Nat → Nat} : ∀ j, FM [1, 5] [6] a (lsM a n g j)
  | 0 => FM.rf
  | j + 1 => (lsM_fm j).tr jM_fm
theorem lsX_2 {a : mw_M} {n : Nat} {g : Nat → Nat → Nat} : ∀ j, (lsX a n g j).2 = a.2
  | 0 => rfl
  | j + 1 => lsX_2 (n := n) (g := g) j
theorem lsM_2 {a : mw_M} {n : Nat} {g : Nat → Nat → Nat} : ∀ j, (lsM a n g j).2 = a.2
  | 0 => rfl
  | j + 1 => lsM_2 (n := n) (g := g) j
theorem ls_inv {a m : mw_M} {n c : Nat} {f g : Nat → Nat → Nat} (hL : LOK n f c) (hX : XL 1 a n f c) (hM : ML m n f c) (hC : CH n a m) : ∀ j, (∀ i, i < j → n + i < 12 ∧ lOK (g i 0) (g i 1) (g i 2) (g i 3)) → ∃ f', LOK (n + j) f' c ∧ XL 1 (lsX a n g j) (n + j) f' c ∧ ML (lsM m n g j) (n + j) f' c ∧ CH (n + j) (lsX a n g j) (lsM m n g j) := by
  intro j
  induction j with
  | zero => intro _; exact ⟨f, hL, hX, hM, hC⟩
  | succ j ih =>
    intro h
    obtain ⟨f', h1, h2, h3, h4⟩ := ih (fun i hi => h i (by omega))
    obtain ⟨h5, h6⟩ := h j (by omega)
    exact ⟨_, j_RLoad h1 h2 h3 h4 h5 h6⟩
theorem op_lumps {a m : mw_M} (hR : RLoad a m) (hS : RSh a m) {p1 p2 p3 : Int32} {Q : Int32 → mw_M → Int32 → mw_M → Prop} (hQ : ∀ r u v, FX [1, 2, 3, 4, 5] a u → FM [1, 5] [6] m v → RLoad u v → Q r u r v) : P10_lumps p1 p2 p3 a (fun r u => P11_lumps p1 p2 p3 m (fun r' v => Q r u r' v)) := by
  have same : ∀ r, Q r a r m := fun r => hQ _ _ _ FX.rf FM.rf hR
  obtain ⟨n, f, c, hL, hX, hM, hC⟩ := hR
  have hn := hL.1
  unfold P10_lumps P11_lumps P6_isEmpty P6_holdsRowOf P6_holdsRow
  simp only [ch6_isShelf, ch11_isShelf, ch_within, toL, Int64.reduceToInt, if_ab]
  by_cases hp : 0 ≤ p1.toInt ∧ p1.toInt ≤ 5
  · simp only [if_pos hp]
    obtain ⟨d, hd, rfl⟩ := shl_get hp
    obtain ⟨f1, f2, f3⟩ := dfac hd (by decide)
    simp only [f2, f3, true_and]
    by_cases h3 : 1 ≤ p3.toInt ∧ p3.toInt ≤ 12
    · obtain ⟨N, hN, rfl⟩ := nI_get (x := p3) (by omega)
      rw [nI_toInt (by omega)] at h3
      simp only [nI_toInt (show N < 2 ^ 31 by omega), if_pos h3, if_neg (show ¬ nI N < 1 from nI_nlt (b := 1) (by omega) (by omega)), if_pos (show nI N ≤ 12 from nI_le (b := 12) (by omega) (by decide))]
      have m0 : ∀ (Q' : Int32 → mw_M → Prop), Q' 0 m → ∃ k, L11_lumps_69 (nI d) p2 (nI N) Q' k 0 0 m := fun Q' h => ⟨1, by unfold L11_lumps_69; exact ⟨fun _ => h, fun q => absurd rfl q⟩⟩
      rcases hS.2.1 d hd with ⟨h1, h2⟩ | ⟨h1, w, hw, -, -, h2⟩ | ⟨h1, t, len, ht, hlen, h5, h6, h2, h4⟩
      · simp only [h1, h2, if_true, if_pos (show (-1 : Int32) < 0 by decide), if_neg (show ¬ (-1 : Int32) = 50 by decide)]
        exact m0 _ (same _)
      · simp only [h1, h2, if_neg (show ¬ (1 : Int32) = 0 by decide), if_neg (show ¬ (1 : Int32) = 2 by decide), if_neg (nI_pos (show w < 2 ^ 31 by omega)), if_neg (show ¬ nI w = 50 from fun q => by rw [show (50 : Int32) = nI 50 from rfl, nI_eq (by omega) (by decide)] at q; omega)]
        exact same _
      · by_cases ht0 : t = 0
        · subst ht0
          simp only [h1, h2, h5, if_neg (show ¬ (2 : Int32) = 0 by decide), if_true, if_neg (show ¬ nI (50 + 0) < 0 by decide), if_pos (show nI (50 + 0) = 50 from rfl), if_pos (show nI 0 = 0 from rfl)]
          have hbt := hS.2.2 d hd h1 h5
          by_cases hneg : p2 < 0
          · simp only [if_pos hneg]
            refine ⟨1, ?_⟩
            unfold L10_lumps_51
            refine ⟨fun q => absurd q (by rw [zle, nI_toInt (by omega)]; simp only [Int32.reduceToInt]; omega), fun _ => ?_⟩
            have hz : Q 0 a 0 m := same 0
            unfold P10_lumpCameFromRow P2_isFull
            rw [if_ab]
            have last : ∃ k, L11_lumps_69 (nI d) p2 (nI N) (fun r' v => Q 0 a r' v) k 0 0 m := m0 _ hz
            by_cases hfull : a.1 1 4 < 12
            · rw [if_pos hfull]
              rw [zlt] at hneg
              simp only [Int32.reduceToInt] at hneg
              have l2 := zlo p2
              rw [ch6_hasPlaces hd hlen h1 h6 (by
                rw [Int64.toInt_add, toL, show ((4 : Int64) * Int32.toInt64 0).toInt = 0 from rfl, bmL (by omega) (by omega)]; omega)]
              rw [if_neg (by
                rw [Int64.toInt_add, toL, show ((4 : Int64) * Int32.toInt64 0).toInt = 0 from rfl, bmL (by omega) (by omega)]; omega)]
              exact last
            · rw [if_neg hfull]
              exact last
          · simp only [if_neg hneg]
            obtain ⟨p, hp2, rfl⟩ := nI_get (x := p2) (by rw [zlt] at hneg; simp only [Int32.reduceToInt] at hneg; omega)
            obtain ⟨v, hv⟩ : ∃ v : Nat → Int64, v = fun i => a.2 (71 + d) i := ⟨_, rfl⟩
            have hvb : ∀ i, i < 60 → -128 ≤ (v i).toInt ∧ (v i).toInt ≤ 127 := fun i hi => by rw [hv]; exact hbt i hi
            have hvm : ∀ i, i < 60 → m.2 25 (60 * d + i) = v i := fun i hi => by rw [hv]; exact (hS.1 d i hd hi).symm
            obtain ⟨g, hg⟩ : ∃ g : Nat → Nat → Nat, g = fun j q => (v (p + 4 * j + q)).toInt.toNat := ⟨_, rfl⟩
            obtain ⟨C, hCd⟩ : ∃ C : Nat → Prop, C = fun j => p + 4 * j + 4 ≤ len ∧ n + j < 12 ∧ lOK (v (p + 4 * j)).toInt (v (p + 4 * j + 1)).toInt (v (p + 4 * j + 2)).toInt (v (p + 4 * j + 3)).toInt := ⟨_, rfl⟩
            obtain ⟨J, hJ, hJl⟩ := pk_least (fun k => k = N ∨ ¬ C k) ⟨N, Or.inl rfl⟩
            have hJN : J ≤ N := Nat.not_lt.mp fun q => hJl N q (Or.inl rfl)
            have hCJ : ∀ j, j < J → C j := fun j hj => Classical.byContradiction fun q => hJl j hj (Or.inr q)
            have hgv : ∀ j, j < J → v (p + 4 * j) = v (p + 4 * j + 0) ∧ (v (p + 4 * j)).toInt32 = nI (g j 0) ∧ (v (p + 4 * j + 1)).toInt32 = nI (g j 1) ∧ (v (p + 4 * j + 2)).toInt32 = nI (g j 2) ∧ (v (p + 4 * j + 3)).toInt32 = nI (g j 3) ∧ lOK (g j 0) (g j 1) (g j 2) (g j 3) ∧ lOK (v (p + 4 * j)).toInt32.toInt (v (p + 4 * j + 1)).toInt32.toInt (v (p + 4 * j + 2)).toInt32.toInt (v (p + 4 * j + 3)).toInt32.toInt := by
              intro j hj
              have h := hCJ j hj
              rw [hCd] at h
              obtain ⟨k1, k2, k3⟩ := h
              have k3' := k3
              obtain ⟨q1, q2, q3, q4⟩ := k3
              have b0 := hvb (p + 4 * j) (by omega)
              have b1 := hvb (p + 4 * j + 1) (by omega)
              have b2 := hvb (p + 4 * j + 2) (by omega)
              have b3 := hvb (p + 4 * j + 3) (by omega)
              rw [hg]
              refine ⟨rfl, b_get b0 (by omega), b_get b1 (by omega), b_get b2 (by omega), b_get b3 (by omega), ?_, ?_⟩
              · show lOK (((v (p + 4 * j + 0)).toInt.toNat : Nat) : Int) (((v (p + 4 * j + 1)).toInt.toNat : Nat) : Int) (((v (p + 4 * j + 2)).toInt.toNat : Nat) : Int) (((v (p + 4 * j + 3)).toInt.toNat : Nat) : Int)
                rw [Nat.add_zero, Int.toNat_of_nonneg (by omega), Int.toNat_of_nonneg (by omega), Int.toNat_of_nonneg (by omega), Int.toNat_of_nonneg (by omega)]
                exact k3'
              · rw [b_toInt b0, b_toInt b1, b_toInt b2, b_toInt b3]; exact k3'
            have hinv : ∀ j, j ≤ J → ∃ f', LOK (n + j) f' c ∧ XL 1 (lsX a n g j) (n + j) f' c ∧ ML (lsM m n g j) (n + j) f' c ∧ CH (n + j) (lsX a n g j) (lsM m n g j) := by
              intro j hj
              refine ls_inv hL hX hM hC j (fun i hi => ⟨?_, (hgv i (by omega)).2.2.2.2.2.1⟩)
              have h := hCJ i (by omega)
              rw [hCd] at h
              exact h.2.1
            have hfin : Q (nI J) (lsX a n g J) (nI J) (lsM m n g J) := by
              obtain ⟨f', e1, e2, e3, e4⟩ := hinv J (Nat.le_refl _)
              exact hQ _ _ _ (lsX_fx J) (lsM_fm J) ⟨_, f', c, e1, e2, e3, e4⟩
            have x66 : ∀ j, (lsX a n g j).1 66 d = 2 := fun j => (congrFun ((lsX_fx j) 66 (by decide)).1 d).trans h1
            have x69 : ∀ j, (lsX a n g j).1 69 d = nI len := fun j => (congrFun ((lsX_fx j) 69 (by decide)).1 d).trans h6
            have xv : ∀ j i, (lsX a n g j).2 (71 + d) i = v i := fun j i => by rw [lsX_2, hv]
            have e4 : ∀ j, j ≤ 12 → (Int32.toInt64 (nI p) + 4 * Int32.toInt64 (nI j)).toInt = ((p + 4 * j : Nat) : Int) := by
              intro j hj
              rw [Int64.toInt_add, Int64.toInt_mul, toL, toL, nI_toInt (by omega), nI_toInt (by omega), show (4 : Int64).toInt = 4 from rfl, bmL (n := 4 * (j : Int)) (by omega) (by omega), bmL (by omega) (by omega)]
              omega
            have xl : ∀ k j, j + k = J → ∀ Q' : Int32 → mw_M → Prop, Q' (nI J) (lsX a n g J) → L10_lumps_51 (nI d) (nI p) (nI N) Q' (k + 1) (nI j) (lsX a n g j) := by
              intro k
              induction k with
              | zero =>
                intro j hj Q' hq
                have ej : j = J := by omega
                subst ej
                unfold L10_lumps_51
                refine ⟨fun _ => hq, fun hlt => ?_⟩
                have hne : j ≠ N := fun e => hlt (by rw [e]; exact nI_le (Nat.le_refl _) (by omega))
                have hnc : ¬ C j := by
                  rcases hJ with e | e
                  · exact absurd e hne
                  · exact e
                rw [hCd] at hnc
                unfold P10_lumpCameFromRow P2_isFull
                rw [if_ab]
                obtain ⟨f', i1, i2, i3, i4⟩ := hinv j (Nat.le_refl _)
                rw [i2.1]
                by_cases hfull : n + j < 12
                · rw [if_pos (show nI (n + j) < 12 from nI_lt (b := 12) hfull (by decide))]
                  rw [ch6_hasPlaces hd hlen (x66 j) (x69 j) (by rw [e4 j (by omega)]; omega), e4 j (by omega)]
                  simp only [Int32.reduceToInt]
                  by_cases hpl : p + 4 * j + 4 ≤ len
                  · rw [if_pos (by omega)]
                    have b0 := hvb (p + 4 * j) (by omega)
                    have b1 := hvb (p + 4 * j + 1) (by omega)
                    have b2 := hvb (p + 4 * j + 2) (by omega)
                    have b3 := hvb (p + 4 * j + 3) (by omega)
                    intro x hx
                    have ex : x = nI (p + 4 * j) := by rw [hx]; exact nI_of_toInt (by rw [Int64.toInt_toInt32, e4 j (by omega)]; exact bmE (by omega) (by omega))
                    subst ex
                    refine s6_valueAt hd hlen (x66 j) (x69 j) (by omega) (fun y0 h0 => ?_)
                    rw [show nI (p + 4 * j) + 1 = nI (p + 4 * j + 1) from nI_1 _, show nI (p + 4 * j) + 2 = nI (p + 4 * j + 2) from nI_add _ 2, show nI (p + 4 * j) + 3 = nI (p + 4 * j + 3) from nI_add _ 3]
                    refine s6_valueAt hd hlen (x66 j) (x69 j) (by omega) (fun y1 h1 => s6_valueAt hd hlen (x66 j) (x69 j) (by omega) (fun y2 h2 => s6_valueAt hd hlen (x66 j) (x69 j) (by omega) (fun y3 h3 => ?_)))
                    rw [xv] at h0 h1 h2 h3
                    subst h0; subst h1; subst h2; subst h3
                    refine s2_isLump (fun h => absurd ?_ hnc) (fun _ => hq)
                    rw [b_toInt b0, b_toInt b1, b_toInt b2, b_toInt b3] at h
                    exact ⟨hpl, hfull, h⟩
                  · rw [if_neg (by omega)]; exact hq
                · rw [if_neg (show ¬ nI (n + j) < 12 from nI_nlt (b := 12) (by omega) (by omega))]; exact hq
              | succ k ih =>
                intro j hj Q' hq
                have hjJ : j < J := by omega
                have h := hCJ j hjJ
                rw [hCd] at h
                obtain ⟨k1, k2, k3⟩ := h
                obtain ⟨-, w0, w1, w2, w3, -, w4⟩ := hgv j hjJ
                obtain ⟨f', i1, i2, i3, i4⟩ := hinv j (by omega)
                unfold L10_lumps_51
                refine ⟨fun q => absurd q (nI_ge (by omega) (by omega)), fun _ => ?_⟩
                unfold P10_lumpCameFromRow P2_isFull
                rw [if_ab, i2.1, if_pos (show nI (n + j) < 12 from nI_lt (b := 12) k2 (by decide)), ch6_hasPlaces hd hlen (x66 j) (x69 j) (by rw [e4 j (by omega)]; omega), e4 j (by omega)]
                simp only [Int32.reduceToInt]
                rw [if_pos (by omega)]
                intro x hx
                have ex : x = nI (p + 4 * j) := by rw [hx]; exact nI_of_toInt (by rw [Int64.toInt_toInt32, e4 j (by omega)]; exact bmE (by omega) (by omega))
                subst ex
                refine s6_valueAt hd hlen (x66 j) (x69 j) (by omega) (fun y0 h0 => ?_)
                rw [show nI (p + 4 * j) + 1 = nI (p + 4 * j + 1) from nI_1 _, show nI (p + 4 * j) + 2 = nI (p + 4 * j + 2) from nI_add _ 2, show nI (p + 4 * j) + 3 = nI (p + 4 * j + 3) from nI_add _ 3]
                refine s6_valueAt hd hlen (x66 j) (x69 j) (by omega) (fun y1 h1 => s6_valueAt hd hlen (x66 j) (x69 j) (by omega) (fun y2 h2 => s6_valueAt hd hlen (x66 j) (x69 j) (by omega) (fun y3 h3 => ?_)))
                rw [xv] at h0 h1 h2 h3
                subst h0; subst h1; subst h2; subst h3
                refine s2_isLump (fun _ => ?_) (fun h => absurd w4 h)
                rw [w0, w1, w2, w3]
                refine s2_join k2 i2.1 (fun x hx => ?_)
                rw [nI_1] at hx
                subst hx
                exact ih (j + 1) (by omega) Q' hq
            refine ⟨J + 1, xl J 0 (Nat.zero_add _) _ ?_⟩
            refine ⟨J + 2, ?_⟩
            have y24 : ∀ j, (lsM m n g j).1 24 d = nI len := fun j => (congrFun ((lsM_fm j).1 24 (by decide) (by decide)).1 d).trans h4
            have yv : ∀ j i, i < 60 → (lsM m n g j).2 25 (60 * d + i) = v i := fun j i hi => by rw [lsM_2]; exact hvm i hi
            have e5 : ∀ j, j ≤ 12 → ((nI len - 4) - (4 * nI j)).toInt = (len : Int) - 4 - 4 * j := by
              intro j hj
              rw [Int32.toInt_sub, Int32.toInt_sub, Int32.toInt_mul, nI_toInt (by omega), nI_toInt (by omega), show (4 : Int32).toInt = 4 from rfl, bmE (n := (len : Int) - 4) (by omega) (by omega), bmE (n := 4 * (j : Int)) (by omega) (by omega), bmE (by omega) (by omega)]
            have ml : ∀ k j, j + k = J → ∀ Q' : Int32 → mw_M → Prop, Q' (nI J) (lsM m n g J) → L11_lumps_69 (nI d) (nI p) (nI N) Q' (k + 2) 1 (nI j) (lsM m n g j) := by
              intro k
              induction k with
              | zero =>
                intro j hj Q' hq
                have ej : j = J := by omega
                subst ej
                have stop : ∀ u, u = lsM m n g j → L11_lumps_69 (nI d) (nI p) (nI N) Q' (0 + 1) 0 (nI j) u := fun u hu => by rw [hu]; unfold L11_lumps_69; exact ⟨fun _ => hq, fun q => absurd rfl q⟩
                unfold L11_lumps_69
                refine ⟨fun q => absurd q (by decide), fun _ => ⟨fun _ => hq, fun hlt => ?_⟩⟩
                have hne : j ≠ N := fun e => hlt (by rw [e]; exact nI_le (Nat.le_refl _) (by omega))
                have hnc : ¬ C j := by
                  rcases hJ with e | e
                  · exact absurd e hne
                  · exact e
                rw [hCd] at hnc
                obtain ⟨f', i1, i2, i3, i4⟩ := hinv j (Nat.le_refl _)
                rw [f2, f3, true_and, y24, zlt, e5 j (by omega), nI_toInt (by omega), i3.1]
                refine ⟨fun _ _ _ => stop _ rfl, fun hpl => ⟨fun _ _ _ => stop _ rfl, fun hfl x hx => ?_⟩⟩
                have hfull : n + j < 12 := by rw [zle, nI_toInt (by omega)] at hfl; simp only [Int32.reduceToInt] at hfl; omega
                have ex : x = nI (60 * d + (p + 4 * j)) := by rw [hx, z60, show (4 : Int32) = nI 4 from rfl, pk_mul, nI_add, Nat.add_assoc]
                subst ex
                rw [show nI (60 * d + (p + 4 * j)) + 1 = nI (60 * d + (p + 4 * j + 1)) from nI_1 _, show nI (60 * d + (p + 4 * j)) + 2 = nI (60 * d + (p + 4 * j + 2)) from nI_add _ 2, show nI (60 * d + (p + 4 * j)) + 3 = nI (60 * d + (p + 4 * j + 3)) from nI_add _ 3]
                refine ⟨vp_in_nI (by omega) (by decide), vp_in_nI (by omega) (by decide), vp_in_nI (by omega) (by decide), vp_in_nI (by omega) (by decide), ?_⟩
                rw [nI_clamp (by omega), nI_clamp (by omega), nI_clamp (by omega), nI_clamp (by omega), yv j _ (by omega), yv j _ (by omega), yv j _ (by omega), yv j _ (by omega)]
                exact s11_isOne (fun h => absurd ⟨by omega, hfull, h⟩ hnc) (fun _ => stop _ rfl)
              | succ k ih =>
                intro j hj Q' hq
                have hjJ : j < J := by omega
                have h := hCJ j hjJ
                rw [hCd] at h
                obtain ⟨k1, k2, k3⟩ := h
                obtain ⟨-, w0, w1, w2, w3, -, w4⟩ := hgv j hjJ
                obtain ⟨f', i1, i2, i3, i4⟩ := hinv j (by omega)
                unfold L11_lumps_69
                refine ⟨fun q => absurd q (by decide), fun _ => ⟨fun q => absurd q (nI_ge (by omega) (by omega)), fun _ => ?_⟩⟩
                rw [f2, f3, true_and, y24, zlt, e5 j (by omega), nI_toInt (by omega), i3.1]
                refine ⟨fun q => absurd q (by omega), fun _ => ⟨fun q => absurd q (nI_ge (a := n + j) (b := 12) k2 (by decide)), fun _ x hx => ?_⟩⟩
                have ex : x = nI (60 * d + (p + 4 * j)) := by rw [hx, z60, show (4 : Int32) = nI 4 from rfl, pk_mul, nI_add, Nat.add_assoc]
                subst ex
                rw [show nI (60 * d + (p + 4 * j)) + 1 = nI (60 * d + (p + 4 * j + 1)) from nI_1 _, show nI (60 * d + (p + 4 * j)) + 2 = nI (60 * d + (p + 4 * j + 2)) from nI_add _ 2, show nI (60 * d + (p + 4 * j)) + 3 = nI (60 * d + (p + 4 * j + 3)) from nI_add _ 3]
                refine ⟨vp_in_nI (by omega) (by decide), vp_in_nI (by omega) (by decide), vp_in_nI (by omega) (by decide), vp_in_nI (by omega) (by decide), ?_⟩
                rw [nI_clamp (by omega), nI_clamp (by omega), nI_clamp (by omega), nI_clamp (by omega), yv j _ (by omega), yv j _ (by omega), yv j _ (by omega), yv j _ (by omega)]
                refine s11_isOne (fun _ => ⟨vp_in_nI (by omega) (by decide), vp_in_nI (by omega) (by decide), vp_in_nI (by omega) (by decide), vp_in_nI (by omega) (by decide), ?_⟩) (fun h => absurd k3 h)
                rw [w0, w1, w2, w3]
                refine s11_adds k2 i3.1 (fun x hx => ?_)
                rw [nI_1] at hx
                subst hx
                exact ih (j + 1) (by omega) Q' hq
            exact ml J 0 (Nat.zero_add _) _ hfin
        · have c50 : ¬ nI (50 + t) = (50 : Int32) := fun q => by rw [show (50 : Int32) = nI 50 from rfl, nI_eq (by omega) (by decide)] at q; omega
          have c0 : ¬ nI t = 0 := nI_ne0 (by omega) (by omega)
          simp only [h1, h2, h5, if_neg (show ¬ (2 : Int32) = 0 by decide), if_true, if_neg (nI_pos (show 50 + t < 2 ^ 31 by omega)), if_neg c50, if_neg c0]
          exact same _
    · simp only [if_neg h3]
      by_cases q1 : p3 < 1
      · rw [if_pos q1]; exact same _
      · rw [if_neg q1, if_neg (fun q2 => h3 (by rw [zlt] at q1; rw [zle] at q2; simp only [Int32.reduceToInt] at q1 q2; omega))]; exact same _
  · simp only [if_neg hp]
    exact same _
