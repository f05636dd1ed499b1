/-! lumps: lump, of, mend, counter, undo, redo, lumps -/
theorem zdiv {n d : Nat} (hn : n < 2147483648) (h0 : 0 < d) (hd : d < 2147483648) : nI n / nI d = nI (n / d) := pk_div (by omega) h0 (by omega)
theorem zrem {n d : Nat} (hn : n < 2147483648) (h0 : 0 < d) (hd : d < 2147483648) : mw_rem (nI n) (nI d) = nI (n % d) := pk_rem (by omega) h0 (by omega)
theorem d100 {n : Nat} (hn : n < 2147483648) : nI n / 100 = nI (n / 100) := zdiv hn (d := 100) (by decide) (by decide)
theorem r100 {n : Nat} (hn : n < 2147483648) : mw_rem (nI n) 100 = nI (n % 100) := zrem hn (d := 100) (by decide) (by decide)
theorem d10 {n : Nat} (hn : n < 2147483648) : nI n / 10 = nI (n / 10) := zdiv hn (d := 10) (by decide) (by decide)
theorem r10 {n : Nat} (hn : n < 2147483648) : mw_rem (nI n) 10 = nI (n % 10) := zrem hn (d := 10) (by decide) (by decide)
theorem d1000 {n : Nat} (hn : n < 2147483648) : nI n / 1000 = nI (n / 1000) := zdiv hn (d := 1000) (by decide) (by decide)
theorem r1000 {n : Nat} (hn : n < 2147483648) : mw_rem (nI n) 1000 = nI (n % 1000) := zrem hn (d := 1000) (by decide) (by decide)
theorem ch2_hasLump {b n : Nat} {a : mw_M} (hn : n < 2147483648) (h : a.1 b 4 = nI n) (p : Int32) (QT QF : Prop) : P2_hasLump b p a QT QF = if 0 ≤ p.toInt ∧ p.toInt < n then QT else QF := by
  unfold P2_hasLump
  rw [h, if_ab, if_ab]
  simp only [zlt, zle, Int32.reduceToInt, nI_toInt (show n < 2 ^ 31 by omega)]
  by_cases h1 : p.toInt < 0
  · rw [if_pos h1, if_neg (by omega)]
  · rw [if_neg h1]
    by_cases h2 : (n : Int) ≤ p.toInt
    · rw [if_pos h2, if_neg (by omega)]
    · rw [if_neg h2, if_pos (by omega)]
theorem ch11_isLump {n : Nat} {m : mw_M} (hn : n ≤ 12) (h : m.1 0 6 = nI n) (p : Int32) (QT QF : Prop) : P11_isLump p m QT QF = if 0 ≤ p.toInt ∧ p.toInt < n then QT else QF := by
  unfold P11_isLump
  rw [ch_within, toL, toL, h, Int32.toInt_sub, nI_toInt (by omega)]
  have e : ((n : Int) - (1 : Int32).toInt).bmod (2 ^ 32) = n - 1 := by rw [show (1 : Int32).toInt = 1 from rfl]; exact bmE (by omega) (by omega)
  rw [e]
  exact if_c (by constructor <;> intro q <;> (simp only [Int64.reduceToInt] at q ⊢; omega))
/-- which values a lump's fields may have -/
def tOK (w : Nat) (x : Int) : Prop := (w = 0 ∧ 1 ≤ x ∧ x ≤ 50) ∨ (w = 1 ∧ 0 ≤ x ∧ x ≤ 99) ∨ (w = 2 ∧ 0 ≤ x ∧ x ≤ 11)
def lOK (x y z w : Int) : Prop := (1 ≤ x ∧ x ≤ 50) ∧ (0 ≤ y ∧ y ≤ 99) ∧ (0 ≤ z ∧ z ≤ 11) ∧ 0 ≤ w ∧ w ≤ 9
theorem s2_told0 {x : Int32} {QT QF : Prop} (h1 : 1 ≤ x.toInt ∧ x.toInt ≤ 50 → QT) (h2 : ¬ (1 ≤ x.toInt ∧ x.toInt ≤ 50) → QF) : P2_isTold 0 x QT QF := by
  unfold P2_isTold
  simp only [zlt, Int32.reduceToInt]
  refine ⟨fun _ => ⟨fun q => h2 (by omega), fun q => ⟨fun q2 => h2 (by omega), fun q2 => h1 (by omega)⟩⟩, fun q => absurd q (by decide), fun q => absurd q (by decide), fun q => absurd trivial q⟩
theorem s2_told1 {x : Int32} {QT QF : Prop} (h1 : 0 ≤ x.toInt ∧ x.toInt ≤ 99 → QT) (h2 : ¬ (0 ≤ x.toInt ∧ x.toInt ≤ 99) → QF) : P2_isTold 1 x QT QF := by
  unfold P2_isTold
  simp only [zlt, Int32.reduceToInt]
  refine ⟨fun q => absurd q (by decide), fun _ => ⟨fun q => h2 (by omega), fun q => ⟨fun q2 => h2 (by omega), fun q2 => h1 (by omega)⟩⟩, fun q => absurd q (by decide), fun _ q => absurd trivial q⟩
theorem s2_told2 {x : Int32} {QT QF : Prop} (h1 : 0 ≤ x.toInt ∧ x.toInt ≤ 11 → QT) (h2 : ¬ (0 ≤ x.toInt ∧ x.toInt ≤ 11) → QF) : P2_isTold 2 x QT QF := by
  unfold P2_isTold
  simp only [zlt, zle, Int32.reduceToInt]
  refine ⟨fun q => absurd q (by decide), fun q => absurd q (by decide), fun _ => ⟨fun q => h2 (by omega), fun q => ⟨fun q2 => h2 (by omega), fun q2 => h1 (by omega)⟩⟩, fun _ _ q => absurd trivial q⟩
theorem s2_isLump {x y z w : Int32} {QT QF : Prop} (h1 : lOK x.toInt y.toInt z.toInt w.toInt → QT) (h2 : ¬ lOK x.toInt y.toInt z.toInt w.toInt → QF) : P2_isLump x y z w QT QF := by
  unfold P2_isLump
  refine s2_told0 (fun c1 => s2_told1 (fun c2 => s2_told2 (fun c3 => ?_) (fun c3 => h2 (fun q => c3 q.2.2.1))) (fun c2 => h2 (fun q => c2 q.2.1))) (fun c1 => h2 (fun q => c1 q.1))
  simp only [zlt, Int32.reduceToInt]
  exact ⟨fun q => h2 (fun z => by have := z.2.2.2; omega), fun q => ⟨fun q2 => h2 (fun z => by have := z.2.2.2; omega), fun q2 => h1 ⟨c1, c2, c3, by omega, by omega⟩⟩⟩
theorem s11_isOne {x y z w : Int64} {QT QF : Prop} (h1 : lOK x.toInt y.toInt z.toInt w.toInt → QT) (h2 : ¬ lOK x.toInt y.toInt z.toInt w.toInt → QF) : P11_isOne x y z w QT QF := by
  unfold P11_isOne
  simp only [ch_within, Int64.reduceToInt]
  by_cases c1 : 1 ≤ x.toInt ∧ x.toInt ≤ 50
  · rw [if_pos c1]
    by_cases c2 : 0 ≤ y.toInt ∧ y.toInt ≤ 99
    · rw [if_pos c2]
      by_cases c3 : 0 ≤ z.toInt ∧ z.toInt ≤ 11
      · rw [if_pos c3]
        by_cases c4 : 0 ≤ w.toInt ∧ w.toInt ≤ 9
        · rw [if_pos c4]; exact h1 ⟨c1, c2, c3, c4⟩
        · rw [if_neg c4]; exact h2 (fun q => c4 q.2.2.2)
      · rw [if_neg c3]; exact h2 (fun q => c3 q.2.2.1)
    · rw [if_neg c2]; exact h2 (fun q => c2 q.2.1)
  · rw [if_neg c1]; exact h2 (fun q => c1 q.1)
def jX (a : mw_M) (n : Nat) (x y z w : Int32) : mw_M := mw_I (mw_I (mw_I (mw_I (mw_I a 2 n x) 3 n y) 4 n z) 5 n w) 1 4 (nI (n + 1))
def jM (m : mw_M) (n : Nat) (x y z w : Int32) : mw_M := mw_I (mw_I (mw_I (mw_I (mw_I m 1 n x) 1 (12 + n) y) 1 (24 + n) z) 5 n w) 0 6 (nI (n + 1))
theorem s2_join {a : mw_M} {n : Nat} (hn : n < 12) (h : a.1 1 4 = nI n) {x y z w : Int32} {Q : Int32 → mw_M → Prop} (hQ : Q (nI n) (jX a n x y z w)) : P2_join 1 x y z w a Q := by
  obtain ⟨f1, f2, f3⟩ := dfac hn (by decide)
  unfold P2_join
  simp only [forall_eq, mw_I_ne (show (1 : Nat) ≠ 1 + 1 by decide), mw_I_ne (show (1 : Nat) ≠ 1 + 2 by decide), mw_I_ne (show (1 : Nat) ≠ 1 + 3 by decide), mw_I_ne (show (1 : Nat) ≠ 1 + 4 by decide), mw_I_at, h, f2, f3, true_and, nI_1, nI_pred]
  exact ⟨fun _ => hQ, fun q => absurd (nI_lt (b := 12) hn (by decide)) q⟩
theorem z12 (n : Nat) : (12 : Int32) + nI n = nI (12 + n) := nI_add 12 n
theorem z24 (n : Nat) : (24 : Int32) + nI n = nI (24 + n) := nI_add 24 n
theorem s11_adds {m : mw_M} {n : Nat} (hn : n < 12) (h : m.1 0 6 = nI n) {x y z w : Int32} {Q : mw_M → Prop} (hQ : Q (jM m n x y z w)) : P11_adds x y z w m Q := by
  unfold P11_adds
  simp only [forall_eq, mw_I_ne (show (0 : Nat) ≠ 1 by decide), mw_I_ne (show (0 : Nat) ≠ 5 by decide), h, z12, z24, nI_1, nI_clamp (show n < 2 ^ 31 by omega), nI_clamp (show 12 + n < 2 ^ 31 by omega), nI_clamp (show 24 + n < 2 ^ 31 by omega)]
  exact ⟨vp_in_nI (by omega) (by decide), vp_in_nI (by omega) (by decide), vp_in_nI (by omega) (by decide), vp_in_nI (by omega) (by decide), hQ⟩
theorem CH1.mono {n k : Nat} {a7 a8 a9 a10 m2 m3 m4 : Int32} (h : CH1 n a7 a8 a9 a10 m2 m3 m4) (hn : n ≤ k) : CH1 k a7 a8 a9 a10 m2 m3 m4 := by
  obtain ⟨x, w, v0, v1, h1, h2, h3, h4, h5, h6, h7⟩ := h
  refine ⟨x, w, v0, v1, h1, h2, h3, h4, h5, h6, ?_⟩
  rcases h7 with h7 | ⟨g1, g2, g3⟩
  · exact Or.inl h7
  · exact Or.inr ⟨g1, by omega, g3⟩
theorem CH.fr {n : Nat} {a m u v : mw_M} (h : CH n a m) (hx : u.1 6 = a.1 6 ∧ u.1 7 = a.1 7 ∧ u.1 8 = a.1 8 ∧ u.1 9 = a.1 9 ∧ u.1 10 = a.1 10) (hm : v.1 2 = m.1 2 ∧ v.1 3 = m.1 3 ∧ v.1 4 = m.1 4) (hj : v.1 0 4 = m.1 0 4 ∧ v.1 0 5 = m.1 0 5) : CH n u v := by
  unfold CH at h ⊢
  rw [hx.1, hx.2.1, hx.2.2.1, hx.2.2.2.1, hx.2.2.2.2, hm.1, hm.2.1, hm.2.2, hj.1, hj.2]
  exact h
theorem CH.mono {n k : Nat} {a m : mw_M} (h : CH n a m) (hn : n ≤ k) : CH k a m := by
  obtain ⟨dn, kn, h1, h2, h3, h4, h5, h6, h7⟩ := h
  exact ⟨dn, kn, h1, h2, h3, h4, h5, h6, fun i hi => (h7 i hi).mono hn⟩
/-- one lump more, on both sides -/
theorem j_RLoad {a m : mw_M} {n : Nat} {f : Nat → Nat → Nat} {c : Nat} (hL : LOK n f c) (hX : XL 1 a n f c) (hM : ML m n f c) (hC : CH n a m) (hn : n < 12) {x y z w : Nat} (h : lOK x y z w) : LOK (n + 1) (fun q i => if i = n then (if q = 0 then x else if q = 1 then y else if q = 2 then z else w) else f q i) c ∧ XL 1 (jX a n (nI x) (nI y) (nI z) (nI w)) (n + 1) (fun q i => if i = n then (if q = 0 then x else if q = 1 then y else if q = 2 then z else w) else f q i) c ∧ ML (jM m n (nI x) (nI y) (nI z) (nI w)) (n + 1) (fun q i => if i = n then (if q = 0 then x else if q = 1 then y else if q = 2 then z else w) else f q i) c ∧ CH (n + 1) (jX a n (nI x) (nI y) (nI z) (nI w)) (jM m n (nI x) (nI y) (nI z) (nI w)) := by
  obtain ⟨g1, g2, g3, g4⟩ := h
  refine ⟨⟨by omega, hL.2.1, fun i hi => ?_⟩, ⟨?_, ?_, fun i hi => ?_⟩, ⟨?_, ?_, fun i hi => ?_⟩, ?_⟩
  · by_cases e : i = n
    · subst e; simp; omega
    · simp only [if_neg e]; exact hL.2.2 i (by omega)
  · simp [jX, mw_I_get]
  · simpa [jX, mw_I_get] using hX.2.1
  · by_cases e : i = n
    · subst e; simp [jX, mw_I_get]
    · simpa [jX, mw_I_get, e] using hX.2.2 i (by omega)
  · simp [jM, mw_I_get]
  · have h1 : ¬ 36 = n := by omega
    have h2 : ¬ 36 = 12 + n := by omega
    have h3 : ¬ 36 = 24 + n := by omega
    simpa [jM, mw_I_get, h1, h2, h3] using hM.2.1
  · by_cases e : i = n
    · subst e
      have h1 : ¬ i = 12 + i := by omega
      have h2 : ¬ i = 24 + i := by omega
      have h3 : ¬ 12 + i = 24 + i := by omega
      have h4 : ¬ 12 + i = i := by omega
      have h5 : ¬ 24 + i = i := by omega
      have h6 : ¬ 24 + i = 12 + i := by omega
      simp [jM, mw_I_get, h1, h2, h3, h4, h5, h6]
    · have h1 : ¬ i = 12 + n := by omega
      have h2 : ¬ i = 24 + n := by omega
      have h3 : ¬ 12 + i = 24 + n := by omega
      have h4 : ¬ 12 + i = n := by omega
      have h5 : ¬ 24 + i = n := by omega
      have h6 : ¬ 24 + i = 12 + n := by omega
      have h7 : ¬ 12 + i = 12 + n := by omega
      have h8 : ¬ 24 + i = 24 + n := by omega
      simpa [jM, mw_I_get, e, h1, h2, h3, h4, h5, h6, h7, h8] using hM.2.2 i (by omega)
  · exact (hC.mono (by omega)).fr ⟨rfl, rfl, rfl, rfl, rfl⟩ ⟨rfl, rfl, rfl⟩ ⟨rfl, rfl⟩
theorem jX_fx {a : mw_M} {n : Nat} {x y z w : Int32} : FX [1, 2, 3, 4, 5] a (jX a n x y z w) := ((((FX.rf.I (by decide)).I (by decide)).I (by decide)).I (by decide)).I (by decide)
theorem jM_fm {m : mw_M} {n : Nat} {x y z w : Int32} : FM [1, 5] [6] m (jM m n x y z w) := ((((FM.rf.I (by decide) (by decide)).I (by decide) (by decide)).I (by decide) (by decide)).I (by decide) (by decide)).O (by decide)
/-- lump -/
theorem op_lump {a m : mw_M} (hR : RLoad a m) {p1 p2 : Int32} {Q : Int32 → mw_M → Int32 → mw_M → Prop} (hQ : ∀ r u v, FX [1, 2, 3, 4, 5] a u → FM [1, 5] [6] m v → RLoad u v → Q r u r v) : P10_lump p1 p2 a (fun r u => P11_lump p1 p2 m (fun r' v => Q r u r' v)) := by
  have same : ∀ r, Q r a r m := fun r => hQ _ _ _ FX.rf FM.rf hR
  obtain ⟨n, f, c, hL, hX, hM, hC⟩ := hR
  unfold P10_lump P11_lump P2_isFull
  simp only [if_ab]
  by_cases c1 : p1 < 0
  · simp only [if_pos c1]; exact same _
  · simp only [if_neg c1]
    by_cases c2 : p2 < 0
    · simp only [if_pos c2]; exact same _
    · simp only [if_neg c2]
      obtain ⟨p, hp, rfl⟩ := nI_get (x := p1) (by rw [zlt] at c1; simp only [Int32.reduceToInt] at c1; omega)
      obtain ⟨q, hq, rfl⟩ := nI_get (x := p2) (by rw [zlt] at c2; simp only [Int32.reduceToInt] at c2; omega)
      rw [d100 hp, r100 hp, d10 hq, r10 hq]
      have t : ∀ k : Nat, k < 2147483648 → (nI k).toInt64.toInt = (k : Int) := fun k hk => by rw [toL, nI_toInt (by omega)]
      refine s2_isLump (fun h => ?_) (fun h => ?_)
      · rw [nI_toInt (by omega), nI_toInt (by omega), nI_toInt (by omega), nI_toInt (by omega)] at h
        rw [hX.1, hM.1]
        by_cases h12 : n < 12
        · simp only [if_pos (show nI n < 12 from nI_lt (b := 12) h12 (by decide)), if_neg (show ¬ nI n = 12 from fun e => by rw [show (12 : Int32) = nI 12 from rfl, nI_eq (by omega) (by decide)] at e; omega)]
          refine s2_join h12 hX.1 (s11_isOne (fun h' => s11_adds h12 hM.1 ?_) (fun h' => absurd ?_ h'))
          · rw [show (jM m n (nI (p / 100)) (nI (p % 100)) (nI (q / 10)) (nI (q % 10))).1 0 6 = nI (n + 1) from by simp [jM, mw_I_get], nI_pred]
            obtain ⟨e1, e2, e3, e4⟩ := j_RLoad hL hX hM hC h12 h
            exact hQ _ _ _ jX_fx jM_fm ⟨_, _, _, e1, e2, e3, e4⟩
          · rw [t _ (by omega), t _ (by omega), t _ (by omega), t _ (by omega)]; exact h
        · have e12 : n = 12 := by have := hL.1; omega
          subst e12
          rw [if_neg (show ¬ nI 12 < 12 by decide), if_pos (show nI 12 = 12 from rfl)]
          refine s11_isOne (fun h' => same _) (fun h' => absurd ?_ h')
          rw [t _ (by omega), t _ (by omega), t _ (by omega), t _ (by omega)]; exact h
      · rw [nI_toInt (by omega), nI_toInt (by omega), nI_toInt (by omega), nI_toInt (by omega)] at h
        refine s11_isOne (fun h' => absurd ?_ h) (fun h' => same _)
        rw [t _ (by omega), t _ (by omega), t _ (by omega), t _ (by omega)] at h'; exact h'
/-- of -/
theorem op_of {a m : mw_M} (hR : RLoad a m) {p1 p2 : Int32} {Q : Int32 → Int32 → Prop} (hQ : ∀ r, Q r r) : P10_of p1 p2 a (fun r => P11_of p1 p2 m (fun r' => Q r r')) := by
  obtain ⟨n, f, c, hL, hX, hM, hC⟩ := hR
  have hn := hL.1
  unfold P10_of P11_of P2_told
  simp only [ch2_hasLump (show n < 2147483648 by omega) hX.1, ch11_isLump hn hM.1, ch_within, toL]
  by_cases c1 : 0 ≤ p1.toInt ∧ p1.toInt < n
  · simp only [if_pos c1]
    obtain ⟨k, hk, rfl⟩ := nI_get c1.1
    rw [nI_toInt (by omega)] at c1
    have hkn : k < n := by omega
    by_cases c2 : 0 ≤ p2.toInt ∧ p2.toInt ≤ 3
    · obtain ⟨w, hw, rfl⟩ := nI_get c2.1
      rw [nI_toInt (by omega)] at c2
      obtain ⟨x1, x2, x3, x4⟩ := hX.2.2 k hkn
      obtain ⟨y1, y2, y3, y4⟩ := hM.2.2 k hkn
      obtain ⟨f1, f2, f3⟩ := dfac (N := 12) (d := k) (by omega) (by decide)
      have hw4 : w < 4 := by omega
      refine ⟨fun q => absurd q (nI_pos (by omega)), fun _ => ⟨fun _ => ⟨fun q => ?_, fun _ => ⟨fun q => ?_, fun q => ?_, fun q => ?_, fun q => ?_, fun q1 q2 q3 q4 => ?_⟩⟩, fun q => absurd (nI_le (b := 3) (by omega) (by decide)) q⟩⟩
      · rw [show (4 : Int32) = nI 4 from rfl, nI_eq (by omega) (by decide)] at q; omega
      · rw [show (0 : Int32) = nI 0 from rfl, nI_eq (by omega) (by decide)] at q
        subst q
        refine ⟨by rw [f2]; trivial, ?_⟩
        rw [if_pos (by decide), f3, x1]
        refine ⟨fun q => absurd q (by decide), fun _ => ?_⟩
        rw [show (12 : Int32) * nI 0 + nI k = nI (0 + k) from by rw [show (12 : Int32) * nI 0 = nI 0 from rfl, nI_add], Nat.zero_add, f3, y1]
        exact ⟨vp_in_nI (by omega) (by decide), hQ _⟩
      · rw [show (1 : Int32) = nI 1 from rfl, nI_eq (by omega) (by decide)] at q
        subst q
        refine ⟨by rw [f2]; trivial, ?_⟩
        rw [if_pos (by decide), f3, x2]
        refine ⟨fun q => absurd q (by decide), fun _ => ?_⟩
        rw [show (12 : Int32) * nI 1 + nI k = nI (12 + k) from by rw [show (12 : Int32) * nI 1 = nI 12 from rfl, nI_add], nI_clamp (by omega), y2]
        exact ⟨vp_in_nI (by omega) (by decide), hQ _⟩
      · rw [show (2 : Int32) = nI 2 from rfl, nI_eq (by omega) (by decide)] at q
        subst q
        refine ⟨by rw [f2]; trivial, ?_⟩
        rw [if_pos (by decide), f3, x3]
        refine ⟨fun q => absurd q (by decide), fun _ => ?_⟩
        rw [show (12 : Int32) * nI 2 + nI k = nI (24 + k) from by rw [show (12 : Int32) * nI 2 = nI 24 from rfl, nI_add], nI_clamp (by omega), y3]
        exact ⟨vp_in_nI (by omega) (by decide), hQ _⟩
      · rw [show (3 : Int32) = nI 3 from rfl, nI_eq (by omega) (by decide)] at q
        subst q
        refine ⟨by rw [f2]; trivial, ?_⟩
        rw [if_pos (by decide), f3, x4]
        refine ⟨fun _ => ⟨by rw [f2]; trivial, by rw [y4]; exact hQ _⟩, fun q => absurd rfl q⟩
      · exfalso
        rcases (show w = 0 ∨ w = 1 ∨ w = 2 ∨ w = 3 by omega) with rfl | rfl | rfl | rfl
        · exact q1 rfl
        · exact q2 rfl
        · exact q3 rfl
        · exact q4 rfl
    · simp only [zlt, zle, Int32.reduceToInt, Int64.reduceToInt]
      rw [if_neg c2]
      exact ⟨fun _ => hQ _, fun q => ⟨fun q2 => absurd ⟨by omega, q2⟩ c2, fun _ => hQ _⟩⟩
  · simp only [if_neg c1]
    exact hQ _
/-- telling -/
def tcell (w : Nat) : Nat := if w = 0 then 2 else if w = 1 then 3 else 4
def tX (a : mw_M) (k w : Nat) (v : Int32) : mw_M := if w = 4 then mw_I a 1 5 v else mw_I a (tcell w) k v
def tpl (k w : Nat) : Nat := if w = 4 then 36 else 12 * w + k
/-- a place that may be told: a lump's field, or the counterweight -/
def pOK (n k w : Nat) : Prop := (w = 4 ∧ k = 0) ∨ (w < 3 ∧ k < n)
def vOK4 (w v : Nat) : Prop := (w = 4 ∧ v < 10000 ∧ v % 100 < 12) ∨ (w < 3 ∧ vOK w v)
theorem s2_tell {a : mw_M} {n k w : Nat} (hn : n ≤ 12) (h4 : a.1 1 4 = nI n) (hp : pOK n k w) {v : Int32} {Q : mw_M → Prop} (hQ : Q (tX a k w v)) : P2_tell 1 (nI k) (nI w) v a Q := by
  unfold P2_tell
  rcases hp with ⟨rfl, rfl⟩ | ⟨hw, hk⟩
  · refine ⟨fun _ u hu => ?_, fun q => absurd rfl q⟩
    subst hu
    have e : (mw_I a 1 5 v).1 1 4 = nI n := (mw_I_nj (by decide)).trans h4
    rw [ch2_hasLump (show n < 2147483648 by omega) e]
    have key : Q (mw_I a 1 5 v) := hQ
    by_cases c : 0 ≤ (nI 0).toInt ∧ (nI 0).toInt < n
    · rw [if_pos c]
      exact ⟨fun q => absurd q (by decide), fun _ => ⟨fun q => absurd q (by decide), fun _ => ⟨fun q => absurd q (by decide), fun _ => key⟩⟩⟩
    · rw [if_neg c]; exact key
  · obtain ⟨f1, f2, f3⟩ := dfac (N := 12) (d := k) (by omega) (by decide)
    have key : Q (mw_I a (tcell w) k v) := by rw [tX, if_neg (by omega)] at hQ; exact hQ
    refine ⟨fun q => ?_, fun _ => ?_⟩
    · rw [show (4 : Int32) = nI 4 from rfl, nI_eq (by omega) (by decide)] at q; omega
    · rw [ch2_hasLump (show n < 2147483648 by omega) h4, if_pos (by rw [f1]; omega)]
      simp only [f2, f3, true_and, forall_eq]
      rcases (show w = 0 ∨ w = 1 ∨ w = 2 by omega) with rfl | rfl | rfl
      · exact ⟨fun _ => ⟨fun q => absurd q (by decide), fun _ => ⟨fun q => absurd q (by decide), fun _ => key⟩⟩, fun q => absurd rfl q⟩
      · exact ⟨fun q => absurd q (by decide), fun _ => ⟨fun _ => ⟨fun q => absurd q (by decide), fun _ => key⟩, fun q => absurd rfl q⟩⟩
      · exact ⟨fun q => absurd q (by decide), fun _ => ⟨fun q => absurd q (by decide), fun _ => ⟨fun _ => key, fun q => absurd rfl q⟩⟩⟩
/-- what stands at a place -/
def tval (f : Nat → Nat → Nat) (c k w : Nat) : Nat := if w = 4 then c else f w k
theorem s2_told {a : mw_M} {n k w c : Nat} {f : Nat → Nat → Nat} (hn : n ≤ 12) (hX : XL 1 a n f c) (hp : pOK n k w) {Q : Int32 → Prop} (hQ : Q (nI (tval f c k w))) : P2_told 1 (nI k) (nI w) a Q := by
  unfold P2_told
  rcases hp with ⟨rfl, rfl⟩ | ⟨hw, hk⟩
  · exact ⟨fun _ => by rw [hX.2.1]; exact hQ, fun q => absurd rfl q⟩
  · obtain ⟨f1, f2, f3⟩ := dfac (N := 12) (d := k) (by omega) (by decide)
    obtain ⟨x1, x2, x3, x4⟩ := hX.2.2 k hk
    refine ⟨fun q => ?_, fun _ => ?_⟩
    · rw [show (4 : Int32) = nI 4 from rfl, nI_eq (by omega) (by decide)] at q; omega
    · rw [ch2_hasLump (show n < 2147483648 by omega) hX.1, if_pos (by rw [f1]; omega)]
      simp only [f2, f3, true_and, x1, x2, x3, x4]
      rcases (show w = 0 ∨ w = 1 ∨ w = 2 by omega) with rfl | rfl | rfl
      · exact ⟨fun _ => hQ, fun q => absurd q (by decide), fun q => absurd q (by decide), fun q => absurd q (by decide), fun q => absurd rfl q⟩
      · exact ⟨fun q => absurd q (by decide), fun _ => hQ, fun q => absurd q (by decide), fun q => absurd q (by decide), fun _ q => absurd rfl q⟩
      · exact ⟨fun q => absurd q (by decide), fun q => absurd q (by decide), fun _ => hQ, fun q => absurd q (by decide), fun _ _ q => absurd rfl q⟩
theorem tval_m {m : mw_M} {n k w c : Nat} {f : Nat → Nat → Nat} (hM : ML m n f c) (hp : pOK n k w) : m.1 1 (tpl k w) = nI (tval f c k w) := by
  rcases hp with ⟨rfl, rfl⟩ | ⟨hw, hk⟩
  · exact hM.2.1
  · obtain ⟨y1, y2, y3, y4⟩ := hM.2.2 k hk
    rcases (show w = 0 ∨ w = 1 ∨ w = 2 by omega) with rfl | rfl | rfl
    · simpa [tpl, tval] using y1
    · simpa [tpl, tval] using y2
    · simpa [tpl, tval] using y3
theorem tpl_lt {n k w : Nat} (hn : n ≤ 12) (hp : pOK n k w) : tpl k w < 37 := by
  unfold tpl
  rcases hp with ⟨rfl, rfl⟩ | ⟨hw, hk⟩
  · decide
  · rw [if_neg (by omega)]; omega
def fset (f : Nat → Nat → Nat) (w k v : Nat) : Nat → Nat → Nat := fun q i => if q = w ∧ i = k then v else f q i
/-- a place told on both sides -/
theorem t_RL {a m : mw_M} {n k w c v : Nat} {f : Nat → Nat → Nat} (hL : LOK n f c) (hX : XL 1 a n f c) (hM : ML m n f c) (hp : pOK n k w) (hv : vOK4 w v) : LOK n (fset f w k v) (if w = 4 then v else c) ∧ XL 1 (tX a k w (nI v)) n (fset f w k v) (if w = 4 then v else c) ∧ ML (mw_I m 1 (tpl k w) (nI v)) n (fset f w k v) (if w = 4 then v else c) := by
  have hn := hL.1
  rcases hp with ⟨rfl, rfl⟩ | ⟨hw, hk⟩
  · have hv' : v < 10000 ∧ v % 100 < 12 := by
      rcases hv with h | h
      · exact h.2
      · omega
    have e : ∀ q i, q < 4 → fset f 4 0 v q i = f q i := fun q i hq => if_neg (by omega)
    refine ⟨⟨hn, hv', fun i hi => ?_⟩, ⟨?_, ?_, fun i hi => ?_⟩, ⟨?_, ?_, fun i hi => ?_⟩⟩
    · rw [e 0 i (by decide), e 1 i (by decide), e 2 i (by decide), e 3 i (by decide)]; exact hL.2.2 i hi
    · exact (mw_I_nj (by decide)).trans hX.1
    · exact mw_I_at _ _ _ _
    · rw [e 0 i (by decide), e 1 i (by decide), e 2 i (by decide), e 3 i (by decide)]; exact hX.2.2 i hi
    · exact hM.1
    · exact mw_I_at _ _ _ _
    · rw [e 0 i (by decide), e 1 i (by decide), e 2 i (by decide), e 3 i (by decide)]
      have h := hM.2.2 i hi
      rw [show tpl 0 4 = 36 from rfl, mw_I_nj (show i ≠ 36 by omega), mw_I_nj (show 12 + i ≠ 36 by omega), mw_I_nj (show 24 + i ≠ 36 by omega)]
      exact h
  · have hv' : vOK w v := by
      rcases hv with h | h
      · omega
      · exact h.2
    have hw4 : ¬ w = 4 := by omega
    simp only [if_neg hw4]
    have e3 : ∀ i, fset f w k v 3 i = f 3 i := fun i => if_neg (by omega)
    unfold tX tpl
    rw [if_neg hw4, if_neg hw4]
    refine ⟨⟨hn, hL.2.1, fun i hi => ?_⟩, ⟨?_, ?_, fun i hi => ?_⟩, ⟨?_, ?_, fun i hi => ?_⟩⟩
    · have h := hL.2.2 i hi
      by_cases e : i = k
      · subst e
        rcases hv' with ⟨rfl, q⟩ | ⟨rfl, q⟩ | ⟨rfl, q⟩ <;> simp [fset] <;> omega
      · simp only [fset, e, and_false, if_false]; exact h
    · rcases (show w = 0 ∨ w = 1 ∨ w = 2 by omega) with rfl | rfl | rfl <;> exact hX.1
    · rcases (show w = 0 ∨ w = 1 ∨ w = 2 by omega) with rfl | rfl | rfl <;> exact hX.2.1
    · have h := hX.2.2 i hi
      by_cases e : i = k
      · subst e
        simp only [Nat.reduceAdd] at h
        rcases (show w = 0 ∨ w = 1 ∨ w = 2 by omega) with rfl | rfl | rfl <;> simp [tcell, fset, mw_I_get, h]
      · rcases (show w = 0 ∨ w = 1 ∨ w = 2 by omega) with rfl | rfl | rfl <;> simpa [tcell, fset, mw_I_get, e] using h
    · exact hM.1
    · rw [mw_I_nj (show 36 ≠ 12 * w + k by omega)]; exact hM.2.1
    · have h := hM.2.2 i hi
      by_cases e : i = k
      · subst e
        have h1 : ¬ i = 12 + i := by omega
        have h2 : ¬ i = 24 + i := by omega
        have h3 : ¬ 12 + i = 24 + i := by omega
        have h4 : ¬ 12 + i = i := by omega
        have h5 : ¬ 24 + i = i := by omega
        have h6 : ¬ 24 + i = 12 + i := by omega
        rcases (show w = 0 ∨ w = 1 ∨ w = 2 by omega) with rfl | rfl | rfl <;> simp [fset, mw_I_get, h1, h2, h3, h4, h5, h6, h]
      · have h1 : ¬ i = 12 + k := by omega
        have h2 : ¬ i = 24 + k := by omega
        have h3 : ¬ 12 + i = 24 + k := by omega
        have h4 : ¬ 12 + i = k := by omega
        have h5 : ¬ 24 + i = k := by omega
        have h6 : ¬ 24 + i = 12 + k := by omega
        rcases (show w = 0 ∨ w = 1 ∨ w = 2 by omega) with rfl | rfl | rfl <;> simpa [fset, mw_I_get, e, h1, h2, h3, h4, h5, h6] using h
theorem tX_fx {a : mw_M} {k w : Nat} {v : Int32} {S : List Nat} {u : mw_M} (h : FX S a u) (hS : ∀ q ∈ [1, 2, 3, 4], q ∈ S) : FX S a (tX u k w v) := by
  unfold tX tcell
  by_cases c : w = 4
  · rw [if_pos c]; exact h.I (hS 1 (by decide))
  · rw [if_neg c]
    by_cases c0 : w = 0
    · rw [if_pos c0]; exact h.I (hS 2 (by decide))
    · rw [if_neg c0]
      by_cases c1 : w = 1
      · rw [if_pos c1]; exact h.I (hS 3 (by decide))
      · rw [if_neg c1]; exact h.I (hS 4 (by decide))
/-- the oldest change goes -/
def dpX (a : mw_M) (i : Nat) : mw_M := (fun c j => if (c = 7 ∨ c = 8 ∨ c = 9 ∨ c = 10) ∧ j + 1 < i then a.1 c (j + 1) else a.1 c j, a.2)
def dpM (m : mw_M) (i : Nat) : mw_M := (fun c j => if (c = 2 ∨ c = 3 ∨ c = 4) ∧ j + 1 < i then m.1 c (j + 1) else m.1 c j, m.2)
theorem dpX_1 (a : mw_M) : dpX a 1 = a := Prod.ext (funext fun c => funext fun j => if_neg (by omega)) rfl
theorem dpM_1 (a : mw_M) : dpM a 1 = a := Prod.ext (funext fun c => funext fun j => if_neg (by omega)) rfl
theorem dpX_at {a : mw_M} {i c : Nat} : (dpX a i).1 c i = a.1 c i := if_neg (by omega)
theorem dpM_at {a : mw_M} {i c : Nat} : (dpM a i).1 c i = a.1 c i := if_neg (by omega)
theorem dpX_row {a : mw_M} {i c : Nat} (h : ¬ (c = 7 ∨ c = 8 ∨ c = 9 ∨ c = 10)) : (dpX a i).1 c = a.1 c := by
  funext j
  show (if (c = 7 ∨ c = 8 ∨ c = 9 ∨ c = 10) ∧ j + 1 < i then a.1 c (j + 1) else a.1 c j) = _
  rw [if_neg (fun q => h q.1)]
theorem dpM_row {a : mw_M} {i c : Nat} (h : ¬ (c = 2 ∨ c = 3 ∨ c = 4)) : (dpM a i).1 c = a.1 c := by
  funext j
  show (if (c = 2 ∨ c = 3 ∨ c = 4) ∧ j + 1 < i then a.1 c (j + 1) else a.1 c j) = _
  rw [if_neg (fun q => h q.1)]
theorem dpX_in {a : mw_M} {i c j : Nat} (h : c = 7 ∨ c = 8 ∨ c = 9 ∨ c = 10) (hj : j + 1 < i) : (dpX a i).1 c j = a.1 c (j + 1) := by
  show (if (c = 7 ∨ c = 8 ∨ c = 9 ∨ c = 10) ∧ j + 1 < i then a.1 c (j + 1) else a.1 c j) = _
  rw [if_pos ⟨h, hj⟩]
theorem dpM_in {a : mw_M} {i c j : Nat} (h : c = 2 ∨ c = 3 ∨ c = 4) (hj : j + 1 < i) : (dpM a i).1 c j = a.1 c (j + 1) := by
  show (if (c = 2 ∨ c = 3 ∨ c = 4) ∧ j + 1 < i then a.1 c (j + 1) else a.1 c j) = _
  rw [if_pos ⟨h, hj⟩]
theorem dpX_s {a : mw_M} {i : Nat} (hi : 1 ≤ i) : mw_I (mw_I (mw_I (mw_I (dpX a i) 7 (i - 1) (a.1 7 i)) 8 (i - 1) (a.1 8 i)) 9 (i - 1) (a.1 9 i)) 10 (i - 1) (a.1 10 i) = dpX a (i + 1) := by
  refine Prod.ext (funext fun c => funext fun j => ?_) rfl
  simp only [mw_I_get]
  show _ = if (c = 7 ∨ c = 8 ∨ c = 9 ∨ c = 10) ∧ j + 1 < i + 1 then a.1 c (j + 1) else a.1 c j
  by_cases hj : j = i - 1
  · subst hj
    have e : i - 1 + 1 = i := by omega
    by_cases h10 : c = 10
    · subst h10; rw [if_pos ⟨rfl, rfl⟩, if_pos (by omega), e]
    · rw [if_neg (fun q => h10 q.1)]
      by_cases h9 : c = 9
      · subst h9; rw [if_pos ⟨rfl, rfl⟩, if_pos (by omega), e]
      · rw [if_neg (fun q => h9 q.1)]
        by_cases h8 : c = 8
        · subst h8; rw [if_pos ⟨rfl, rfl⟩, if_pos (by omega), e]
        · rw [if_neg (fun q => h8 q.1)]
          by_cases h7 : c = 7
          · subst h7; rw [if_pos ⟨rfl, rfl⟩, if_pos (by omega), e]
          · rw [if_neg (fun q => h7 q.1), if_neg (by omega)]
            exact if_neg (by omega)
  · rw [if_neg (fun q => hj q.2), if_neg (fun q => hj q.2), if_neg (fun q => hj q.2), if_neg (fun q => hj q.2)]
    show (if (c = 7 ∨ c = 8 ∨ c = 9 ∨ c = 10) ∧ j + 1 < i then a.1 c (j + 1) else a.1 c j) = _
    by_cases q : (c = 7 ∨ c = 8 ∨ c = 9 ∨ c = 10) ∧ j + 1 < i
    · rw [if_pos q, if_pos ⟨q.1, by omega⟩]
    · rw [if_neg q, if_neg (fun z => q ⟨z.1, by omega⟩)]
theorem dpM_s {a : mw_M} {i : Nat} (hi : 1 ≤ i) : mw_I (mw_I (mw_I (dpM a i) 2 (i - 1) (a.1 2 i)) 3 (i - 1) (a.1 3 i)) 4 (i - 1) (a.1 4 i) = dpM a (i + 1) := by
  refine Prod.ext (funext fun c => funext fun j => ?_) rfl
  simp only [mw_I_get]
  show _ = if (c = 2 ∨ c = 3 ∨ c = 4) ∧ j + 1 < i + 1 then a.1 c (j + 1) else a.1 c j
  by_cases hj : j = i - 1
  · subst hj
    have e : i - 1 + 1 = i := by omega
    by_cases h9 : c = 4
    · subst h9; rw [if_pos ⟨rfl, rfl⟩, if_pos (by omega), e]
    · rw [if_neg (fun q => h9 q.1)]
      by_cases h8 : c = 3
      · subst h8; rw [if_pos ⟨rfl, rfl⟩, if_pos (by omega), e]
      · rw [if_neg (fun q => h8 q.1)]
        by_cases h7 : c = 2
        · subst h7; rw [if_pos ⟨rfl, rfl⟩, if_pos (by omega), e]
        · rw [if_neg (fun q => h7 q.1), if_neg (by omega)]
          exact if_neg (by omega)
  · rw [if_neg (fun q => hj q.2), if_neg (fun q => hj q.2), if_neg (fun q => hj q.2)]
    show (if (c = 2 ∨ c = 3 ∨ c = 4) ∧ j + 1 < i then a.1 c (j + 1) else a.1 c j) = _
    by_cases q : (c = 2 ∨ c = 3 ∨ c = 4) ∧ j + 1 < i
    · rw [if_pos q, if_pos ⟨q.1, by omega⟩]
    · rw [if_neg q, if_neg (fun z => q ⟨z.1, by omega⟩)]
theorem nI_sub1 {i : Nat} (h : 1 ≤ i) : nI i - 1 = nI (i - 1) := pk_sub (b := 1) h
theorem l1_drop {a : mw_M} {Q : mw_M → Prop} {K : Int32 → mw_M → Prop} (hK : K (nI 40) (dpX a 40)) : ∀ k i, 1 ≤ i → i + k = 40 → L1_dropOldest_2 Q K (k + 1) (nI i) (dpX a i) := by
  intro k
  induction k with
  | zero =>
    intro i h1 hi
    have e : i = 40 := by omega
    subst e
    unfold L1_dropOldest_2
    exact ⟨fun _ => hK, fun h => absurd (show (40 : Int32) ≤ nI 40 by decide) h⟩
  | succ k ih =>
    intro i h1 hi
    obtain ⟨f1, f2, f3⟩ := dfac (N := 40) (d := i) (by omega) (by decide)
    obtain ⟨g1, g2, g3⟩ := dfac (N := 40) (d := i - 1) (by omega) (by decide)
    unfold L1_dropOldest_2
    refine ⟨fun h => absurd h (nI_ge (a := i) (b := 40) (by omega) (by decide)), fun _ => ?_⟩
    rw [nI_sub1 h1]
    simp only [f2, g2, f3, g3, true_and, forall_eq, mw_I_ne (show (8 : Nat) ≠ 7 by decide), mw_I_ne (show (9 : Nat) ≠ 7 by decide), mw_I_ne (show (9 : Nat) ≠ 8 by decide), mw_I_ne (show (10 : Nat) ≠ 7 by decide), mw_I_ne (show (10 : Nat) ≠ 8 by decide), mw_I_ne (show (10 : Nat) ≠ 9 by decide), dpX_at, dpX_s h1, nI_1]
    exact ih (i + 1) (by omega) (by omega)
theorem l11_drop {a : mw_M} {x p1 p2 : Int32} {Q : Int32 → mw_M → Prop} {K : Int32 → mw_M → Prop} (hK : K (nI 40) (dpM a 40)) : ∀ k i, 1 ≤ i → i + k = 40 → L11_becomes_26 x p1 p2 Q K (k + 1) (nI i) (dpM a i) := by
  intro k
  induction k with
  | zero =>
    intro i h1 hi
    have e : i = 40 := by omega
    subst e
    unfold L11_becomes_26
    exact ⟨fun _ => hK, fun h => absurd (show (40 : Int32) ≤ nI 40 by decide) h⟩
  | succ k ih =>
    intro i h1 hi
    obtain ⟨f1, f2, f3⟩ := dfac (N := 40) (d := i) (by omega) (by decide)
    obtain ⟨g1, g2, g3⟩ := dfac (N := 40) (d := i - 1) (by omega) (by decide)
    unfold L11_becomes_26
    refine ⟨fun h => absurd h (nI_ge (a := i) (b := 40) (by omega) (by decide)), fun _ => ?_⟩
    rw [nI_sub1 h1]
    simp only [f2, g2, f3, g3, true_and, forall_eq, mw_I_ne (show (3 : Nat) ≠ 2 by decide), mw_I_ne (show (4 : Nat) ≠ 2 by decide), mw_I_ne (show (4 : Nat) ≠ 3 by decide), dpM_at, dpM_s h1, nI_1]
    exact ih (i + 1) (by omega) (by omega)
theorem s1_drop {a : mw_M} {Q : mw_M → Prop} (h : Q (mw_I (dpX a 40) 6 5 39)) : P1_dropOldest a Q := by
  unfold P1_dropOldest
  refine ⟨40, ?_⟩
  have hl := l1_drop (a := a) (Q := Q) (K := fun v1 μ2 => (∀ μ18 : mw_M, μ18 = mw_I μ2 6 5 39 → Q μ18)) (fun u hu => by subst hu; exact h) 39 1 (Nat.le_refl _) rfl
  rw [dpX_1] at hl
  exact hl
theorem s11_drop {a : mw_M} {x p1 p2 : Int32} {Q : Int32 → mw_M → Prop} {K : Int32 → mw_M → Prop} (hK : K (nI 40) (dpM a 40)) : ∃ n, L11_becomes_26 x p1 p2 Q K n 1 a := by
  refine ⟨40, ?_⟩
  have hl := l11_drop (a := a) (x := x) (p1 := p1) (p2 := p2) (Q := Q) hK 39 1 (Nat.le_refl _) rfl
  rw [dpM_1] at hl
  exact hl
/-- a change put down -/
def pX (a : mw_M) (dn k w v0 v : Nat) : mw_M := mw_I (mw_I (mw_I (mw_I (mw_I (mw_I a 7 dn (nI k)) 8 dn (nI w)) 9 dn (nI v0)) 10 dn (nI v)) 6 5 (nI (dn + 1))) 6 6 (nI (dn + 1))
def pM (m : mw_M) (dn e v0 v : Nat) : mw_M := mw_I (mw_I (mw_I (mw_I (mw_I m 2 dn (nI e)) 3 dn (nI v0)) 4 dn (nI v)) 0 5 (nI (dn + 1))) 0 4 (nI (dn + 1))
theorem p_CH {n : Nat} {a m : mw_M} {dn k w v0 v : Nat} (hd : dn < 40) (h : ∀ i, i < dn → CH1 n (a.1 7 i) (a.1 8 i) (a.1 9 i) (a.1 10 i) (m.1 2 i) (m.1 3 i) (m.1 4 i)) (hp : pOK n k w) (h0 : vOK4 w v0) (h1 : vOK4 w v) : CH n (pX a dn k w v0 v) (pM m dn (tpl k w) v0 v) := by
  refine ⟨dn + 1, dn + 1, Nat.le_refl _, by omega, ?_, ?_, ?_, ?_, fun i hi => ?_⟩
  · simp [pX, mw_I_get]
  · simp [pX, mw_I_get]
  · simp [pM, mw_I_get]
  · simp [pM, mw_I_get]
  · by_cases e : i = dn
    · subst e
      refine ⟨k, w, v0, v, by simp [pX, mw_I_get], by simp [pX, mw_I_get], by simp [pX, mw_I_get], by simp [pX, mw_I_get], by simp [pM, mw_I_get], by simp [pM, mw_I_get], ?_⟩
      rcases hp with ⟨rfl, rfl⟩ | ⟨hw, hk⟩
      · refine Or.inl ⟨rfl, rfl, by simp [pM, mw_I_get, tpl], ?_, ?_⟩
        · rcases h0 with h0 | h0
          · exact h0.2
          · omega
        · rcases h1 with h1 | h1
          · exact h1.2
          · omega
      · refine Or.inr ⟨hw, hk, by simp [pM, mw_I_get, tpl, show ¬ w = 4 by omega], ?_, ?_⟩
        · rcases h0 with h0 | h0
          · omega
          · exact h0.2
        · rcases h1 with h1 | h1
          · omega
          · exact h1.2
    · have h := h i (by omega)
      simpa [pX, pM, mw_I_get, e] using h
theorem pX_n {a : mw_M} {dn k w v0 v : Nat} : (pX a dn k w v0 v).1 1 = a.1 1 := rfl
theorem XL.fr {a u : mw_M} {n c : Nat} {f : Nat → Nat → Nat} (h : XL 1 a n f c) (h1 : u.1 1 = a.1 1) (h2 : u.1 2 = a.1 2) (h3 : u.1 3 = a.1 3) (h4 : u.1 4 = a.1 4) (h5 : u.1 5 = a.1 5) : XL 1 u n f c := by
  unfold XL at h ⊢
  simp only [Nat.reduceAdd] at h ⊢
  rw [h1, h2, h3, h4, h5]
  exact h
theorem ML.fr {a u : mw_M} {n c : Nat} {f : Nat → Nat → Nat} (h : ML a n f c) (h1 : u.1 1 = a.1 1) (h2 : u.1 0 6 = a.1 0 6) (h5 : u.1 5 = a.1 5) : ML u n f c := by
  unfold ML at h ⊢
  rw [h1, h2, h5]
  exact h
theorem tval_ok {n k w c : Nat} {f : Nat → Nat → Nat} (hL : LOK n f c) (hp : pOK n k w) : vOK4 w (tval f c k w) := by
  rcases hp with ⟨rfl, rfl⟩ | ⟨hw, hk⟩
  · exact Or.inl ⟨rfl, hL.2.1⟩
  · refine Or.inr ⟨hw, ?_⟩
    have h := hL.2.2 k hk
    rcases (show w = 0 ∨ w = 1 ∨ w = 2 by omega) with rfl | rfl | rfl
    · exact Or.inl ⟨rfl, h.1, h.2.1⟩
    · exact Or.inr (Or.inl ⟨rfl, h.2.2.1⟩)
    · exact Or.inr (Or.inr ⟨rfl, h.2.2.2.1⟩)
theorem vOK4_lt {w v : Nat} (h : vOK4 w v) : v < 10000 := by
  rcases h with h | ⟨-, h | h | h⟩ <;> omega
/-- a telling that changes something: both sides from the place where the kept changes have room -/
theorem tell_go {a m : mw_M} {n k w c v dn : Nat} {f : Nat → Nat → Nat} (hL : LOK n f c) (hX : XL 1 a n f c) (hM : ML m n f c) (hd : dn < 40) (hC : ∀ i, i < dn → CH1 n (a.1 7 i) (a.1 8 i) (a.1 9 i) (a.1 10 i) (m.1 2 i) (m.1 3 i) (m.1 4 i)) (hp : pOK n k w) (hv : vOK4 w v) : RLoad (tX (pX a dn k w (tval f c k w) v) k w (nI v)) (mw_I (pM m dn (tpl k w) (tval f c k w) v) 1 (tpl k w) (nI v)) := by
  have hX' : XL 1 (pX a dn k w (tval f c k w) v) n f c := hX.fr rfl rfl rfl rfl rfl
  have hM' : ML (pM m dn (tpl k w) (tval f c k w) v) n f c := hM.fr rfl rfl rfl
  obtain ⟨e1, e2, e3⟩ := t_RL hL hX' hM' hp hv
  have hc := p_CH hd hC hp (tval_ok hL hp) hv
  refine ⟨n, _, _, e1, e2, e3, hc.fr ?_ ⟨rfl, rfl, rfl⟩ ⟨rfl, rfl⟩⟩
  have h : FX [1, 2, 3, 4] (pX a dn k w (tval f c k w) v) (tX (pX a dn k w (tval f c k w) v) k w (nI v)) := tX_fx FX.rf (fun q h => h)
  exact ⟨(h 6 (by decide)).1, (h 7 (by decide)).1, (h 8 (by decide)).1, (h 9 (by decide)).1, (h 10 (by decide)).1⟩
theorem pX_fx {a u : mw_M} {dn k w v0 v : Nat} (h : FX [1, 2, 3, 4, 5, 6, 7, 8, 9, 10] a u) : FX [1, 2, 3, 4, 5, 6, 7, 8, 9, 10] a (pX u dn k w v0 v) := (((((h.I (by decide)).I (by decide)).I (by decide)).I (by decide)).I (by decide)).I (by decide)
theorem pM_fm {a u : mw_M} {dn e v0 v : Nat} (h : FM [1, 2, 3, 4, 5] [4, 5, 6] a u) : FM [1, 2, 3, 4, 5] [4, 5, 6] a (pM u dn e v0 v) := ((((h.I (by decide) (by decide)).I (by decide) (by decide)).I (by decide) (by decide)).O (by decide)).O (by decide)
theorem s_tell {a m : mw_M} {n k w c v : Nat} {f : Nat → Nat → Nat} (hL : LOK n f c) (hX : XL 1 a n f c) (hM : ML m n f c) (hC : CH n a m) (hp : pOK n k w) (hv : vOK4 w v) {Q : Int32 → mw_M → Int32 → mw_M → Prop} (hQ : ∀ r u v, FX [1, 2, 3, 4, 5, 6, 7, 8, 9, 10] a u → FM [1, 2, 3, 4, 5] [4, 5, 6] m v → RLoad u v → Q r u r v) : P1_tell (nI k) (nI w) (nI v) a (fun r u => P11_becomes (nI (tpl k w)) (nI v) m (fun r' v => Q r u r' v)) := by
  have same : ∀ r, Q r a r m := fun r => hQ _ _ _ FX.rf FM.rf ⟨n, f, c, hL, hX, hM, hC⟩
  have hn := hL.1
  have hpl := tpl_lt hn hp
  have hv0 := vOK4_lt (tval_ok hL hp)
  have hv1 := vOK4_lt hv
  have hm := tval_m hM hp
  obtain ⟨t1, t2, t3⟩ := dfac (N := 37) (d := tpl k w) hpl (by decide)
  obtain ⟨dn, kn, hdk, hk40, a5, a6, m5, m4, hch⟩ := hC
  unfold P1_tell P11_becomes
  refine s2_told hn hX hp ?_
  simp only [t2, t3, true_and, forall_eq, hm, if_ab]
  by_cases hvv : tval f c k w = v
  · simp only [if_pos (show nI (tval f c k w) = nI v by rw [hvv])]
    exact same _
  · simp only [if_neg (show ¬ nI (tval f c k w) = nI v from fun q => hvv ((nI_eq (by omega) (by omega)).mp q))]
    simp only [a5, m5]
    by_cases h40 : dn < 40
    · obtain ⟨d1, d2, d3⟩ := dfac h40 (by decide)
      simp only [if_pos (show nI dn < 40 from nI_lt (b := 40) h40 (by decide)), if_neg (show ¬ nI dn = 40 from fun q => by rw [show (40 : Int32) = nI 40 from rfl, nI_eq (by omega) (by decide)] at q; omega)]
      simp only [mw_I_ne (show (6 : Nat) ≠ 7 by decide), mw_I_ne (show (6 : Nat) ≠ 8 by decide), mw_I_ne (show (6 : Nat) ≠ 9 by decide), mw_I_ne (show (6 : Nat) ≠ 10 by decide), mw_I_at, a5, d2, d3, true_and, nI_1]
      refine s2_tell hn ((congrFun pX_n 4).trans hX.1) hp ?_
      simp only [mw_I_ne (show (0 : Nat) ≠ 2 by decide), mw_I_ne (show (0 : Nat) ≠ 3 by decide), mw_I_ne (show (0 : Nat) ≠ 4 by decide), mw_I_at, m5, d2, d3, true_and, nI_1]
      exact hQ _ _ _ (tX_fx (pX_fx FX.rf) (by decide)) ((pM_fm FM.rf).I (by decide) (by decide)) (tell_go hL hX hM h40 (fun i hi => hch i (by omega)) hp hv)
    · have e40 : dn = 40 := by omega
      subst e40
      have ek : kn = 40 := by omega
      subst ek
      simp only [if_neg (show ¬ nI 40 < 40 by decide), if_pos (show nI 40 = 40 from rfl)]
      obtain ⟨g1, g2, g3⟩ := dfac (N := 40) (d := 39) (by decide) (by decide)
      refine s1_drop ?_
      have e39 : (39 : Int32) = nI 39 := rfl
      simp only [mw_I_ne (show (6 : Nat) ≠ 7 by decide), mw_I_ne (show (6 : Nat) ≠ 8 by decide), mw_I_ne (show (6 : Nat) ≠ 9 by decide), mw_I_ne (show (6 : Nat) ≠ 10 by decide), mw_I_at, e39, g2, g3, true_and, nI_1]
      have h14 : (mw_I (dpX a 40) 6 5 (nI 39)).1 1 4 = nI n := (mw_I_ne (by decide)).trans ((congrFun (dpX_row (by decide)) 4).trans hX.1)
      refine s2_tell (a := pX (mw_I (dpX a 40) 6 5 (nI 39)) 39 k w (tval f c k w) v) hn ((congrFun pX_n 4).trans h14) hp ?_
      refine s11_drop ?_
      have em : (dpM m 40).1 0 5 = nI 40 := m5
      simp only [forall_eq, mw_I_ne (show (0 : Nat) ≠ 2 by decide), mw_I_ne (show (0 : Nat) ≠ 3 by decide), mw_I_ne (show (0 : Nat) ≠ 4 by decide), mw_I_at, em, nI_sub1 (show 1 ≤ 40 by decide), show (40 : Nat) - 1 = 39 from rfl, g2, g3, true_and, nI_1]
      have fx : FX [1, 2, 3, 4, 5, 6, 7, 8, 9, 10] a (mw_I (dpX a 40) 6 5 (nI 39)) := FX.I (fun c hc => ⟨dpX_row (fun q => hc (by rcases q with rfl | rfl | rfl | rfl <;> decide)), rfl⟩) (by decide)
      have fm : FM [1, 2, 3, 4, 5] [4, 5, 6] m (mw_I (dpM m 40) 0 5 (nI 39)) := FM.O ⟨fun c hc h0 => ⟨dpM_row (fun q => hc (by rcases q with rfl | rfl | rfl <;> decide)), rfl⟩, fun j hj => congrFun (dpM_row (by decide)) j⟩ (by decide)
      have rx : ∀ c, c ≠ 6 → ¬ (c = 7 ∨ c = 8 ∨ c = 9 ∨ c = 10) → (mw_I (dpX a 40) 6 5 (nI 39)).1 c = a.1 c := fun c h6 hc => (mw_I_row h6).trans (dpX_row hc)
      have rm : ∀ c, c ≠ 0 → ¬ (c = 2 ∨ c = 3 ∨ c = 4) → (mw_I (dpM m 40) 0 5 (nI 39)).1 c = m.1 c := fun c h6 hc => (mw_I_row h6).trans (dpM_row hc)
      refine hQ _ _ _ (tX_fx (pX_fx fx) (by decide)) ((pM_fm fm).I (by decide) (by decide)) (tell_go hL (hX.fr (rx 1 (by decide) (by decide)) (rx 2 (by decide) (by decide)) (rx 3 (by decide) (by decide)) (rx 4 (by decide) (by decide)) (rx 5 (by decide) (by decide))) (hM.fr (rm 1 (by decide) (by decide)) ((mw_I_nj (by decide)).trans (congrFun (dpM_row (by decide)) 6)) (rm 5 (by decide) (by decide))) (by decide) (fun i hi => ?_) hp hv)
      have h := hch (i + 1) (by omega)
      rw [mw_I_ne (show (7 : Nat) ≠ 6 by decide), mw_I_ne (show (8 : Nat) ≠ 6 by decide), mw_I_ne (show (9 : Nat) ≠ 6 by decide), mw_I_ne (show (10 : Nat) ≠ 6 by decide), mw_I_ne (show (2 : Nat) ≠ 0 by decide), mw_I_ne (show (3 : Nat) ≠ 0 by decide), mw_I_ne (show (4 : Nat) ≠ 0 by decide), dpX_in (by decide) (by omega), dpX_in (by decide) (by omega), dpX_in (by decide) (by omega), dpX_in (by decide) (by omega), dpM_in (by decide) (by omega), dpM_in (by decide) (by omega), dpM_in (by decide) (by omega)]
      exact h
/-- mend -/
theorem op_mend {a m : mw_M} (hR : RLoad a m) {p1 p2 p3 : Int32} {Q : Int32 → mw_M → Int32 → mw_M → Prop} (hQ : ∀ r u v, FX [1, 2, 3, 4, 5, 6, 7, 8, 9, 10] a u → FM [1, 2, 3, 4, 5] [4, 5, 6] m v → RLoad u v → Q r u r v) : P10_mend p1 p2 p3 a (fun r u => P11_mend p1 p2 p3 m (fun r' v => Q r u r' v)) := by
  have same : ∀ r, Q r a r m := fun r => hQ _ _ _ FX.rf FM.rf hR
  obtain ⟨n, f, c, hL, hX, hM, hC⟩ := hR
  have hn := hL.1
  unfold P10_mend P11_mend
  simp only [ch2_hasLump (show n < 2147483648 by omega) hX.1, ch11_isLump hn hM.1, ch_within, toL, Int64.reduceToInt]
  by_cases c1 : 0 ≤ p1.toInt ∧ p1.toInt < n
  · simp only [if_pos c1]
    obtain ⟨k, hk, rfl⟩ := nI_get c1.1
    rw [nI_toInt (by omega)] at c1
    have hkn : k < n := by omega
    by_cases c2 : 0 ≤ p2.toInt ∧ p2.toInt ≤ 2
    · simp only [if_pos c2]
      obtain ⟨w, hw, rfl⟩ := nI_get c2.1
      rw [nI_toInt (by omega)] at c2
      have go : ∀ v : Nat, vOK w v → (12 : Int32) * nI w + nI k = nI (tpl k w) → P1_tell (nI k) (nI w) (nI v) a (fun r u => P11_becomes ((12 : Int32) * nI w + nI k) (nI v) m (fun r' v => Q r u r' v)) := by
        intro v hv e
        rw [e]
        exact s_tell hL hX hM hC (Or.inr ⟨by omega, hkn⟩) (Or.inr ⟨by omega, hv⟩) hQ
      have e12 : (12 : Int32) * nI w + nI k = nI (tpl k w) := by
        rw [show (12 : Int32) = nI 12 from rfl, pk_mul, nI_add, tpl, if_neg (by omega)]
      rcases (show w = 0 ∨ w = 1 ∨ w = 2 by omega) with rfl | rfl | rfl
      · simp only [if_ab, if_pos (show nI 0 = 0 from rfl)]
        refine s2_told0 (fun c3 => ?_) (fun c3 => ?_)
        · obtain ⟨v, hv, rfl⟩ := nI_get (x := p3) (by omega)
          simp only [if_pos c3]
          rw [nI_toInt (by omega)] at c3
          exact go v (Or.inl ⟨rfl, by omega, by omega⟩) e12
        · simp only [if_neg c3]; exact same _
      · simp only [if_ab, if_neg (show ¬ nI 1 = 0 by decide), if_pos (show nI 1 = 1 from rfl)]
        refine s2_told1 (fun c3 => ?_) (fun c3 => ?_)
        · obtain ⟨v, hv, rfl⟩ := nI_get (x := p3) (by omega)
          simp only [if_pos c3]
          rw [nI_toInt (by omega)] at c3
          exact go v (Or.inr (Or.inl ⟨rfl, by omega⟩)) e12
        · simp only [if_neg c3]; exact same _
      · simp only [if_ab, if_neg (show ¬ nI 2 = 0 by decide), if_neg (show ¬ nI 2 = 1 by decide)]
        refine s2_told2 (fun c3 => ?_) (fun c3 => ?_)
        · obtain ⟨v, hv, rfl⟩ := nI_get (x := p3) (by omega)
          simp only [if_pos c3]
          rw [nI_toInt (by omega)] at c3
          exact go v (Or.inr (Or.inr ⟨rfl, by omega⟩)) e12
        · simp only [if_neg c3]; exact same _
    · simp only [if_neg c2]
      unfold P2_isTold
      refine ⟨fun q => absurd (by rw [q]; decide) c2, fun q => absurd (by rw [q]; decide) c2, fun q => absurd (by rw [q]; decide) c2, fun _ _ _ => same _⟩
  · simp only [if_neg c1]
    exact same _
/-- counter -/
theorem op_counter {a m : mw_M} (hR : RLoad a m) {p1 : Int32} {Q : Int32 → mw_M → Int32 → mw_M → Prop} (hQ : ∀ r u v, FX [1, 2, 3, 4, 5, 6, 7, 8, 9, 10] a u → FM [1, 2, 3, 4, 5] [4, 5, 6] m v → RLoad u v → Q r u r v) : P10_counter p1 a (fun r u => P11_counter p1 m (fun r' v => Q r u r' v)) := by
  have same : ∀ r, Q r a r m := fun r => hQ _ _ _ FX.rf FM.rf hR
  obtain ⟨n, f, c, hL, hX, hM, hC⟩ := hR
  unfold P10_counter P11_counter P2_isCounter
  simp only [ch_within, toL, Int64.reduceToInt, if_ab]
  by_cases c1 : p1 < 0
  · rw [zlt] at c1
    simp only [Int32.reduceToInt] at c1
    rw [if_pos (by rw [zlt]; simp only [Int32.reduceToInt]; omega), if_neg (by omega)]
    exact same _
  · rw [if_neg c1]
    obtain ⟨v, hv, rfl⟩ := nI_get (x := p1) (by rw [zlt] at c1; simp only [Int32.reduceToInt] at c1; omega)
    simp only [d100 hv, r100 hv, nI_toInt (show v < 2 ^ 31 by omega)]
    by_cases c2 : v ≤ 9999
    · rw [if_neg (show ¬ (99 : Int32) < nI (v / 100) from nI_nlt (a := 99) (b := v / 100) (by omega) (by decide))]
      by_cases c3 : v % 100 < 12
      · have h12 : ¬ (12 : Int32) ≤ nI (v % 100) := nI_ge (b := 12) c3 (by decide)
        simp only [if_neg h12, if_pos (show (0 : Int) ≤ (v : Int) ∧ (v : Int) ≤ 9999 by omega)]
        exact s_tell (k := 0) (w := 4) hL hX hM hC (Or.inl ⟨rfl, rfl⟩) (Or.inl ⟨rfl, by omega, c3⟩) hQ
      · have h12 : (12 : Int32) ≤ nI (v % 100) := nI_le (a := 12) (by omega) (by omega)
        simp only [if_pos h12, if_pos (show (0 : Int) ≤ (v : Int) ∧ (v : Int) ≤ 9999 by omega)]
        exact same _
    · rw [if_pos (show (99 : Int32) < nI (v / 100) from nI_lt (a := 99) (by omega) (by omega)), if_neg (by omega)]
      exact same _
theorem CH1.get {n : Nat} {a7 a8 a9 a10 m2 m3 m4 : Int32} (h : CH1 n a7 a8 a9 a10 m2 m3 m4) : ∃ k w v0 v1 : Nat, a7 = nI k ∧ a8 = nI w ∧ a9 = nI v0 ∧ a10 = nI v1 ∧ m3 = nI v0 ∧ m4 = nI v1 ∧ m2 = nI (tpl k w) ∧ pOK n k w ∧ vOK4 w v0 ∧ vOK4 w v1 := by
  obtain ⟨k, w, v0, v1, h1, h2, h3, h4, h5, h6, h7⟩ := h
  refine ⟨k, w, v0, v1, h1, h2, h3, h4, h5, h6, ?_⟩
  rcases h7 with ⟨rfl, rfl, e, g1, g2⟩ | ⟨g1, g2, e, g3, g4⟩
  · exact ⟨e, Or.inl ⟨rfl, rfl⟩, Or.inl ⟨rfl, g1⟩, Or.inl ⟨rfl, g2⟩⟩
  · refine ⟨?_, Or.inr ⟨g1, g2⟩, Or.inr ⟨g1, g3⟩, Or.inr ⟨g1, g4⟩⟩
    rw [e, tpl, if_neg (by omega)]
theorem tX_rows {a : mw_M} {k w : Nat} {v : Int32} : ∀ c, c ∉ [1, 2, 3, 4] → (tX a k w v).1 c = a.1 c := fun c hc => ((tX_fx (a := a) (u := a) (k := k) (w := w) (v := v) FX.rf (fun q h => h)) c hc).1
/-- undo -/
theorem op_undo {a m : mw_M} (hR : RLoad a m) {Q : Int32 → mw_M → Int32 → mw_M → Prop} (hQ : ∀ r u v, FX [1, 2, 3, 4, 5, 6, 7, 8, 9, 10] a u → FM [1, 2, 3, 4, 5] [4, 5, 6] m v → RLoad u v → Q r u r v) : P10_undo a (fun r u => P11_undo m (fun r' v => Q r u r' v)) := by
  have same : ∀ r, Q r a r m := fun r => hQ _ _ _ FX.rf FM.rf hR
  obtain ⟨n, f, c, hL, hX, hM, hC⟩ := hR
  have hn := hL.1
  have hC0 := hC
  obtain ⟨dn, kn, hdk, hk40, a5, a6, m5, m4, hch⟩ := hC
  unfold P10_undo P11_undo P1_undoable P1_takeBack P1_undoable
  simp only [a5, m5, if_ab, forall_eq]
  by_cases h0 : dn = 0
  · subst h0
    simp only [if_pos (show nI 0 = 0 from rfl)]
    exact same _
  · obtain ⟨d1, d2, d3⟩ := dfac (N := 40) (d := dn - 1) (by omega) (by decide)
    simp only [if_neg (nI_ne0 (show 0 < dn by omega) (by omega)), if_pos (show (1 : Int32) ≤ nI dn from nI_le (a := 1) (by omega) (by omega)), nI_sub1 (show 1 ≤ dn by omega), mw_I_at, d2, d3, true_and]
    obtain ⟨k, w, v0, v1, e7, e8, e9, e10, f3, f4, f2, hp, g0, g1⟩ := (hch (dn - 1) (by omega)).get
    obtain ⟨t1, t2, t3⟩ := dfac (N := 37) (d := tpl k w) (tpl_lt hn hp) (by decide)
    simp only [mw_I_ne (show (7 : Nat) ≠ 6 by decide), mw_I_ne (show (8 : Nat) ≠ 6 by decide), mw_I_ne (show (9 : Nat) ≠ 6 by decide), mw_I_ne (show (2 : Nat) ≠ 0 by decide), mw_I_ne (show (3 : Nat) ≠ 0 by decide), e7, e8, e9, f2, f3, t2, t3, true_and]
    refine s2_tell (a := mw_I a 6 5 (nI (dn - 1))) hn ((mw_I_ne (by decide)).trans hX.1) hp ?_
    rw [show (tX (mw_I a 6 5 (nI (dn - 1))) k w (nI v0)).1 6 5 = nI (dn - 1) from (congrFun (tX_rows 6 (by decide)) 5).trans (mw_I_at _ _ _ _), show (mw_I (mw_I m 0 5 (nI (dn - 1))) 1 (tpl k w) (nI v0)).1 0 5 = nI (dn - 1) from (mw_I_ne (by decide)).trans (mw_I_at _ _ _ _)]
    obtain ⟨x1, x2, x3⟩ := t_RL hL (a := mw_I a 6 5 (nI (dn - 1))) (m := mw_I m 0 5 (nI (dn - 1))) (hX.fr (mw_I_row (by decide)) (mw_I_row (by decide)) (mw_I_row (by decide)) (mw_I_row (by decide)) (mw_I_row (by decide))) (hM.fr (mw_I_row (by decide)) (mw_I_nj (by decide)) (mw_I_row (by decide))) hp g0
    refine hQ _ _ _ (tX_fx (FX.rf.I (by decide)) (by decide)) ((FM.rf.O (by decide)).I (by decide) (by decide)) ⟨n, _, _, x1, x2, x3, dn - 1, kn, by omega, hk40, ?_, ?_, ?_, ?_, fun i hi => ?_⟩
    · exact (congrFun (tX_rows 6 (by decide)) 5).trans (mw_I_at _ _ _ _)
    · exact (congrFun (tX_rows 6 (by decide)) 6).trans ((mw_I_nj (by decide)).trans a6)
    · exact (mw_I_ne (by decide)).trans (mw_I_at _ _ _ _)
    · exact (mw_I_ne (by decide)).trans ((mw_I_nj (by decide)).trans m4)
    · rw [tX_rows 7 (by decide), tX_rows 8 (by decide), tX_rows 9 (by decide), tX_rows 10 (by decide)]
      exact hch i hi
/-- redo -/
theorem op_redo {a m : mw_M} (hR : RLoad a m) {Q : Int32 → mw_M → Int32 → mw_M → Prop} (hQ : ∀ r u v, FX [1, 2, 3, 4, 5, 6, 7, 8, 9, 10] a u → FM [1, 2, 3, 4, 5] [4, 5, 6] m v → RLoad u v → Q r u r v) : P10_redo a (fun r u => P11_redo m (fun r' v => Q r u r' v)) := by
  have same : ∀ r, Q r a r m := fun r => hQ _ _ _ FX.rf FM.rf hR
  obtain ⟨n, f, c, hL, hX, hM, hC⟩ := hR
  have hn := hL.1
  obtain ⟨dn, kn, hdk, hk40, a5, a6, m5, m4, hch⟩ := hC
  unfold P10_redo P11_redo P1_redoable P1_doAgain P1_redoable
  simp only [a5, a6, m5, m4, if_ab, forall_eq]
  rw [show nI kn - nI dn = nI (kn - dn) from pk_sub hdk]
  by_cases h0 : dn = kn
  · subst h0
    simp only [Nat.sub_self, if_pos (show nI 0 = 0 from rfl), if_true]
    exact same _
  · obtain ⟨d1, d2, d3⟩ := dfac (N := 40) (d := dn) (by omega) (by decide)
    simp only [if_neg (nI_ne0 (show 0 < kn - dn by omega) (by omega)), if_neg (show ¬ nI kn ≤ nI dn from nI_ge (by omega) (by omega)), if_pos (show nI dn < 40 from nI_lt (b := 40) (by omega) (by decide)), if_neg (show ¬ nI dn = nI kn from fun q => h0 ((nI_eq (by omega) (by omega)).mp q)), d2, d3, true_and]
    obtain ⟨k, w, v0, v1, e7, e8, e9, e10, f3, f4, f2, hp, g0, g1⟩ := (hch dn (by omega)).get
    obtain ⟨t1, t2, t3⟩ := dfac (N := 37) (d := tpl k w) (tpl_lt hn hp) (by decide)
    simp only [e7, e8, e10, f2, f4, t2, t3, true_and]
    refine s2_tell (a := a) hn hX.1 hp ?_
    rw [show (tX a k w (nI v1)).1 6 5 = nI dn from (congrFun (tX_rows 6 (by decide)) 5).trans a5, show (mw_I m 1 (tpl k w) (nI v1)).1 0 5 = nI dn from (mw_I_ne (by decide)).trans m5, nI_1]
    rw [mw_I_at, mw_I_at, show (mw_I (tX a k w (nI v1)) 6 5 (nI (dn + 1))).1 6 6 = nI kn from (mw_I_nj (by decide)).trans ((congrFun (tX_rows 6 (by decide)) 6).trans a6), show (mw_I (mw_I m 1 (tpl k w) (nI v1)) 0 5 (nI (dn + 1))).1 0 4 = nI kn from (mw_I_nj (by decide)).trans ((mw_I_ne (by decide)).trans m4)]
    obtain ⟨x1, x2, x3⟩ := t_RL hL hX hM hp g1
    refine hQ _ _ _ ((tX_fx FX.rf (by decide)).I (by decide)) ((FM.rf.I (by decide) (by decide)).O (by decide)) ⟨n, _, _, x1, x2.fr (mw_I_row (by decide)) (mw_I_row (by decide)) (mw_I_row (by decide)) (mw_I_row (by decide)) (mw_I_row (by decide)), x3.fr (mw_I_row (by decide)) (mw_I_nj (by decide)) (mw_I_row (by decide)), dn + 1, kn, by omega, hk40, mw_I_at _ _ _ _, ?_, mw_I_at _ _ _ _, ?_, fun i hi => ?_⟩
    · exact (mw_I_nj (by decide)).trans ((congrFun (tX_rows 6 (by decide)) 6).trans a6)
    · exact (mw_I_nj (by decide)).trans ((mw_I_ne (by decide)).trans m4)
    · rw [mw_I_row (show (7 : Nat) ≠ 6 by decide), mw_I_row (show (8 : Nat) ≠ 6 by decide), mw_I_row (show (9 : Nat) ≠ 6 by decide), mw_I_row (show (10 : Nat) ≠ 6 by decide), tX_rows 7 (by decide), tX_rows 8 (by decide), tX_rows 9 (by decide), tX_rows 10 (by decide)]
      exact hch i hi
