/-! spread -/
theorem RLoad.back {a m u v : mw_M} {S : List Nat} (h : RLoad a m) (hx : FX S a u) (hs : ∀ k ∈ [1, 2, 3, 4, 5, 6, 7, 8, 9, 10], k ∉ S) (h1 : ∀ k, k < 37 → v.1 1 k = m.1 1 k) (h2 : ∀ k ∈ [2, 3, 4, 5], v.1 k = m.1 k) (h3 : ∀ k ∈ [4, 5, 6], v.1 0 k = m.1 0 k) : RLoad u v := by
  obtain ⟨n, f, c, hL, hX, hM, hC⟩ := h
  have e : ∀ k ∈ [1, 2, 3, 4, 5, 6, 7, 8, 9, 10], u.1 k = a.1 k := fun k hk => (hx k (hs k hk)).1
  simp only [List.forall_mem_cons, List.not_mem_nil, false_imp_iff, implies_true, and_true] at e h2 h3
  obtain ⟨x1, x2, x3, x4, x5, x6, x7, x8, x9, x10⟩ := e
  exact ⟨n, f, c, hL, hX.fr x1 x2 x3 x4 x5, hM.back hL.1 h1 h2.2.2.2 h3.2.2, hC.fr ⟨x6, x7, x8, x9, x10⟩ ⟨h2.1, h2.2.1, h2.2.2.1⟩ ⟨h3.1, h3.2.1⟩⟩
/-- tumbled again and again -/
def tuS (n : Nat) (f : Nat → Nat → Nat) (z : Int32) : Nat → (Nat → Nat → Nat) × Int32
  | 0 => (f, z)
  | k + 1 => (fTu (tuS n f z k).1 (tuS n f z k).2 n, zI (tuS n f z k).2 n)
theorem tuS_ok {n c0 : Nat} {f : Nat → Nat → Nat} {z : Int32} (hL : LOK n f c0) : ∀ k, LOK n (tuS n f z k).1 c0
  | 0 => hL
  | k + 1 => fTu_ok (tuS_ok hL k) n
/-- the sum, the least, which -/
def spS (g : Nat → Int32) : Nat → Int32 × Int32 × Nat
  | 0 => (0, 0, 0)
  | k + 1 => ((spS g k).1 + g (k + 1), if k = 0 ∨ ¬ (spS g k).2.1 ≤ g (k + 1) then g (k + 1) else (spS g k).2.1, if k = 0 ∨ ¬ (spS g k).2.1 ≤ g (k + 1) then k else (spS g k).2.2)
theorem spS_le (g : Nat → Int32) : ∀ k, (spS g k).2.2 ≤ k
  | 0 => Nat.le_refl _
  | k + 1 => by
    have := spS_le g k
    show (if k = 0 ∨ ¬ (spS g k).2.1 ≤ g (k + 1) then k else (spS g k).2.2) ≤ k + 1
    split <;> omega
theorem l8_spread {a : mw_M} {n c0 N : Nat} {f : Nat → Nat → Nat} {p2 p3 : Int32} (hL : LOK n f c0) (hN : N ≤ 50) {Q : Int32 → mw_M → Prop} {K1 : Int32 → Int32 → Int32 → Int32 → Int32 → mw_M → Prop} (hK : ∀ z u, FX [45, 46, 47, 48, 49] a u → K1 (nI N) (spS (fun k => lopN n (tuS n f p2 k).1 c0) N).1 (spS (fun k => lopN n (tuS n f p2 k).1 c0) N).2.1 (nI (spS (fun k => lopN n (tuS n f p2 k).1 c0) N).2.2) z u) : ∀ k t u, t + k = N → FX [45, 46, 47, 48, 49] a u → XL 45 u n (tuS n f p2 t).1 c0 → L8_spreadBest_26 (nI N) p2 p3 Q K1 (k + 1) (nI t) (spS (fun k => lopN n (tuS n f p2 k).1 c0) t).1 (spS (fun k => lopN n (tuS n f p2 k).1 c0) t).2.1 (nI (spS (fun k => lopN n (tuS n f p2 k).1 c0) t).2.2) (tuS n f p2 t).2 u := by
  intro k
  induction k with
  | zero =>
    intro t u hk hF hX
    have e : t = N := by omega
    subst e
    unfold L8_spreadBest_26
    exact ⟨fun _ => hK _ u hF, fun y => absurd (nI_le (Nat.le_refl _) (by omega)) y⟩
  | succ k ih =>
    intro t u hk hF hX
    unfold L8_spreadBest_26
    refine ⟨fun y => absurd y (by rw [zle, nI_toInt (by omega), nI_toInt (by omega)]; omega), fun _ => ?_⟩
    refine s2_tumble hL.1 hX (fun v fv hv => ?_)
    have HL := tuS_ok (z := p2) hL (t + 1)
    refine s2_lopsided HL hv ?_
    intro x14 e14
    have nxt := ih (t + 1) v (by omega) (hF.tr (fv.mono (by decide))) hv
    have e1 : ∀ x : Int32, x = nI t + 1 → x = nI (t + 1) := fun x hx => hx.trans (nI_add t 1)
    have q1 : (spS (fun k => lopN n (tuS n f p2 k).1 c0) (t + 1)).1 = x14 := e14.symm
    rw [q1] at nxt
    refine ⟨fun c => ?_, fun c => ⟨fun d => ?_, fun d => ?_⟩⟩
    · have c' : t = 0 := by
        rw [show (0 : Int32) = nI 0 from rfl, nI_eq (by omega) (by omega)] at c
        exact c
      intro x hx
      rw [e1 x hx]
      have q2 : (spS (fun k => lopN n (tuS n f p2 k).1 c0) (t + 1)).2.1 = lopN n (tuS n f p2 (t + 1)).1 c0 := if_pos (Or.inl c')
      have q3 : (spS (fun k => lopN n (tuS n f p2 k).1 c0) (t + 1)).2.2 = t := if_pos (Or.inl c')
      rw [q2, q3] at nxt
      exact nxt
    · have c' : ¬ t = 0 := fun z => c (by rw [z]; rfl)
      intro x hx
      rw [e1 x hx]
      have q2 : (spS (fun k => lopN n (tuS n f p2 k).1 c0) (t + 1)).2.1 = (spS (fun k => lopN n (tuS n f p2 k).1 c0) t).2.1 := if_neg (fun z => z.elim c' (fun z => z d))
      have q3 : (spS (fun k => lopN n (tuS n f p2 k).1 c0) (t + 1)).2.2 = (spS (fun k => lopN n (tuS n f p2 k).1 c0) t).2.2 := if_neg (fun z => z.elim c' (fun z => z d))
      rw [q2, q3] at nxt
      exact nxt
    · intro x hx
      rw [e1 x hx]
      have q2 : (spS (fun k => lopN n (tuS n f p2 k).1 c0) (t + 1)).2.1 = lopN n (tuS n f p2 (t + 1)).1 c0 := if_pos (Or.inr d)
      have q3 : (spS (fun k => lopN n (tuS n f p2 k).1 c0) (t + 1)).2.2 = t := if_pos (Or.inr d)
      rw [q2, q3] at nxt
      exact nxt
theorem l11_spread {m : mw_M} {n c0 N : Nat} {f : Nat → Nat → Nat} {p2 p3 : Int32} (hL : LOK n f c0) (hN : N ≤ 50) (h1 : 1 ≤ N) {Q : Int32 → mw_M → Prop} {K1 : Int32 → Int32 → Int32 → Int32 → mw_M → Prop} (hK : ∀ u, FM [1] [25] m u → K1 (nI N) (spS (fun k => lopN n (tuS n f p2 k).1 c0) N).1 (spS (fun k => lopN n (tuS n f p2 k).1 c0) N).2.1 (nI (spS (fun k => lopN n (tuS n f p2 k).1 c0) N).2.2) u) : ∀ k t u, t + k = N → FM [1] [25] m u → u.1 0 25 = (tuS n f p2 t).2 → ML u n (tuS n f p2 t).1 c0 → ∀ w : Int32, (w = if t = 0 then -1 else nI (spS (fun k => lopN n (tuS n f p2 k).1 c0) t).2.2) → L11_spread_47 (nI N) p2 p3 Q K1 (k + 1) (nI t) (spS (fun k => lopN n (tuS n f p2 k).1 c0) t).1 (spS (fun k => lopN n (tuS n f p2 k).1 c0) t).2.1 w u := by
  intro k
  induction k with
  | zero =>
    intro t u hk hF hz hX w hw
    have e : t = N := by omega
    subst e
    unfold L11_spread_47
    rw [hw, if_neg (by omega)]
    exact ⟨fun _ => hK u hF, fun y => absurd (nI_le (Nat.le_refl _) (by omega)) y⟩
  | succ k ih =>
    intro t u hk hF hz hX w hw
    unfold L11_spread_47
    refine ⟨fun y => absurd y (by rw [zle, nI_toInt (by omega), nI_toInt (by omega)]; omega), fun _ => ?_⟩
    refine s11_tumbles hL.1 hX (fun v fv zv hv => ?_)
    rw [hz] at zv hv
    have HL := tuS_ok (z := p2) hL (t + 1)
    refine s11_lopsided HL hv ?_
    intro x14 e14
    have nxt := ih (t + 1) v (by omega) (hF.tr fv) zv hv
    have e1 : ∀ x : Int32, x = nI t + 1 → x = nI (t + 1) := fun x hx => hx.trans (nI_add t 1)
    have q1 : (spS (fun k => lopN n (tuS n f p2 k).1 c0) (t + 1)).1 = x14 := e14.symm
    rw [q1] at nxt
    have hsl := spS_le (fun k => lopN n (tuS n f p2 k).1 c0) t
    have W : (w < 0) ↔ t = 0 := by
      rw [hw]
      by_cases c : t = 0
      · rw [if_pos c]; exact ⟨fun _ => c, fun _ => by decide⟩
      · rw [if_neg c]; exact ⟨fun z => absurd z (nI_nlt (b := 0) (by omega) (by omega)), fun z => absurd z c⟩
    refine ⟨fun c => ?_, fun c => ⟨fun d => ?_, fun d => ?_⟩⟩
    · have c' : t = 0 := W.1 c
      intro x hx
      rw [e1 x hx]
      have q2 : (spS (fun k => lopN n (tuS n f p2 k).1 c0) (t + 1)).2.1 = lopN n (tuS n f p2 (t + 1)).1 c0 := if_pos (Or.inl c')
      have q3 : (spS (fun k => lopN n (tuS n f p2 k).1 c0) (t + 1)).2.2 = t := if_pos (Or.inl c')
      rw [q2, q3] at nxt
      exact nxt _ (by rw [if_neg (by omega)])
    · have c' : ¬ t = 0 := fun z => c (W.2 z)
      intro x hx
      rw [e1 x hx]
      have q2 : (spS (fun k => lopN n (tuS n f p2 k).1 c0) (t + 1)).2.1 = (spS (fun k => lopN n (tuS n f p2 k).1 c0) t).2.1 := if_neg (fun z => z.elim c' (fun z => z d))
      have q3 : (spS (fun k => lopN n (tuS n f p2 k).1 c0) (t + 1)).2.2 = (spS (fun k => lopN n (tuS n f p2 k).1 c0) t).2.2 := if_neg (fun z => z.elim c' (fun z => z d))
      rw [q2, q3] at nxt
      exact nxt w (by rw [hw, if_neg c', if_neg (by omega)])
    · intro x hx
      rw [e1 x hx]
      have q2 : (spS (fun k => lopN n (tuS n f p2 k).1 c0) (t + 1)).2.1 = lopN n (tuS n f p2 (t + 1)).1 c0 := if_pos (Or.inr d)
      have q3 : (spS (fun k => lopN n (tuS n f p2 k).1 c0) (t + 1)).2.2 = t := if_pos (Or.inr d)
      rw [q2, q3] at nxt
      exact nxt _ (by rw [if_neg (by omega)])
theorem op_spread {a m : mw_M} (hA : RLoad a m) {p1 p2 p3 : Int32} {Q : Int32 → Int32 → mw_M → mw_M → Prop} (hQ : ∀ r u v, FX [45, 46, 47, 48, 49] a u → FM [1, 14] [25] m v → RLoad u v → Q r r u v) : P10_spread p1 p2 p3 a (fun r u => P11_spread p1 p2 p3 m (fun r' v => Q r r' u v)) := by
  have hbad : ¬ ((1 ≤ p1.toInt ∧ p1.toInt ≤ 50) ∧ 0 ≤ p3.toInt ∧ p3.toInt ≤ 2) → P11_spread p1 p2 p3 m (fun r' v => Q (-1) r' a v) := fun h => by
    unfold P11_spread
    rw [ch_within, ch_within, toL, toL, show (1 : Int64).toInt = 1 from rfl, show (50 : Int64).toInt = 50 from rfl, show (0 : Int64).toInt = 0 from rfl, show (2 : Int64).toInt = 2 from rfl]
    by_cases c : 1 ≤ p1.toInt ∧ p1.toInt ≤ 50
    · rw [if_pos c, if_neg (fun d => h ⟨c, d⟩)]
      exact hQ _ _ _ FX.rf FM.rf hA
    · rw [if_neg c]
      exact hQ _ _ _ FX.rf FM.rf hA
  unfold P10_spread
  refine ⟨fun c => hbad ?_, fun c1 => ⟨fun c => hbad ?_, fun c2 => ⟨fun c => hbad ?_, fun c3 => ⟨fun c4 => ?_, fun c => hbad ?_⟩⟩⟩⟩
  · rw [zlt, show (1 : Int32).toInt = 1 from rfl] at c; omega
  · rw [zlt, show (50 : Int32).toInt = 50 from rfl] at c; omega
  · have := zneg c; omega
  · rw [zlt, show (1 : Int32).toInt = 1 from rfl] at c1
    rw [zlt, show (50 : Int32).toInt = 50 from rfl] at c2
    have c3' := npos c3
    rw [zle, show (2 : Int32).toInt = 2 from rfl] at c4
    obtain ⟨N, hN, rfl⟩ := nI_get (x := p1) (by omega)
    rw [nI_toInt (by omega)] at c1 c2
    obtain ⟨n, f, c0, hL, hX, hM, hC⟩ := id hA
    unfold P8_spreadBest
    refine s2_lieG (Or.inr (by decide)) hL.1 hX (fun u fu _ xu => ⟨N + 1, l8_spread hL (by omega) (fun z v fv => ?_) N 0 u (Nat.zero_add N) fu xu⟩)
    have ref : ∀ (K : Int32 → mw_M → Prop), (∀ w, FM [1, 14] [25] m w → RLoad v w → (p3 = 0 → K (nI (spS (fun k => lopN n (tuS n f p2 k).1 c0) N).2.2) w) ∧ (¬ p3 = 0 → ((p3 = 1 → K (spS (fun k => lopN n (tuS n f p2 k).1 c0) N).2.1 w) ∧ (¬ p3 = 1 → ((¬ nI N = 0) ∧ K ((spS (fun k => lopN n (tuS n f p2 k).1 c0) N).1 / nI N) w))))) → P11_spread (nI N) p2 p3 m K := by
      intro K hKK
      unfold P11_spread
      rw [ch_within, ch_within, toL, toL, show (1 : Int64).toInt = 1 from rfl, show (50 : Int64).toInt = 50 from rfl, show (0 : Int64).toInt = 0 from rfl, show (2 : Int64).toInt = 2 from rfl, if_pos (by rw [nI_toInt (by omega)]; omega), if_pos (by omega)]
      refine s11_keeps (fun v0 f0 k0 => ?_)
      intro μ6 e6
      have F6 : FM [1, 14] [25] m μ6 := by rw [e6]; exact (f0.mono (by decide) (by decide)).O (by decide)
      refine ⟨N + 1, l11_spread hL (by omega) (by omega) (fun w fw => ?_) N 0 μ6 (Nat.zero_add N) FM.rf (by rw [e6, mw_I_eq]; rfl) (ml_rows hM ?_ ?_ ?_) (-1) rfl⟩
      · refine s11_lays (fun x fx kx => hKK x ((F6.tr (fw.mono (by decide) (by decide))).tr (fx.mono (by decide) (by decide))) ?_)
        refine hA.back (fv) (by decide) (fun k hk => ?_) (fun k hk => ?_) (fun k hk => ?_)
        · rw [kx k hk, (fw.1 14 (by decide) (by decide)).1, e6, mw_I_row (by decide), k0 k hk]
        · have : k = 2 ∨ k = 3 ∨ k = 4 ∨ k = 5 := by simpa using hk
          rw [(fx.1 k (by simp; omega) (by omega)).1, (fw.1 k (by simp; omega) (by omega)).1, (F6.1 k (by simp; omega) (by omega)).1]
        · have : k = 4 ∨ k = 5 ∨ k = 6 := by simpa using hk
          rw [fx.2 k (by simp), fw.2 k (by simp; omega), F6.2 k (by simp; omega)]
      · rw [e6, mw_I_row (by decide), (f0.1 1 (by decide) (by decide)).1]
      · rw [e6, mw_I_row (by decide), (f0.1 5 (by decide) (by decide)).1]
      · rw [e6, mw_I_nj (by decide), f0.2 6 (by decide)]
    refine ⟨fun d => ref _ (fun w fw rw' => ⟨fun _ => hQ _ _ _ fv fw rw', fun d' => absurd d d'⟩), fun d => ⟨fun d2 => ref _ (fun w fw rw' => ⟨fun d' => absurd d' d, fun _ => ⟨fun _ => hQ _ _ _ fv fw rw', fun d' => absurd d2 d'⟩⟩), fun d2 => ?_⟩⟩
    have n0 : ¬ nI N = 0 := by rw [show (0 : Int32) = nI 0 from rfl, nI_eq (by omega) (by omega)]; omega
    unfold P8_meanOf
    refine ⟨fun _ => ⟨n0, ref _ (fun w fw rw' => ⟨fun d' => absurd d' d, fun _ => ⟨fun d' => absurd d' d2, fun _ => ⟨n0, hQ _ _ _ fv fw rw'⟩⟩⟩)⟩, fun z => absurd (nI_le (a := 1) (by omega) (by omega)) z⟩
  · rw [zle, show (2 : Int32).toInt = 2 from rfl] at c; omega
