/-! the walk object of the class: registers in its cell -/
def slW : Nat → Nat
  | 0 => 4 | 1 => 5 | 2 => 6 | 3 => 13 | 4 => 8 | 5 => 9 | 6 => 10 | 7 => 11 | 8 => 14 | _ => 15
def XG (b : Nat) (u : mw_M) (r : Nat → Int32) (h0 : Int32) (KF : Nat → Nat → Int32) (n c0 t : Nat) (f : Nat → Nat → Nat) : Prop := XL (b + 1) u n f c0 ∧ (∀ k, k < 10 → u.1 b (slW k) = r k) ∧ u.1 b 7 = h0 ∧ ∀ w j, w < 5 → j < t → u.1 (b + 7 + w) j = KF j w
theorem slW_inj : ∀ k, k < 10 → ∀ j, j < 10 → slW k = slW j → k = j := by decide
theorem slW_7 : ∀ k, k < 10 → 7 ≠ slW k ∧ 12 ≠ slW k ∧ 16 ≠ slW k := by decide
theorem XG.I {b : Nat} {u : mw_M} {r : Nat → Int32} {h0 : Int32} {KF : Nat → Nat → Int32} {n c0 t : Nat} {f : Nat → Nat → Nat} (h : XG b u r h0 KF n c0 t f) (k : Nat) (hk : k < 10) {j : Nat} (hj : j = slW k) {v : Int32} : XG b (mw_I u b j v) (setR r k v) h0 KF n c0 t f := by
  subst hj
  refine ⟨xl_rows h.1 (fun q _ _ => mw_I_row (by omega)), fun q hq => ?_, ?_, fun w j hw hj => ?_⟩
  · unfold setR
    rw [mw_I_get]
    by_cases e : q = k
    · subst e; rw [if_pos ⟨rfl, rfl⟩, if_pos rfl]
    · rw [if_neg (fun z => e (slW_inj q hq k hk z.2)), if_neg e]; exact h.2.1 q hq
  · rw [mw_I_nj (slW_7 k hk).1]; exact h.2.2.1
  · rw [mw_I_ne (by omega)]; exact h.2.2.2 w j hw hj
theorem XG.fr {b : Nat} {u u' : mw_M} {r : Nat → Int32} {h0 : Int32} {KF : Nat → Nat → Int32} {n c0 t : Nat} {f : Nat → Nat → Nat} (h : XG b u r h0 KF n c0 t f) (e : ∀ k, b ≤ k → k ≤ b + 11 → u'.1 k = u.1 k) : XG b u' r h0 KF n c0 t f := by
  refine ⟨xl_rows h.1 (fun q _ _ => e q (by omega) (by omega)), fun q hq => ?_, ?_, fun w j hw hj => ?_⟩
  · rw [e b (by omega) (by omega)]; exact h.2.1 q hq
  · rw [e b (by omega) (by omega)]; exact h.2.2.1
  · rw [e (b + 7 + w) (by omega) (by omega)]; exact h.2.2.2 w j hw hj
theorem XG.ld {b : Nat} {u u' : mw_M} {r : Nat → Int32} {h0 : Int32} {KF : Nat → Nat → Int32} {n c0 t : Nat} {f f' : Nat → Nat → Nat} (h : XG b u r h0 KF n c0 t f) (hx : XL (b + 1) u' n f' c0) (e : ∀ k, k = b ∨ (b + 7 ≤ k ∧ k ≤ b + 11) → u'.1 k = u.1 k) : XG b u' r h0 KF n c0 t f' := by
  refine ⟨hx, fun q hq => ?_, ?_, fun w j hw hj => ?_⟩
  · rw [e b (Or.inl rfl)]; exact h.2.1 q hq
  · rw [e b (Or.inl rfl)]; exact h.2.2.1
  · rw [e (b + 7 + w) (Or.inr (by omega))]; exact h.2.2.2 w j hw hj
theorem XG.cong {b : Nat} {u : mw_M} {r r' : Nat → Int32} {h0 : Int32} {KF KF' : Nat → Nat → Int32} {n c0 t : Nat} {f : Nat → Nat → Nat} (h : XG b u r h0 KF n c0 t f) (e : ∀ k, k < 10 → r k = r' k) (e2 : ∀ w j, w < 5 → j < t → KF j w = KF' j w) : XG b u r' h0 KF' n c0 t f := ⟨h.1, fun k hk => (h.2.1 k hk).trans (e k hk), h.2.2.1, fun w j hw hj => (h.2.2.2 w j hw hj).trans (e2 w j hw hj)⟩
/-! the frame of a walk -/
def SW (b : Nat) : List Nat := [19, 20, 22, 23, 25, 26, 28, 29, 31, b, b + 1, b + 2, b + 3, b + 4, b + 5, b + 7, b + 8, b + 9, b + 10, b + 11]
def FW (b : Nat) (a u : mw_M) : Prop := FX (SW b) a u ∧ ∀ q, LB q → u.1 q 2 = a.1 q 2
theorem FW.rf {b : Nat} {a : mw_M} : FW b a a := ⟨FX.rf, fun _ _ => rfl⟩
theorem FW.tr {b : Nat} {a u v : mw_M} (h1 : FW b a u) (h2 : FW b u v) : FW b a v := ⟨h1.1.tr h2.1, fun q hq => (h2.2 q hq).trans (h1.2 q hq)⟩
theorem LB.lt {q : Nat} (h : LB q) : q < 32 := by rcases h with rfl | rfl | rfl | rfl <;> decide
theorem FW.I {b : Nat} (h32 : 32 ≤ b) {a u : mw_M} {c j : Nat} {v : Int32} (h : FW b a u) (hc : c ∈ SW b) (hb : b ≤ c) : FW b a (mw_I u c j v) := ⟨h.1.I hc, fun q hq => by rw [mw_I_ne (by have := hq.lt; omega)]; exact h.2 q hq⟩
theorem FW.of {b : Nat} {a u : mw_M} {S : List Nat} (h : FX S a u) (h2 : ∀ q, LB q → u.1 q 2 = a.1 q 2) (hs : ∀ k ∈ S, k ∈ SW b) : FW b a u := ⟨h.mono hs, h2⟩
theorem FW.at {b : Nat} (h32 : 32 ≤ b) {a u : mw_M} (h : FW b a u) {k : Nat} (hk : k < 19 ∨ k = 21 ∨ k = 24 ∨ k = 27 ∨ k = 30 ∨ k = b + 6 ∨ (32 ≤ k ∧ k < b) ∨ b + 12 ≤ k) : u.1 k = a.1 k := (h.1 k (by unfold SW; simp; omega)).1
theorem FW.at2 {b : Nat} (h32 : 32 ≤ b) {a u : mw_M} (h : FW b a u) {k : Nat} (hk : k < 19 ∨ k = 21 ∨ k = 24 ∨ k = 27 ∨ k = 30 ∨ k = b + 6 ∨ (32 ≤ k ∧ k < b) ∨ b + 12 ≤ k) : u.2 k = a.2 k := (h.1 k (by unfold SW; simp; omega)).2
theorem LAWl.fw {b : Nat} (h32 : 32 ≤ b) {a u : mw_M} {i : Nat} {ls : List LN} (h : LAWl a i ls) (hf : FW b a u) : LAWl u i ls := by
  obtain ⟨h1, h2, h3, h4, h5, h6⟩ := h
  refine ⟨h1, h2, h3, h4, by rw [hf.2 _ (LB_of h1)]; exact h5, ?_⟩
  rw [hf.at h32 (by omega)]
  exact h6
theorem WAT.fw {b : Nat} (h32 : 32 ≤ b) {a u m : mw_M} {W : Option (List LN)} (h : WAT a m W) (hf : FW b a u) : WAT u m W := by
  have e15 : u.1 15 = a.1 15 := hf.at h32 (by omega)
  rcases h with ⟨h1, h2, h3⟩ | ⟨i, ls, n, j, tb, g1, g2, g3, g4, g5, g6, g7, g8, g9, g10, g11⟩
  · exact Or.inl ⟨h1, by rw [e15]; exact h2, h3⟩
  · refine Or.inr ⟨i, ls, n, j, tb, g1, g2, by rw [e15]; exact g3, by rw [e15]; exact g4, g5, g6, g7, g8, g9, by rw [hf.2 _ (LB_of g2)]; exact g10, ?_⟩
    rw [hf.at h32 (by omega)]
    exact g11
theorem WAT.fm {a m v : mw_M} {S J : List Nat} {W : Option (List LN)} (h : WAT a m W) (hf : FM S J m v) (h1 : 11 ∉ S ∧ 12 ∉ S ∧ 16 ∉ J) : WAT a v W := by
  have e11 : v.1 11 = m.1 11 := (hf.1 11 h1.1 (by decide)).1
  have e12 : v.1 12 = m.1 12 := (hf.1 12 h1.2.1 (by decide)).1
  have e16 : v.1 0 16 = m.1 0 16 := hf.2 16 h1.2.2
  unfold WAT at h ⊢
  rw [e11, e12, e16]
  exact h
theorem LAWm.fm {m v : mw_M} {S J : List Nat} {i : Nat} {ls : List LN} (h : LAWm m i ls) (hf : FM S J m v) (h1 : 11 ∉ S ∧ 12 ∉ S) : LAWm v i ls := by
  have e11 : v.1 11 = m.1 11 := (hf.1 11 h1.1 (by decide)).1
  have e12 : v.1 12 = m.1 12 := (hf.1 12 h1.2 (by decide)).1
  unfold LAWm at h ⊢
  rw [e11, e12]
  exact h
theorem s4_drain {d1 : Nat} (h32 : 32 ≤ d1) {a m : mw_M} {n p c0 : Nat} {W : Option (List LN)} {f : Nat → Nat → Nat} {t lop s c : Int32} (hL : LOK n f c0) (hX : XL d1 a n f c0) (hW : WAT a m W) (hp : p ≤ 1200) {Q : mw_M → Prop} (hQ : ∀ u, FX (SD d1) a u → (∀ b, LB b → u.1 b 2 = a.1 b 2) → XL d1 u n (fDr W f p t lop s c n) c0 → Q u) : P4_drain d1 lop (nI p) t s c a Q := by
  have h0 : fDr W f p t lop s c 0 = f := by
    funext w k
    unfold fDr
    rw [if_neg (by omega)]
  exact ⟨n + 1, x_drainL h32 hL hW hp hQ n 0 a (by omega) FX.rf (fun _ _ => rfl) (by rw [h0]; exact hX)⟩
theorem s11_leaves {a m : mw_M} {n p c0 : Nat} {W : Option (List LN)} {f : Nat → Nat → Nat} {t s c : Int32} (hL : LOK n f c0) (hM : ML m n f c0) (hW : WAT a m W) (hp : p ≤ 1200) {Q : mw_M → Prop} (hQ : ∀ v, FM [1, 13] SM m v → ML v n (fDr W f p t (lopN n f c0) s c n) c0 → Q v) : P11_waterLeaves (nI p) t s c m Q := by
  have h0 : fDr W f p t (lopN n f c0) s c 0 = f := by
    funext w k
    unfold fDr
    rw [if_neg (by omega)]
  unfold P11_waterLeaves
  exact s11_lopsided hL hM ⟨n + 1, m_leavesL hL hW hp hQ n 0 m (by omega) FM.rf (by rw [h0]; exact hM)⟩
