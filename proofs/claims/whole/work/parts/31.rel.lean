/-! what the two worlds have in common, in parts; which cells a part reads -/
def FX (S : List Nat) (a u : mw_M) : Prop := ∀ k, k ∉ S → u.1 k = a.1 k ∧ u.2 k = a.2 k
def FM (S J : List Nat) (m v : mw_M) : Prop := (∀ k, k ∉ S → k ≠ 0 → v.1 k = m.1 k ∧ v.2 k = m.2 k) ∧ ∀ j, j ∉ J → v.1 0 j = m.1 0 j
theorem mw_I_row {μ : mw_M} {k c j : Nat} {v : Int32} (h : k ≠ c) : (mw_I μ c j v).1 k = μ.1 k := mw_u_ne h
theorem mw_I_ne {μ : mw_M} {k c j i : Nat} {v : Int32} (h : k ≠ c) : (mw_I μ c j v).1 k i = μ.1 k i := congrFun (mw_I_row h) i
theorem mw_I_nj {μ : mw_M} {c j i : Nat} {v : Int32} (h : i ≠ j) : (mw_I μ c j v).1 c i = μ.1 c i := by rw [mw_I_get, if_neg (fun q => h q.2)]
theorem mw_L_row {μ : mw_M} {k c j : Nat} {v : Int64} (h : k ≠ c) : (mw_L μ c j v).2 k = μ.2 k := mw_u_ne h
theorem FX.rf {S : List Nat} {a : mw_M} : FX S a a := fun _ _ => ⟨rfl, rfl⟩
theorem FX.tr {S : List Nat} {a u w : mw_M} (h1 : FX S a u) (h2 : FX S u w) : FX S a w := fun k hk => ⟨(h2 k hk).1.trans (h1 k hk).1, (h2 k hk).2.trans (h1 k hk).2⟩
theorem FX.I {S : List Nat} {a u : mw_M} {c j : Nat} {v : Int32} (h : FX S a u) (hc : c ∈ S) : FX S a (mw_I u c j v) := fun k hk => ⟨(mw_I_row (fun e : k = c => hk (by rw [e]; exact hc))).trans (h k hk).1, (h k hk).2⟩
theorem FX.L {S : List Nat} {a u : mw_M} {c j : Nat} {v : Int64} (h : FX S a u) (hc : c ∈ S) : FX S a (mw_L u c j v) := fun k hk => ⟨(h k hk).1, (mw_L_row (fun e : k = c => hk (by rw [e]; exact hc))).trans (h k hk).2⟩
theorem FX.mono {S T : List Nat} {a u : mw_M} (h : FX S a u) (hs : ∀ k ∈ S, k ∈ T) : FX T a u := fun k hk => h k (fun q => hk (hs k q))
theorem FM.rf {S J : List Nat} {a : mw_M} : FM S J a a := ⟨fun _ _ _ => ⟨rfl, rfl⟩, fun _ _ => rfl⟩
theorem FM.tr {S J : List Nat} {a u w : mw_M} (h1 : FM S J a u) (h2 : FM S J u w) : FM S J a w := ⟨fun k hk h0 => ⟨(h2.1 k hk h0).1.trans (h1.1 k hk h0).1, (h2.1 k hk h0).2.trans (h1.1 k hk h0).2⟩, fun j hj => (h2.2 j hj).trans (h1.2 j hj)⟩
theorem FM.I {S J : List Nat} {a u : mw_M} {c j : Nat} {v : Int32} (h : FM S J a u) (hc : c ∈ S) (h0 : c ≠ 0) : FM S J a (mw_I u c j v) := ⟨fun k hk hz => ⟨(mw_I_row (fun e : k = c => hk (by rw [e]; exact hc))).trans (h.1 k hk hz).1, (h.1 k hk hz).2⟩, fun i hi => (mw_I_ne (Ne.symm h0)).trans (h.2 i hi)⟩
theorem FM.O {S J : List Nat} {a u : mw_M} {j : Nat} {v : Int32} (h : FM S J a u) (hj : j ∈ J) : FM S J a (mw_I u 0 j v) := ⟨fun k hk hz => ⟨(mw_I_row hz).trans (h.1 k hk hz).1, (h.1 k hk hz).2⟩, fun i hi => (mw_I_nj (fun e : i = j => hi (by rw [e]; exact hj))).trans (h.2 i hi)⟩
theorem FM.L {S J : List Nat} {a u : mw_M} {c j : Nat} {v : Int64} (h : FM S J a u) (hc : c ∈ S) : FM S J a (mw_L u c j v) := ⟨fun k hk hz => ⟨(h.1 k hk hz).1, (mw_L_row (fun e : k = c => hk (by rw [e]; exact hc))).trans (h.1 k hk hz).2⟩, h.2⟩
theorem FM.mono {S J T K : List Nat} {a u : mw_M} (h : FM S J a u) (hs : ∀ k ∈ S, k ∈ T) (hj : ∀ k ∈ J, k ∈ K) : FM T K a u := ⟨fun k hk => h.1 k (fun q => hk (hs k q)), fun j q => h.2 j (fun z => q (hj j z))⟩
/-- a load: n lumps, f 0 dry, f 1 wet, f 2 angle, f 3 holds, c the counterweight -/
def LOK (n : Nat) (f : Nat → Nat → Nat) (c : Nat) : Prop := n ≤ 12 ∧ (c < 10000 ∧ c % 100 < 12) ∧ ∀ i, i < n → 1 ≤ f 0 i ∧ f 0 i ≤ 50 ∧ f 1 i ≤ 99 ∧ f 2 i < 12 ∧ f 3 i ≤ 9
def XL (b : Nat) (a : mw_M) (n : Nat) (f : Nat → Nat → Nat) (c : Nat) : Prop := a.1 b 4 = nI n ∧ a.1 b 5 = nI c ∧ ∀ i, i < n → a.1 (b + 1) i = nI (f 0 i) ∧ a.1 (b + 2) i = nI (f 1 i) ∧ a.1 (b + 3) i = nI (f 2 i) ∧ a.1 (b + 4) i = nI (f 3 i)
def ML (m : mw_M) (n : Nat) (f : Nat → Nat → Nat) (c : Nat) : Prop := m.1 0 6 = nI n ∧ m.1 1 36 = nI c ∧ ∀ i, i < n → m.1 1 i = nI (f 0 i) ∧ m.1 1 (12 + i) = nI (f 1 i) ∧ m.1 1 (24 + i) = nI (f 2 i) ∧ m.1 5 i = nI (f 3 i)
/-- a change that is kept -/
def vOK (w v : Nat) : Prop := (w = 0 ∧ 1 ≤ v ∧ v ≤ 50) ∨ (w = 1 ∧ v ≤ 99) ∨ (w = 2 ∧ v < 12)
def CH1 (n : Nat) (a7 a8 a9 a10 m2 m3 m4 : Int32) : Prop := ∃ k w v0 v1 : Nat, a7 = nI k ∧ a8 = nI w ∧ a9 = nI v0 ∧ a10 = nI v1 ∧ m3 = nI v0 ∧ m4 = nI v1 ∧ ((w = 4 ∧ k = 0 ∧ m2 = nI 36 ∧ (v0 < 10000 ∧ v0 % 100 < 12) ∧ v1 < 10000 ∧ v1 % 100 < 12) ∨ (w < 3 ∧ k < n ∧ m2 = nI (12 * w + k) ∧ vOK w v0 ∧ vOK w v1))
def CH (n : Nat) (a m : mw_M) : Prop := ∃ dn kn : Nat, dn ≤ kn ∧ kn ≤ 40 ∧ a.1 6 5 = nI dn ∧ a.1 6 6 = nI kn ∧ m.1 0 5 = nI dn ∧ m.1 0 4 = nI kn ∧ ∀ i, i < kn → CH1 n (a.1 7 i) (a.1 8 i) (a.1 9 i) (a.1 10 i) (m.1 2 i) (m.1 3 i) (m.1 4 i)
def RLoad (a m : mw_M) : Prop := ∃ (n : Nat) (f : Nat → Nat → Nat) (c : Nat), LOK n f c ∧ XL 1 a n f c ∧ ML m n f c ∧ CH n a m
def MOK (be da de no wa fl : Nat) (g : Nat → Nat) : Prop := (100 ≤ be ∧ be ≤ 900) ∧ (1 ≤ da ∧ da ≤ 9999) ∧ de ≤ 9 ∧ no ≤ 50 ∧ (1 ≤ wa ∧ wa ≤ 9999) ∧ fl ≤ 4 ∧ ∀ i, i < fl → 1 ≤ g i ∧ g i ≤ 999
def RMach (a m : mw_M) : Prop := ∃ (be da de no wa fl : Nat) (g : Nat → Nat), MOK be da de no wa fl g ∧ (a.1 11 0 = nI be ∧ a.1 11 1 = nI da ∧ a.1 11 2 = nI de ∧ a.1 11 3 = nI no ∧ a.1 11 4 = nI wa ∧ a.1 11 8 = nI fl) ∧ (m.1 6 0 = nI be ∧ m.1 6 1 = nI da ∧ m.1 6 2 = nI de ∧ m.1 6 3 = nI no ∧ m.1 6 4 = nI wa ∧ m.1 0 9 = nI fl) ∧ ∀ i, i < fl → a.1 12 i = nI (g i) ∧ m.1 7 i = nI (g i) ∧ a.1 13 i = m.1 8 i ∧ a.1 14 i = m.1 9 i
def RTape (a m : mw_M) : Prop := ∃ (n : Nat) (t : Nat → Nat), n ≤ 120 ∧ a.1 16 1 = nI n ∧ m.1 0 14 = nI n ∧ ∀ i, i < n → a.1 17 i = nI (t i) ∧ m.1 10 i = nI (t i) ∧ t i < 256
def RActs (a m : mw_M) : Prop := ∃ (n r : Nat) (k t : Nat → Nat), n ≤ 50 ∧ r < 1000 ∧ a.1 62 2 = nI n ∧ m.1 0 53 = nI n ∧ a.1 62 3 = nI r ∧ m.1 0 56 = nI r ∧ (∀ i, i < n → a.1 63 i = nI (k i) ∧ m.1 21 i = nI (k i) ∧ k i < 8) ∧ ∀ i, i < r → i < 24 → a.1 64 i = nI (t i) ∧ m.1 22 i = nI (t i)
def SH1 (nb : Int32) (a66 a67 a68 a69 m23 m24 : Int32) : Prop := (a66 = 0 ∧ m23 = -1) ∨ (a66 = 1 ∧ ∃ w : Nat, w < 50 ∧ nI w < nb ∧ a67 = nI w ∧ m23 = nI w) ∨ (a66 = 2 ∧ ∃ t n : Nat, t < 5 ∧ n ≤ 60 ∧ a68 = nI t ∧ a69 = nI n ∧ m23 = nI (50 + t) ∧ m24 = nI n)
/-- what bytes hold -/
def RBt (a : mw_M) : Prop := ∀ d, d < 6 → a.1 66 d = 2 → a.1 68 d = 0 → ∀ i, i < 60 → -128 ≤ (a.2 (71 + d) i).toInt ∧ (a.2 (71 + d) i).toInt ≤ 127
def RSh (a m : mw_M) : Prop := (∀ d i, d < 6 → i < 60 → a.2 (71 + d) i = m.2 25 (60 * d + i)) ∧ (∀ d, d < 6 → SH1 (a.1 62 2) (a.1 66 d) (a.1 67 d) (a.1 68 d) (a.1 69 d) (m.1 23 d) (m.1 24 d)) ∧ RBt a
theorem RLoad.fr {a m u v : mw_M} {S T J : List Nat} (h : RLoad a m) (hx : FX S a u) (hm : FM T J m v) (h1 : (∀ k ∈ [1, 2, 3, 4, 5, 6, 7, 8, 9, 10], k ∉ S) ∧ (∀ k ∈ [1, 2, 3, 4, 5], k ∉ T) ∧ ∀ k ∈ [4, 5, 6], k ∉ J) : RLoad u v := by
  obtain ⟨n, f, c, h2, h3, h4, h5⟩ := h
  have e : ∀ k ∈ [1, 2, 3, 4, 5, 6, 7, 8, 9, 10], u.1 k = a.1 k := fun k hk => (hx k (h1.1 k hk)).1
  have e2 : ∀ k ∈ [1, 2, 3, 4, 5], v.1 k = m.1 k := fun k hk => (hm.1 k (h1.2.1 k hk) (by rintro rfl; simp at hk)).1
  have e3 : ∀ k ∈ [4, 5, 6], v.1 0 k = m.1 0 k := fun k hk => hm.2 k (h1.2.2 k hk)
  simp only [List.forall_mem_cons, List.not_mem_nil, false_imp_iff, implies_true, and_true] at e e2 e3
  obtain ⟨x1, x2, x3, x4, x5, x6, x7, x8, x9, x10⟩ := e
  obtain ⟨y1, y2, y3, y4, y5⟩ := e2
  obtain ⟨z1, z2, z3⟩ := e3
  refine ⟨n, f, c, h2, ?_, ?_, ?_⟩
  · unfold XL at h3 ⊢; rw [x1]; simp only [x2, x3, x4, x5] at h3 ⊢; exact h3
  · unfold ML at h4 ⊢; rw [z3, y1, y5]; exact h4
  · unfold CH at h5 ⊢; rw [x6, x7, x8, x9, x10, y2, y3, y4, z1, z2]; exact h5
theorem RMach.fr {a m u v : mw_M} {S T J : List Nat} (h : RMach a m) (hx : FX S a u) (hm : FM T J m v) (h1 : (∀ k ∈ [11, 12, 13, 14], k ∉ S) ∧ (∀ k ∈ [6, 7, 8, 9], k ∉ T) ∧ ∀ k ∈ [9], k ∉ J) : RMach u v := by
  have e : ∀ k ∈ [11, 12, 13, 14], u.1 k = a.1 k := fun k hk => (hx k (h1.1 k hk)).1
  have e2 : ∀ k ∈ [6, 7, 8, 9], v.1 k = m.1 k := fun k hk => (hm.1 k (h1.2.1 k hk) (by rintro rfl; simp at hk)).1
  have e3 : ∀ k ∈ [9], v.1 0 k = m.1 0 k := fun k hk => hm.2 k (h1.2.2 k hk)
  simp only [List.forall_mem_cons, List.not_mem_nil, false_imp_iff, implies_true, and_true] at e e2 e3
  obtain ⟨x1, x2, x3, x4⟩ := e
  obtain ⟨y1, y2, y3, y4⟩ := e2
  unfold RMach at h ⊢
  rw [x1, x2, x3, x4, y1, y2, y3, y4, e3]
  exact h
theorem RTape.fr {a m u v : mw_M} {S T J : List Nat} (h : RTape a m) (hx : FX S a u) (hm : FM T J m v) (h1 : (∀ k ∈ [17], k ∉ S) ∧ (∀ k ∈ [10], k ∉ T) ∧ ∀ k ∈ [14], k ∉ J) (h2 : u.1 16 1 = a.1 16 1) : RTape u v := by
  unfold RTape at h ⊢
  rw [(hx 17 (h1.1 17 (by decide))).1, (hm.1 10 (h1.2.1 10 (by decide)) (by decide)).1, hm.2 14 (h1.2.2 14 (by decide)), h2]
  exact h
theorem RActs.fr {a m u v : mw_M} {S T J : List Nat} (h : RActs a m) (hx : FX S a u) (hm : FM T J m v) (h1 : (∀ k ∈ [62, 63, 64], k ∉ S) ∧ (∀ k ∈ [21, 22], k ∉ T) ∧ ∀ k ∈ [53, 56], k ∉ J) : RActs u v := by
  unfold RActs at h ⊢
  rw [(hx 62 (h1.1 62 (by decide))).1, (hx 63 (h1.1 63 (by decide))).1, (hx 64 (h1.1 64 (by decide))).1, (hm.1 21 (h1.2.1 21 (by decide)) (by decide)).1, (hm.1 22 (h1.2.1 22 (by decide)) (by decide)).1, hm.2 53 (h1.2.2 53 (by decide)), hm.2 56 (h1.2.2 56 (by decide))]
  exact h
theorem RSh.fr {a m u v : mw_M} {S T J : List Nat} (h : RSh a m) (hx : FX S a u) (hm : FM T J m v) (h1 : (∀ k ∈ [66, 67, 68, 69, 71, 72, 73, 74, 75, 76], k ∉ S) ∧ (∀ k ∈ [23, 24, 25], k ∉ T)) (h2 : u.1 62 2 = a.1 62 2) : RSh u v := by
  have e71 : ∀ d, d < 6 → u.2 (71 + d) = a.2 (71 + d) := fun d hd => (hx (71 + d) (h1.1 _ (by rcases (show d = 0 ∨ d = 1 ∨ d = 2 ∨ d = 3 ∨ d = 4 ∨ d = 5 by omega) with rfl | rfl | rfl | rfl | rfl | rfl <;> simp))).2
  refine ⟨fun d i hd hi => ?_, fun d hd => ?_, fun d hd => ?_⟩
  · rw [e71 d hd, (hm.1 25 (h1.2 25 (by decide)) (by decide)).2]
    exact h.1 d i hd hi
  · rw [(hx 66 (h1.1 66 (by decide))).1, (hx 67 (h1.1 67 (by decide))).1, (hx 68 (h1.1 68 (by decide))).1, (hx 69 (h1.1 69 (by decide))).1, (hm.1 23 (h1.2 23 (by decide)) (by decide)).1, (hm.1 24 (h1.2 24 (by decide)) (by decide)).1, h2]
    exact h.2.1 d hd
  · rw [(hx 66 (h1.1 66 (by decide))).1, (hx 68 (h1.1 68 (by decide))).1, e71 d hd]
    exact h.2.2 d hd
