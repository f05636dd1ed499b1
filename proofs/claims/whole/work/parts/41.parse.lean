/-! what a law's text says, as a pure reading -/
def jnS (s : Nat) (a b : Int32) : Int32 :=
  if s = 37 then (if b = 0 then 0 else mw_rem a b)
  else if s = 38 then (if a = 0 then 0 else if b = 0 then 0 else 1)
  else if s = 42 then a * b
  else if s = 43 then a + b
  else if s = 45 then a - b
  else if s = 47 then (if b = 0 then 0 else a / b)
  else if s = 60 then (if b ≤ a then 0 else 1)
  else if s = 61 then (if a = b then 1 else 0)
  else if s = 62 then (if a ≤ b then 0 else 1)
  else if s = 124 then (if a = 0 then (if b = 0 then 0 else 1) else 1)
  else 0
abbrev EX : Type := List Int32 × ((Nat → Int32) → Int32)
def eNum (n : Nat) : EX := ([nI n], fun _ => nI n)
def eNam (k : Nat) : EX := ([-1 - nI k], fun nm => nm k)
def eNeg (e : EX) : EX := (e.1 ++ [10126], fun nm => -e.2 nm)
def eInv (e : EX) : EX := (e.1 ++ [10033], fun nm => if e.2 nm = 0 then 1 else 0)
def eBin (s : Nat) (a b : EX) : EX := (a.1 ++ (b.1 ++ [10000 + nI s]), fun nm => jnS s (a.2 nm) (b.2 nm))
def sOK (s : Nat) : Prop := s < 256 ∧ s ≠ 59 ∧ s ≠ 63 ∧ s ≠ 33 ∧ s ≠ 126
/-- made by the five makers alone -/
def okE (e : EX) : Prop := ∀ P : EX → Prop, (∀ n, n ≤ 9999 → P (eNum n)) → (∀ k, k < 9 → P (eNam k)) → (∀ e, P e → P (eNeg e)) → (∀ e, P e → P (eInv e)) → (∀ s a b, sOK s → P a → P b → P (eBin s a b)) → P e
theorem ok_num {n : Nat} (h : n ≤ 9999) : okE (eNum n) := fun _ h1 _ _ _ _ => h1 n h
theorem ok_nam {k : Nat} (h : k < 9) : okE (eNam k) := fun _ _ h2 _ _ _ => h2 k h
theorem ok_neg {e : EX} (h : okE e) : okE (eNeg e) := fun P h1 h2 h3 h4 h5 => h3 e (h P h1 h2 h3 h4 h5)
theorem ok_inv {e : EX} (h : okE e) : okE (eInv e) := fun P h1 h2 h3 h4 h5 => h4 e (h P h1 h2 h3 h4 h5)
theorem ok_bin {s : Nat} {a b : EX} (hs : sOK s) (ha : okE a) (hb : okE b) : okE (eBin s a b) := fun P h1 h2 h3 h4 h5 => h5 s a b hs (ha P h1 h2 h3 h4 h5) (hb P h1 h2 h3 h4 h5)
abbrev RES : Type := Nat × Option EX
def bnd (l s : Nat) : Bool :=
  if l = 0 then s == 124
  else if l = 1 then s == 38
  else if l = 2 then s == 60 || s == 61 || s == 62
  else if l = 3 then s == 43 || s == 45
  else s == 42 || s == 47 || s == 37
def nmk (s : Nat) : Option Nat :=
  if s = 99 then some 8 else if s = 100 then some 5 else if s = 103 then some 6 else if s = 104 then some 1
  else if s = 108 then some 4 else if s = 112 then some 2 else if s = 115 then some 7 else if s = 116 then some 3
  else if s = 119 then some 0 else none
def dgt (s : Nat) : Bool := decide (48 ≤ s) && decide (s ≤ 57)
/-- up to k further digits -/
def pNum (tb : Nat → Nat) : Nat → Nat → Nat → RES
  | 0, i, v => (i, some (eNum v))
  | k + 1, i, v => if dgt (tb i) then pNum tb k (i + 1) (v * 10 + (tb i - 48)) else (i, some (eNum v))
/-- the loop behind the first operand -/
def pL (tb : Nat → Nat) (sub : Nat → RES) (l : Nat) : Nat → Nat → EX → RES
  | 0, i, e => (i, some e)
  | k + 1, i, e => if bnd l (tb i) then (match sub (i + 1) with
    | (j, some e2) => pL tb sub l k j (eBin (tb i) e e2)
    | (j, none) => (j, none)) else (i, some e)
/-- c levels above the operand: level 5 - c -/
def pLv (tb : Nat → Nat) (op : Nat → RES) : Nat → Nat → RES
  | 0, i => op i
  | c + 1, i => match pLv tb op c i with
    | (j, some e) => pL tb (pLv tb op c) (4 - c) (if c = 2 then 1 else 120) j e
    | (j, none) => (j, none)
def pOp (tb : Nat → Nat) : Nat → Nat → RES
  | 0, i => if dgt (tb i) then pNum tb 4 i 0 else match nmk (tb i) with
    | some k => (i + 1, some (eNam k))
    | none => (i, none)
  | r + 1, i => if dgt (tb i) then pNum tb 4 i 0 else match nmk (tb i) with
    | some k => (i + 1, some (eNam k))
    | none => if tb i = 40 then (match pLv tb (pOp tb r) 5 (i + 1) with
        | (j, some e) => if tb j = 41 then (j + 1, some e) else (j, none)
        | (j, none) => (j, none))
      else if tb i = 33 then (match pOp tb r (i + 1) with
        | (j, some e) => (j, some (eInv e))
        | (j, none) => (j, none))
      else if tb i = 45 then (match pOp tb r (i + 1) with
        | (j, some e) => (j, some (eNeg e))
        | (j, none) => (j, none))
      else (i, none)
def pE (tb : Nat → Nat) (i : Nat) : RES := pLv tb (pOp tb 6) 5 i
abbrev LN : Type := Option EX × EX
def pLine (tb : Nat → Nat) (i : Nat) : Nat × Option LN := match pE tb i with
  | (j, none) => (j, none)
  | (j, some e) => if tb j = 63 then (match pE tb (j + 1) with
    | (k, none) => (k, none)
    | (k, some e2) => (k, some (some e, e2))) else (j, some (none, e))
def pText (tb : Nat → Nat) (n : Nat) : Nat → Nat → Nat × Option (List LN)
  | 0, i => (i, none)
  | k + 1, i => match pLine tb i with
    | (j, none) => (j, none)
    | (j, some l) => if j < n then (if tb j = 59 then (match pText tb n k (j + 1) with
        | (q, some ls) => (q, some (l :: ls))
        | (q, none) => (q, none)) else (j, none)) else (j, some [l])
def lnCode : LN → List Int32
  | (none, e) => e.1
  | (some c, e) => c.1 ++ (10063 :: e.1)
def txCode : List LN → List Int32
  | [] => []
  | [l] => lnCode l
  | l :: ls => lnCode l ++ (10059 :: txCode ls)
def txVal (nm : Nat → Int32) : List LN → Int32
  | [] => 0
  | (none, e) :: _ => e.2 nm
  | (some c, e) :: ls => if c.2 nm = 0 then txVal nm ls else e.2 nm
/-- a reading from i on: within the text, not longer in code than in text -/
def GD (n : Nat) (f : Nat → RES) : Prop := ∀ i, i ≤ n → i ≤ (f i).1 ∧ (f i).1 ≤ n ∧ ∀ e, (f i).2 = some e → i + e.1.length ≤ (f i).1 ∧ 1 ≤ e.1.length ∧ okE e
def TB (n : Nat) (tb : Nat → Nat) : Prop := n ≤ 120 ∧ ∀ i, tb i < 256 ∧ (n ≤ i → tb i = 0)
theorem TB.in {n : Nat} {tb : Nat → Nat} (h : TB n tb) {i : Nat} (h0 : tb i ≠ 0) : i < n := by
  rcases Nat.lt_or_ge i n with q | q
  · exact q
  · exact absurd ((h.2 i).2 q) h0
theorem bnd_0 (l s : Nat) (h : bnd l s = true) : s ≠ 0 ∧ sOK s := by
  unfold bnd at h
  unfold sOK
  split at h
  · simp at h; omega
  · split at h
    · simp at h; omega
    · split at h
      · simp at h; omega
      · split at h
        · simp at h; omega
        · simp at h; omega
theorem pNum_G {n : Nat} {tb : Nat → Nat} (h : TB n tb) : ∀ k i v, i ≤ n → i ≤ (pNum tb k i v).1 ∧ (pNum tb k i v).1 ≤ n ∧ ∃ w, (pNum tb k i v).2 = some (eNum w) ∧ w < 10 ^ k * (v + 1)
  | 0, i, v, hi => ⟨Nat.le_refl _, hi, v, rfl, by omega⟩
  | k + 1, i, v, hi => by
    unfold pNum
    by_cases c : dgt (tb i) = true
    · rw [if_pos c]
      have cc : 48 ≤ tb i ∧ tb i ≤ 57 := by unfold dgt at c; simp at c; exact c
      have hn := h.in (i := i) (by omega)
      obtain ⟨h1, h2, w, h3, h4⟩ := pNum_G h k (i + 1) (v * 10 + (tb i - 48)) (by omega)
      refine ⟨by omega, h2, w, h3, Nat.lt_of_lt_of_le h4 ?_⟩
      rw [Nat.pow_succ, Nat.mul_assoc]
      exact Nat.mul_le_mul_left _ (by omega)
    · rw [if_neg c]
      refine ⟨Nat.le_refl _, hi, v, rfl, ?_⟩
      have : 1 ≤ 10 ^ (k + 1) := Nat.pow_pos (by decide)
      exact Nat.lt_of_lt_of_le (Nat.lt_succ_self v) (Nat.le_mul_of_pos_left _ this)
theorem bin_len (s : Nat) (a b : EX) : (eBin s a b).1.length = a.1.length + b.1.length + 1 := by
  show (a.1 ++ (b.1 ++ [10000 + nI s])).length = _
  rw [List.length_append, List.length_append, List.length_singleton]; omega
theorem neg_len (e : EX) : (eNeg e).1.length = e.1.length + 1 := by
  show (e.1 ++ [10126]).length = _
  rw [List.length_append, List.length_singleton]
theorem inv_len (e : EX) : (eInv e).1.length = e.1.length + 1 := by
  show (e.1 ++ [10033]).length = _
  rw [List.length_append, List.length_singleton]
theorem pL_G {n : Nat} {tb : Nat → Nat} (h : TB n tb) {sub : Nat → RES} (hs : GD n sub) {l : Nat} {i0 : Nat} : ∀ k i e, i ≤ n → i0 + e.1.length ≤ i → 1 ≤ e.1.length → okE e → i ≤ (pL tb sub l k i e).1 ∧ (pL tb sub l k i e).1 ≤ n ∧ ∀ e', (pL tb sub l k i e).2 = some e' → i0 + e'.1.length ≤ (pL tb sub l k i e).1 ∧ 1 ≤ e'.1.length ∧ okE e' := by
  intro k
  induction k with
  | zero =>
    intro i e hi h1 h2 h3
    unfold pL
    refine ⟨Nat.le_refl _, hi, fun e' he => ?_⟩
    have : e = e' := Option.some.inj he
    subst this
    exact ⟨h1, h2, h3⟩
  | succ k ih =>
    intro i e hi h1 h2 h3
    unfold pL
    by_cases c : bnd l (tb i) = true
    · rw [if_pos c]
      have cb := bnd_0 l _ c
      have hn := h.in cb.1
      have g := hs (i + 1) (by omega)
      cases hr : sub (i + 1) with
      | mk j o =>
        rw [hr] at g
        cases o with
        | none => exact ⟨by simp only at g ⊢; omega, g.2.1, fun e' he => absurd he (by simp)⟩
        | some e2 =>
          have g2 := g.2.2 e2 rfl
          have b := bin_len (tb i) e e2
          have r := ih j (eBin (tb i) e e2) g.2.1 (by simp only at g2; omega) (by omega) (ok_bin cb.2 h3 g2.2.2)
          exact ⟨by simp only at g ⊢; omega, r.2⟩
    · rw [if_neg c]
      refine ⟨Nat.le_refl _, hi, fun e' he => ?_⟩
      have : e = e' := Option.some.inj he
      subst this
      exact ⟨h1, h2, h3⟩
theorem pLv_G {n : Nat} {tb : Nat → Nat} (h : TB n tb) {op : Nat → RES} (ho : GD n op) : ∀ c, GD n (pLv tb op c)
  | 0 => ho
  | c + 1 => fun i hi => by
    have g := pLv_G h ho c i hi
    unfold pLv
    cases hr : pLv tb op c i with
    | mk j o =>
      rw [hr] at g
      cases o with
      | none => exact ⟨g.1, g.2.1, fun e' he => absurd he (by simp)⟩
      | some e =>
        have g2 := g.2.2 e rfl
        have r := pL_G (l := 4 - c) (i0 := i) h (pLv_G h ho c) (if c = 2 then 1 else 120) j e g.2.1 g2.1 g2.2.1 g2.2.2
        exact ⟨Nat.le_trans g.1 r.1, r.2⟩
theorem nmk_0 {s k : Nat} (h : nmk s = some k) : s ≠ 0 ∧ k < 9 := by
  unfold nmk at h
  repeat' (split at h; · (injection h with h; subst h; omega))
  injection h
theorem GD_num {n : Nat} {tb : Nat → Nat} (h : TB n tb) {i : Nat} (hi : i ≤ n) (c : dgt (tb i) = true) : i ≤ (pNum tb 4 i 0).1 ∧ (pNum tb 4 i 0).1 ≤ n ∧ ∀ e, (pNum tb 4 i 0).2 = some e → i + e.1.length ≤ (pNum tb 4 i 0).1 ∧ 1 ≤ e.1.length ∧ okE e := by
  have cc : 48 ≤ tb i ∧ tb i ≤ 57 := by unfold dgt at c; simp at c; exact c
  have hn := h.in (i := i) (by omega)
  have e : pNum tb 4 i 0 = pNum tb 3 (i + 1) (0 * 10 + (tb i - 48)) := by
    conv => lhs; unfold pNum
    rw [if_pos c]
  have g := pNum_G h 4 i 0 hi
  have g' := pNum_G h 3 (i + 1) (0 * 10 + (tb i - 48)) (by omega)
  rw [← e] at g'
  refine ⟨g.1, g.2.1, fun e' he => ?_⟩
  obtain ⟨w, h1, h2⟩ := g.2.2
  rw [h1] at he
  have : eNum w = e' := Option.some.inj he
  subst this
  exact ⟨g'.1, Nat.le_refl _, ok_num (by omega)⟩
theorem GD_nam {n : Nat} {tb : Nat → Nat} (h : TB n tb) {i k : Nat} (hi : i ≤ n) (c : nmk (tb i) = some k) : i ≤ i + 1 ∧ i + 1 ≤ n ∧ ∀ e, some (eNam k) = some e → i + e.1.length ≤ i + 1 ∧ 1 ≤ e.1.length ∧ okE e := by
  have cc := nmk_0 c
  have hn := h.in cc.1
  refine ⟨by omega, hn, fun e he => ?_⟩
  have : eNam k = e := Option.some.inj he
  subst this
  exact ⟨Nat.le_refl _, Nat.le_refl _, ok_nam cc.2⟩
theorem pOp_G {n : Nat} {tb : Nat → Nat} (h : TB n tb) : ∀ r, GD n (pOp tb r)
  | 0 => fun i hi => by
    unfold pOp
    by_cases c : dgt (tb i) = true
    · rw [if_pos c]; exact GD_num h hi c
    · rw [if_neg c]
      cases hk : nmk (tb i) with
      | some k => exact GD_nam h hi hk
      | none => exact ⟨Nat.le_refl _, hi, fun e' he => absurd he (by simp)⟩
  | r + 1 => fun i hi => by
    have ho := pOp_G h r
    unfold pOp
    by_cases c : dgt (tb i) = true
    · rw [if_pos c]; exact GD_num h hi c
    · rw [if_neg c]
      cases hk : nmk (tb i) with
      | some k => exact GD_nam h hi hk
      | none =>
        simp only
        by_cases c1 : tb i = 40
        · rw [if_pos c1]
          have hn := h.in (i := i) (by omega)
          have g := pLv_G h ho 5 (i + 1) hn
          cases hr : pLv tb (pOp tb r) 5 (i + 1) with
          | mk j o =>
            rw [hr] at g
            cases o with
            | none => exact ⟨by simp only at g ⊢; omega, g.2.1, fun e' he => absurd he (by simp)⟩
            | some e =>
              simp only at g ⊢
              have g2 := g.2.2 e rfl
              by_cases c2 : tb j = 41
              · rw [if_pos c2]
                have hn2 := h.in (i := j) (by omega)
                refine ⟨by simp only; omega, hn2, fun e' he => ?_⟩
                have : e = e' := Option.some.inj he
                subst this
                exact ⟨by simp only; omega, g2.2⟩
              · rw [if_neg c2]
                exact ⟨by simp only; omega, g.2.1, fun e' he => absurd he (by simp)⟩
        · rw [if_neg c1]
          by_cases c3 : tb i = 33
          · rw [if_pos c3]
            have hn := h.in (i := i) (by omega)
            have g := ho (i + 1) hn
            cases hr : pOp tb r (i + 1) with
            | mk j o =>
              rw [hr] at g
              cases o with
              | none => exact ⟨by simp only at g ⊢; omega, g.2.1, fun e' he => absurd he (by simp)⟩
              | some e =>
                simp only at g ⊢
                have g2 := g.2.2 e rfl
                refine ⟨by omega, g.2.1, fun e' he => ?_⟩
                have : eInv e = e' := Option.some.inj he
                subst this
                have b := inv_len e
                exact ⟨by omega, by omega, ok_inv g2.2.2⟩
          · rw [if_neg c3]
            by_cases c4 : tb i = 45
            · rw [if_pos c4]
              have hn := h.in (i := i) (by omega)
              have g := ho (i + 1) hn
              cases hr : pOp tb r (i + 1) with
              | mk j o =>
                rw [hr] at g
                cases o with
                | none => exact ⟨by simp only at g ⊢; omega, g.2.1, fun e' he => absurd he (by simp)⟩
                | some e =>
                  simp only at g ⊢
                  have g2 := g.2.2 e rfl
                  refine ⟨by omega, g.2.1, fun e' he => ?_⟩
                  have : eNeg e = e' := Option.some.inj he
                  subst this
                  have b := neg_len e
                  exact ⟨by omega, by omega, ok_neg g2.2.2⟩
            · rw [if_neg c4]
              exact ⟨Nat.le_refl _, hi, fun e' he => absurd he (by simp)⟩
theorem pE_G {n : Nat} {tb : Nat → Nat} (h : TB n tb) : GD n (pE tb) := pLv_G h (pOp_G h 6) 5
