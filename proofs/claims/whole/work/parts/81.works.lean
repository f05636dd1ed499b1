/-! acts: what each body works -/
theorem x_w1 {c1 : Int32 → Int32 → Int32 → Int32 → mw_M → (Int32 → mw_M → Prop) → Prop} {p2 p3 p4 : Int32} {μ : mw_M} {Q : Int32 → mw_M → Prop} (h : Q (p3 + (μ.1 62 4)) μ) : S0_worked c1 1 p2 p3 p4 μ Q := by
  unfold S0_worked
  exact ⟨fun _ => h, fun e => absurd e (by decide), fun e => absurd e (by decide), fun e => absurd e (by decide), fun e => absurd e (by decide), fun e => absurd e (by decide), fun e => absurd e (by decide), fun e => absurd e (by decide), fun e => absurd e (by decide), fun e => absurd e (by decide), fun e => absurd e (by decide), fun e => absurd e (by decide), fun e => absurd e (by decide), fun e _ _ _ _ _ _ _ _ _ _ _ _ => absurd rfl e⟩
theorem x_w2 {c1 : Int32 → Int32 → Int32 → Int32 → mw_M → (Int32 → mw_M → Prop) → Prop} {p2 p3 p4 : Int32} {μ : mw_M} {Q : Int32 → mw_M → Prop} (h : c1 (μ.1 62 5) 1 p3 p4 μ (fun r3 μ4 => c1 (μ4.1 62 5) 2 1 p4 μ4 (fun r5 μ6 => Q (r3 - r5) μ6))) : S0_worked c1 2 p2 p3 p4 μ Q := by
  unfold S0_worked
  exact ⟨fun e => absurd e (by decide), fun _ => h, fun e => absurd e (by decide), fun e => absurd e (by decide), fun e => absurd e (by decide), fun e => absurd e (by decide), fun e => absurd e (by decide), fun e => absurd e (by decide), fun e => absurd e (by decide), fun e => absurd e (by decide), fun e => absurd e (by decide), fun e => absurd e (by decide), fun e => absurd e (by decide), fun _ e _ _ _ _ _ _ _ _ _ _ _ => absurd rfl e⟩
theorem x_w10 {c1 : Int32 → Int32 → Int32 → Int32 → mw_M → (Int32 → mw_M → Prop) → Prop} {p2 p3 p4 : Int32} {μ : mw_M} {Q : Int32 → mw_M → Prop} (h : c1 (μ.1 62 5) 0 p3 p4 μ (fun r8 μ9 => Q (r8 * 2) μ9)) : S0_worked c1 10 p2 p3 p4 μ Q := by
  unfold S0_worked
  exact ⟨fun e => absurd e (by decide), fun e => absurd e (by decide), fun _ => h, fun e => absurd e (by decide), fun e => absurd e (by decide), fun e => absurd e (by decide), fun e => absurd e (by decide), fun e => absurd e (by decide), fun e => absurd e (by decide), fun e => absurd e (by decide), fun e => absurd e (by decide), fun e => absurd e (by decide), fun e => absurd e (by decide), fun _ _ e _ _ _ _ _ _ _ _ _ _ => absurd rfl e⟩
theorem x_w11 {c1 : Int32 → Int32 → Int32 → Int32 → mw_M → (Int32 → mw_M → Prop) → Prop} {p2 p3 p4 : Int32} {μ : mw_M} {Q : Int32 → mw_M → Prop} (h : Q (p3 ^^^ (μ.1 62 4)) μ) : S0_worked c1 11 p2 p3 p4 μ Q := by
  unfold S0_worked
  exact ⟨fun e => absurd e (by decide), fun e => absurd e (by decide), fun e => absurd e (by decide), fun _ => h, fun e => absurd e (by decide), fun e => absurd e (by decide), fun e => absurd e (by decide), fun e => absurd e (by decide), fun e => absurd e (by decide), fun e => absurd e (by decide), fun e => absurd e (by decide), fun e => absurd e (by decide), fun e => absurd e (by decide), fun _ _ _ e _ _ _ _ _ _ _ _ _ => absurd rfl e⟩
theorem x_w20 {c1 : Int32 → Int32 → Int32 → Int32 → mw_M → (Int32 → mw_M → Prop) → Prop} {p2 p3 p4 : Int32} {μ : mw_M} {Q : Int32 → mw_M → Prop} (h : c1 p2 0 p3 p4 μ (fun r12 μ13 => Q (r12 + 3) μ13)) : S0_worked c1 20 p2 p3 p4 μ Q := by
  unfold S0_worked
  exact ⟨fun e => absurd e (by decide), fun e => absurd e (by decide), fun e => absurd e (by decide), fun e => absurd e (by decide), fun _ => h, fun e => absurd e (by decide), fun e => absurd e (by decide), fun e => absurd e (by decide), fun e => absurd e (by decide), fun e => absurd e (by decide), fun e => absurd e (by decide), fun e => absurd e (by decide), fun e => absurd e (by decide), fun _ _ _ _ e _ _ _ _ _ _ _ _ => absurd rfl e⟩
theorem x_w30 {c1 : Int32 → Int32 → Int32 → Int32 → mw_M → (Int32 → mw_M → Prop) → Prop} {p2 p3 p4 : Int32} {μ : mw_M} {Q : Int32 → mw_M → Prop} (h : c1 p2 1 p3 p4 μ (fun r15 μ16 => Q (-r15) μ16)) : S0_worked c1 30 p2 p3 p4 μ Q := by
  unfold S0_worked
  exact ⟨fun e => absurd e (by decide), fun e => absurd e (by decide), fun e => absurd e (by decide), fun e => absurd e (by decide), fun e => absurd e (by decide), fun _ => h, fun e => absurd e (by decide), fun e => absurd e (by decide), fun e => absurd e (by decide), fun e => absurd e (by decide), fun e => absurd e (by decide), fun e => absurd e (by decide), fun e => absurd e (by decide), fun _ _ _ _ _ e _ _ _ _ _ _ _ => absurd rfl e⟩
theorem x_w40 {c1 : Int32 → Int32 → Int32 → Int32 → mw_M → (Int32 → mw_M → Prop) → Prop} {p2 p3 p4 : Int32} {μ : mw_M} {Q : Int32 → mw_M → Prop} (h : c1 p2 2 p3 p4 μ (fun r18 μ19 => Q (r18 * 3) μ19)) : S0_worked c1 40 p2 p3 p4 μ Q := by
  unfold S0_worked
  exact ⟨fun e => absurd e (by decide), fun e => absurd e (by decide), fun e => absurd e (by decide), fun e => absurd e (by decide), fun e => absurd e (by decide), fun e => absurd e (by decide), fun _ => h, fun e => absurd e (by decide), fun e => absurd e (by decide), fun e => absurd e (by decide), fun e => absurd e (by decide), fun e => absurd e (by decide), fun e => absurd e (by decide), fun _ _ _ _ _ _ e _ _ _ _ _ _ => absurd rfl e⟩
theorem x_w41 {c1 : Int32 → Int32 → Int32 → Int32 → mw_M → (Int32 → mw_M → Prop) → Prop} {p2 p3 p4 : Int32} {μ : mw_M} {Q : Int32 → mw_M → Prop} (h : c1 p2 1 (p3 + 1) p4 μ (fun r21 μ22 => Q r21 μ22)) : S0_worked c1 41 p2 p3 p4 μ Q := by
  unfold S0_worked
  exact ⟨fun e => absurd e (by decide), fun e => absurd e (by decide), fun e => absurd e (by decide), fun e => absurd e (by decide), fun e => absurd e (by decide), fun e => absurd e (by decide), fun e => absurd e (by decide), fun _ => h, fun e => absurd e (by decide), fun e => absurd e (by decide), fun e => absurd e (by decide), fun e => absurd e (by decide), fun e => absurd e (by decide), fun _ _ _ _ _ _ _ e _ _ _ _ _ => absurd rfl e⟩
theorem x_w50 {c1 : Int32 → Int32 → Int32 → Int32 → mw_M → (Int32 → mw_M → Prop) → Prop} {p2 p3 p4 : Int32} {μ : mw_M} {Q : Int32 → mw_M → Prop} (h : c1 p2 2 p3 p4 μ (fun r24 μ25 => c1 (μ25.1 62 5) 0 2 p4 μ25 (fun r26 μ27 => Q (r24 - r26) μ27))) : S0_worked c1 50 p2 p3 p4 μ Q := by
  unfold S0_worked
  exact ⟨fun e => absurd e (by decide), fun e => absurd e (by decide), fun e => absurd e (by decide), fun e => absurd e (by decide), fun e => absurd e (by decide), fun e => absurd e (by decide), fun e => absurd e (by decide), fun e => absurd e (by decide), fun _ => h, fun e => absurd e (by decide), fun e => absurd e (by decide), fun e => absurd e (by decide), fun e => absurd e (by decide), fun _ _ _ _ _ _ _ _ e _ _ _ _ => absurd rfl e⟩
theorem x_w60 {c1 : Int32 → Int32 → Int32 → Int32 → mw_M → (Int32 → mw_M → Prop) → Prop} {p2 p3 p4 : Int32} {μ : mw_M} {Q : Int32 → mw_M → Prop} (h : c1 p2 3 p3 p4 μ (fun r29 μ30 => Q (r29 ^^^ 5) μ30)) : S0_worked c1 60 p2 p3 p4 μ Q := by
  unfold S0_worked
  exact ⟨fun e => absurd e (by decide), fun e => absurd e (by decide), fun e => absurd e (by decide), fun e => absurd e (by decide), fun e => absurd e (by decide), fun e => absurd e (by decide), fun e => absurd e (by decide), fun e => absurd e (by decide), fun e => absurd e (by decide), fun _ => h, fun e => absurd e (by decide), fun e => absurd e (by decide), fun e => absurd e (by decide), fun _ _ _ _ _ _ _ _ _ e _ _ _ => absurd rfl e⟩
theorem x_w70 {c1 : Int32 → Int32 → Int32 → Int32 → mw_M → (Int32 → mw_M → Prop) → Prop} {p2 p3 p4 : Int32} {μ : mw_M} {Q : Int32 → mw_M → Prop} (h : c1 p2 0 p3 p4 μ (fun r32 μ33 => Q (r32 * 2) μ33)) : S0_worked c1 70 p2 p3 p4 μ Q := by
  unfold S0_worked
  exact ⟨fun e => absurd e (by decide), fun e => absurd e (by decide), fun e => absurd e (by decide), fun e => absurd e (by decide), fun e => absurd e (by decide), fun e => absurd e (by decide), fun e => absurd e (by decide), fun e => absurd e (by decide), fun e => absurd e (by decide), fun e => absurd e (by decide), fun _ => h, fun e => absurd e (by decide), fun e => absurd e (by decide), fun _ _ _ _ _ _ _ _ _ _ e _ _ => absurd rfl e⟩
theorem x_w80 {c1 : Int32 → Int32 → Int32 → Int32 → mw_M → (Int32 → mw_M → Prop) → Prop} {p2 p3 p4 : Int32} {μ : mw_M} {Q : Int32 → mw_M → Prop} (h : c1 p2 1 p3 p4 μ (fun r35 μ36 => c1 (μ36.1 62 5) 2 2 p4 μ36 (fun r37 μ38 => Q (r35 + r37) μ38))) : S0_worked c1 80 p2 p3 p4 μ Q := by
  unfold S0_worked
  exact ⟨fun e => absurd e (by decide), fun e => absurd e (by decide), fun e => absurd e (by decide), fun e => absurd e (by decide), fun e => absurd e (by decide), fun e => absurd e (by decide), fun e => absurd e (by decide), fun e => absurd e (by decide), fun e => absurd e (by decide), fun e => absurd e (by decide), fun e => absurd e (by decide), fun _ => h, fun e => absurd e (by decide), fun _ _ _ _ _ _ _ _ _ _ _ e _ => absurd rfl e⟩
theorem x_w81 {c1 : Int32 → Int32 → Int32 → Int32 → mw_M → (Int32 → mw_M → Prop) → Prop} {p2 p3 p4 : Int32} {μ : mw_M} {Q : Int32 → mw_M → Prop} (h : c1 p2 3 p3 p4 μ (fun r40 μ41 => Q (r40 - 1) μ41)) : S0_worked c1 81 p2 p3 p4 μ Q := by
  unfold S0_worked
  exact ⟨fun e => absurd e (by decide), fun e => absurd e (by decide), fun e => absurd e (by decide), fun e => absurd e (by decide), fun e => absurd e (by decide), fun e => absurd e (by decide), fun e => absurd e (by decide), fun e => absurd e (by decide), fun e => absurd e (by decide), fun e => absurd e (by decide), fun e => absurd e (by decide), fun e => absurd e (by decide), fun _ => h, fun _ _ _ _ _ _ _ _ _ _ _ _ e => absurd rfl e⟩
/-! the trace on both sides -/
def TX (a u : mw_M) (L : List Nat) : Prop := FX [62, 64] a u ∧ (∀ j, j ≠ 3 → u.1 62 j = a.1 62 j) ∧ u.1 62 3 = nI L.length ∧ ∀ i, i < L.length → i < 24 → u.1 64 i = nI (L.getD i 0)
def TM (m v : mw_M) (L : List Nat) : Prop := FM [22] [56] m v ∧ v.1 0 56 = nI L.length ∧ ∀ i, i < L.length → i < 24 → v.1 22 i = nI (L.getD i 0)
theorem getD_snoc (L : List Nat) (b i : Nat) (h : i < (L ++ [b]).length) : (L ++ [b]).getD i 0 = if i = L.length then b else L.getD i 0 := by
  simp only [List.length_append, List.length_cons, List.length_nil] at h
  by_cases c : i = L.length
  · rw [if_pos c, c]
    simp
  · rw [if_neg c]
    simp only [List.getD_eq_getElem?_getD]
    rw [List.getElem?_append_left (by omega)]
theorem TX.push {a u : mw_M} {L : List Nat} (h : TX a u L) (hl : L.length < 900) {b : Nat} : TX a (if L.length < 24 then mw_I (mw_I u 64 L.length (nI b)) 62 3 (nI (L.length + 1)) else mw_I u 62 3 (nI (L.length + 1))) (L ++ [b]) := by
  obtain ⟨h1, h2, h3, h4⟩ := h
  by_cases c : L.length < 24
  · rw [if_pos c]
    refine ⟨(h1.I (by decide)).I (by decide), fun j hj => ?_, ?_, fun i hi h24 => ?_⟩
    · rw [mw_I_nj hj, mw_I_ne (by decide)]; exact h2 j hj
    · rw [mw_I_eq, List.length_append]; rfl
    · rw [mw_I_ne (by decide), getD_snoc L b i hi, mw_I_get]
      by_cases e : i = L.length
      · rw [if_pos ⟨rfl, e⟩, if_pos e]
      · rw [if_neg (fun z => e z.2), if_neg e]
        simp only [List.length_append, List.length_cons, List.length_nil] at hi
        exact h4 i (by omega) h24
  · rw [if_neg c]
    refine ⟨h1.I (by decide), fun j hj => ?_, ?_, fun i hi h24 => ?_⟩
    · rw [mw_I_nj hj]; exact h2 j hj
    · rw [mw_I_eq, List.length_append]; rfl
    · rw [mw_I_ne (by decide), getD_snoc L b i hi, if_neg (by omega)]
      exact h4 i (by omega) h24
theorem m_beg {m v : mw_M} {L : List Nat} (h : TM m v L) (hl : L.length < 900) {b : Nat} {Q : mw_M → Prop} (hQ : ∀ v', TM m v' (L ++ [b]) → Q v') : P11_begins (nI b) v Q := by
  obtain ⟨h1, h3, h4⟩ := h
  unfold P11_begins
  rw [h3, show nI L.length + 1 = nI (L.length + 1) from nI_add L.length 1]
  refine ⟨fun c μ e => ?_, fun c => ?_⟩
  · rw [zle, nI_toInt (by omega)] at c
    simp only [Int32.reduceToInt] at c
    subst e
    refine hQ _ ⟨h1.O (by decide), ?_, fun i hi h24 => ?_⟩
    · rw [mw_I_eq, List.length_append]; rfl
    · rw [mw_I_ne (by decide), getD_snoc L b i hi, if_neg (by omega)]
      exact h4 i (by omega) h24
  · rw [zle, nI_toInt (by omega)] at c
    simp only [Int32.reduceToInt] at c
    refine ⟨vp_in_nI (by omega) (by decide), fun μ4 e4 μ5 e5 => ?_⟩
    rw [nI_clamp (by omega)] at e4
    have e6 : μ4.1 0 56 = nI L.length := by rw [e4, mw_I_ne (by decide)]; exact h3
    rw [e6, show nI L.length + 1 = nI (L.length + 1) from nI_add L.length 1] at e5
    subst e5; subst e4
    refine hQ _ ⟨(h1.I (by decide) (by decide)).O (by decide), ?_, fun i hi h24 => ?_⟩
    · rw [mw_I_eq, List.length_append]; rfl
    · rw [mw_I_ne (by decide), getD_snoc L b i hi, mw_I_get]
      by_cases e : i = L.length
      · rw [if_pos ⟨rfl, e⟩, if_pos e]
      · rw [if_neg (fun z => e z.2), if_neg e]
        simp only [List.length_append, List.length_cons, List.length_nil] at hi
        exact h4 i (by omega) h24
/-! the kind whose body it is -/
def bdN (k act : Nat) : Nat := (mw_sv 3 (k * 4 + act)).toNatClampNeg
theorem bdN_sv : ∀ k, k < 8 → ∀ act, act < 4 → mw_sv 3 (k * 4 + act) = nI (bdN k act) ∧ bdN k act < 100 ∧ (k = 0 → bdN k act ≠ 0) := by decide
def fkS (act : Nat) : Nat → Nat → Nat
  | 0, k => k
  | n + 1, k => if bdN k act = 0 then fkS act n (abS k) else k
theorem s0_body {k act : Nat} (hk : k < 8) (ha : act < 4) {Q : Int32 → Prop} (hQ : Q (nI (bdN k act))) : P0_bodyOf (nI k) (nI act) Q := by
  unfold P0_bodyOf
  rw [ch0_isKind, if_pos (by rw [nI_toInt (by omega)]; omega), show nI k * 4 = nI (k * 4) from pk_mul k 4, nI_add, nI_clamp (by omega), (bdN_sv k hk act ha).1]
  refine ⟨fun z => absurd z (nI_nlt (b := 0) (by omega) (by omega)), fun _ => ⟨fun z => absurd z ?_, fun _ => ⟨vp_in_nI (by omega) (by decide), hQ⟩⟩⟩
  rw [zle, nI_toInt (by omega)]
  simp only [Int32.reduceToInt]
  omega
theorem x_find {c2 : Int32 → Int32 → Int32 → Int32 → mw_M → (Int32 → mw_M → Prop) → Prop} {p1 p3 p4 : Int32} {μ : mw_M} {Q : Int32 → mw_M → Prop} {K1 : Int32 → Int32 → Prop} {act : Nat} (ha : act < 4) : ∀ n k v, k < n → k < 8 → v + k ≤ 7 → (∀ x, K1 x (nI (fkS act n k))) → L0_acted_6 c2 p1 (nI act) p3 p4 μ Q K1 (n + 1) (nI v) (nI k) := by
  intro n
  induction n with
  | zero => intro k v h1; exact absurd h1 (Nat.not_lt_zero _)
  | succ n ih =>
    intro k v h1 h2 h3 hK
    have hb := bdN_sv k h2 act ha
    unfold L0_acted_6
    rw [ch0_isKind, if_pos (by rw [nI_toInt (by omega)]; omega)]
    refine ⟨fun z => absurd z (by rw [zle, nI_toInt (by omega)]; simp only [Int32.reduceToInt]; omega), fun _ => s0_body h2 ha ⟨fun c => ?_, fun c => ?_⟩⟩
    · have c0 : bdN k act = 0 := by
        rw [show (0 : Int32) = nI 0 from rfl, nI_eq (by omega) (by omega)] at c
        exact c
      have k0 : 0 < k := by
        rcases Nat.eq_zero_or_pos k with e | e
        · exact absurd c0 (hb.2.2 e)
        · exact e
      refine ⟨vp_in_nI h2 (by decide), fun x11 e11 x12 e12 => ?_⟩
      rw [nI_clamp (by omega), sv2 k h2 k0] at e11
      rw [e11, e12, show nI v + 1 = nI (v + 1) from nI_add v 1]
      have hlt := abS_lt k h2 k0
      refine ih (abS k) (v + 1) (by omega) (by omega) (by omega) (fun x => ?_)
      have := hK x
      rw [show fkS act (n + 1) k = fkS act n (abS k) from if_pos c0] at this
      exact this
    · have c0 : ¬ bdN k act = 0 := fun e => c (by rw [e]; rfl)
      have := hK (nI v)
      rw [show fkS act (n + 1) k = k from if_neg c0] at this
      exact this
theorem fk_lt : ∀ k, k < 8 → ∀ act, act < 4 → fkS act 8 k < 8 := by decide
theorem xa_step {a u : mw_M} {L : List Nat} {c2 : Int32 → Int32 → Int32 → Int32 → mw_M → (Int32 → mw_M → Prop) → Prop} {k act d : Nat} (hk : k < 8) (ha : act < 4) (hd : d ≤ 20) {x : Int32} {Q : Int32 → mw_M → Prop} (hT : TX a u L) (hl : L.length < 900) (h : ∀ u', TX a u' (L ++ [bdN (fkS act 8 k) act]) → c2 (nI (bdN (fkS act 8 k) act)) (mw_sv 2 (fkS act 8 k)) x (nI (d + 1)) u' Q) : S0_acted c2 (nI k) (nI act) x (nI d) u Q := by
  have hf := fk_lt k hk act ha
  have hr := hT.2.2.1
  refine ⟨9, x_find ha 8 k 0 hk hk (by omega) (fun y => ?_)⟩
  rw [ch0_isKind, if_pos (by rw [nI_toInt (by omega)]; omega), hr, nI_clamp (by omega), nI_clamp (by omega), show nI L.length + 1 = nI (L.length + 1) from nI_add L.length 1, show nI d + 1 = nI (d + 1) from nI_add d 1]
  have hP := hT.push hl (b := bdN (fkS act 8 k) act)
  refine ⟨fun _ => ⟨fun c μ17 e17 => ?_, fun c => ?_⟩, fun c => absurd (show nI d ≤ nI 20 from nI_le hd (by decide)) c⟩
  · rw [zle, nI_toInt (by omega)] at c
    simp only [Int32.reduceToInt] at c
    rw [if_neg (by omega)] at hP
    exact s0_body hf ha ⟨vp_in_nI hf (by decide), h μ17 (by rw [e17]; exact hP)⟩
  · rw [zle, nI_toInt (by omega)] at c
    simp only [Int32.reduceToInt] at c
    rw [if_pos (by omega)] at hP
    refine s0_body hf ha ⟨vp_in_nI (by omega) (by decide), fun μ26 e26 μ27 e27 => s0_body hf ha ⟨vp_in_nI hf (by decide), h μ27 ?_⟩⟩
    have e6 : μ26.1 62 3 = nI L.length := by rw [e26, mw_I_ne (by decide)]; exact hr
    rw [e27, e6, show nI L.length + 1 = nI (L.length + 1) from nI_add L.length 1, e26]
    exact hP
