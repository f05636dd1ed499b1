/-! a law worked out by its stack -/
def WC (a0 : mw_M) (b : Nat) (C : List Int32) (nm : Nat → Int32) : Prop := LB b ∧ C.length ≤ 120 ∧ a0.1 b 2 = nI C.length ∧ (∀ k, k < C.length → a0.1 (b + 1) k = C.getD k 0) ∧ ∀ k, k < 9 → a0.1 19 k = nm k
def WF (a0 : mw_M) (b : Nat) (μ : mw_M) : Prop := FX [b, b + 2] a0 μ ∧ ∀ j, j ≠ 3 → μ.1 b j = a0.1 b j
def WS (a0 : mw_M) (b : Nat) (μ : mw_M) (st : List Int32) : Prop := WF a0 b μ ∧ μ.1 b 3 = nI st.length ∧ ∀ k, k < st.length → μ.1 (b + 2) k = st.getD k 0
theorem w_push {a0 μ : mw_M} {b : Nat} {st : List Int32} (h : WS a0 b μ st) (hl : st.length < 120) {x : Int32} {Q : mw_M → Prop} (hQ : ∀ μ', WS a0 b μ' (st ++ [x]) → Q μ') : P3_push b x μ Q := by
  obtain ⟨⟨f1, f2⟩, h2, h3⟩ := h
  unfold P3_push
  rw [h2, nI_clamp (by omega)]
  refine ⟨fun z => absurd z (by rw [zle, nI_toInt (by omega)]; simp only [Int32.reduceToInt]; omega), fun _ => ⟨vp_in_nI hl (by decide), ?_⟩⟩
  intro μ3 e3 μ4 e4
  have e5 : μ3.1 b 3 = nI st.length := by rw [e3, mw_I_ne (by omega)]; exact h2
  rw [e5, e3, show nI st.length + 1 = nI (st.length + 1) from nI_add _ 1] at e4
  subst e4
  refine hQ _ ⟨⟨(f1.I (by simp)).I (by simp), fun j hj => ?_⟩, ?_, fun k hk => ?_⟩
  · rw [mw_I_nj hj, mw_I_ne (by omega)]; exact f2 j hj
  · rw [mw_I_eq, List.length_append, List.length_singleton]
  · rw [List.length_append, List.length_singleton] at hk
    rw [getD_app, mw_I_ne (by omega), mw_I_get]
    by_cases c : k < st.length
    · rw [if_pos c, if_neg (by omega)]; exact h3 k c
    · rw [if_neg c, if_pos (by omega), if_pos (by omega)]
theorem w_pop {a0 μ : mw_M} {b : Nat} {st : List Int32} {x : Int32} (h : WS a0 b μ (st ++ [x])) (hl : st.length < 120) {Q : Int32 → mw_M → Prop} (hQ : ∀ μ', WS a0 b μ' st → Q x μ') : P3_pop b μ Q := by
  obtain ⟨⟨f1, f2⟩, h2, h3⟩ := h
  rw [List.length_append, List.length_singleton] at h2 h3
  unfold P3_pop
  rw [h2, nI_sub1 (by omega)]
  refine ⟨fun _ => ?_, fun z => absurd (nI_le (a := 1) (by omega) (by omega)) z⟩
  intro μ2 e2
  have e5 : μ2.1 b 3 = nI st.length := by rw [e2, mw_I_eq]; rfl
  rw [e5, nI_clamp (by omega)]
  refine ⟨vp_in_nI hl (by decide), ?_⟩
  have ev : μ2.1 (b + 2) st.length = x := by
    rw [e2, mw_I_ne (by omega), h3 _ (by omega), getD_app, if_neg (by omega), if_pos rfl]
  rw [ev]
  subst e2
  refine hQ _ ⟨⟨f1.I (by simp), fun j hj => ?_⟩, e5, fun k hk => ?_⟩
  · rw [mw_I_nj hj]; exact f2 j hj
  · rw [mw_I_ne (by omega), h3 k (by omega), getD_app, if_pos hk]
theorem w_pop0 {a0 μ : mw_M} {b : Nat} (h : WS a0 b μ []) {Q : Int32 → mw_M → Prop} (hQ : Q 0 μ) : P3_pop b μ Q := by
  unfold P3_pop
  rw [h.2.1]
  exact ⟨fun z => absurd z (by decide), fun _ => hQ⟩
theorem x_joined {s : Nat} (hs : s < 256) {a b : Int32} {Q : Int32 → Prop} (hQ : Q (jnS s a b)) : P3_joined (nI s) a b Q := by
  have E : ∀ k, k < 256 → ((nI s = nI k) = (s = k)) := fun k hk => nIe hs k hk
  have e1 := E 37 (by decide)
  have e2 := E 38 (by decide)
  have e3 := E 42 (by decide)
  have e4 := E 43 (by decide)
  have e5 := E 45 (by decide)
  have e6 := E 47 (by decide)
  have e7 := E 60 (by decide)
  have e8 := E 61 (by decide)
  have e9 := E 62 (by decide)
  have e0 := E 124 (by decide)
  change (nI s = 37) = _ at e1
  change (nI s = 38) = _ at e2
  change (nI s = 42) = _ at e3
  change (nI s = 43) = _ at e4
  change (nI s = 45) = _ at e5
  change (nI s = 47) = _ at e6
  change (nI s = 60) = _ at e7
  change (nI s = 61) = _ at e8
  change (nI s = 62) = _ at e9
  change (nI s = 124) = _ at e0
  unfold P3_joined
  rw [e1, e2, e3, e4, e5, e6, e7, e8, e9, e0]
  unfold jnS at hQ
  by_cases c : s = 37 ∨ s = 38 ∨ s = 42 ∨ s = 43 ∨ s = 45 ∨ s = 47 ∨ s = 60 ∨ s = 61 ∨ s = 62 ∨ s = 124
  · rcases c with rfl | rfl | rfl | rfl | rfl | rfl | rfl | rfl | rfl | rfl
    all_goals
      simp (config := { decide := true }) only [if_true, if_false] at hQ
      simp (config := { decide := true }) only [false_imp_iff, true_imp_iff, and_true, true_and, not_true, not_false_iff]
    · exact ⟨fun z => by rw [if_pos z] at hQ; exact hQ, fun z => ⟨z, by rw [if_neg z] at hQ; exact hQ⟩⟩
    · exact ⟨fun z => by rw [if_pos z] at hQ; exact hQ, fun z => by rw [if_neg z] at hQ; exact ⟨fun y => by rw [if_pos y] at hQ; exact hQ, fun y => by rw [if_neg y] at hQ; exact hQ⟩⟩
    · exact hQ
    · exact hQ
    · exact hQ
    · exact ⟨fun z => by rw [if_pos z] at hQ; exact hQ, fun z => ⟨z, by rw [if_neg z] at hQ; exact hQ⟩⟩
    · exact ⟨fun z => by rw [if_pos z] at hQ; exact hQ, fun z => by rw [if_neg z] at hQ; exact hQ⟩
    · exact ⟨fun z => by rw [if_pos z] at hQ; exact hQ, fun z => by rw [if_neg z] at hQ; exact hQ⟩
    · exact ⟨fun z => by rw [if_pos z] at hQ; exact hQ, fun z => by rw [if_neg z] at hQ; exact hQ⟩
    · exact ⟨fun z => by rw [if_pos z] at hQ; exact ⟨fun y => by rw [if_pos y] at hQ; exact hQ, fun y => by rw [if_neg y] at hQ; exact hQ⟩, fun z => by rw [if_neg z] at hQ; exact hQ⟩
  · have c1 : ¬ s = 37 := by omega
    have c2 : ¬ s = 38 := by omega
    have c3 : ¬ s = 42 := by omega
    have c4 : ¬ s = 43 := by omega
    have c5 : ¬ s = 45 := by omega
    have c6 : ¬ s = 47 := by omega
    have c7 : ¬ s = 60 := by omega
    have c8 : ¬ s = 61 := by omega
    have c9 : ¬ s = 62 := by omega
    have c0 : ¬ s = 124 := by omega
    simp only [c1, c2, c3, c4, c5, c6, c7, c8, c9, c0, if_false] at hQ
    simp only [c1, c2, c3, c4, c5, c6, c7, c8, c9, c0, false_imp_iff, true_imp_iff, and_true, true_and, not_false_iff]
    exact hQ
theorem getD_mid {p q : List Int32} {x : Int32} : (p ++ x :: q).getD p.length 0 = x := by
  rw [List.getD_eq_getElem?_getD, List.getElem?_append_right (Nat.le_refl _), Nat.sub_self]
  rfl
/-- one step of the code -/
theorem w_at {a0 μ : mw_M} {b : Nat} {C : List Int32} {nm : Nat → Int32} {st : List Int32} (hC : WC a0 b C nm) (h : WS a0 b μ st) {p q : List Int32} {x : Int32} (hp : C = p ++ x :: q) : ¬ μ.1 b 2 ≤ nI p.length ∧ vp_in (nI p.length) 120 ∧ μ.1 (b + 1) (nI p.length).toNatClampNeg = x ∧ p.length < C.length := by
  obtain ⟨hb, hl, h1, h2, h3⟩ := hC
  have hlen : C.length = p.length + (q.length + 1) := by rw [hp, List.length_append, List.length_cons]
  refine ⟨?_, vp_in_nI (by omega) (by decide), ?_, by omega⟩
  · rw [h.1.2 2 (by decide), h1, zle, nI_toInt (by omega), nI_toInt (by omega)]; omega
  · rw [nI_clamp (by omega), (h.1.1 (b + 1) (by simp)).1, h2 _ (by omega), hp]
    exact getD_mid
