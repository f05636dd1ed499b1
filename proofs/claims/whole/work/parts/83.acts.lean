/-! the acts of the reference -/
theorem nIn {k j : Nat} (hk : k < 256) (hj : j < 256) (h : k ≠ j) : ¬ nI k = nI j := fun e => h ((nI_eq (by omega) (by omega)).1 e)
def MA (m : mw_M) (B : Nat) (c : Int32 → Int32 → mw_M → (Int32 → mw_M → Prop) → Prop) (k : Nat) (T : List Nat) (V : Int32 → Int32) : Prop := ∀ (x : Int32) (L : List Nat) (v : mw_M) (Q : Int32 → mw_M → Prop), TM m v L → L.length ≤ B → (∀ v', TM m v' (L ++ T) → Q (V x) v') → c (nI k) x v Q
section ACTM
variable {m : mw_M} {own : Nat} {num : Int32}
theorem m_cl0 (h8 : m.1 0 58 = num) {n k : Nat} (hk : k < 8) (h : k ≠ 1 ∧ k ≠ 5 ∧ k ≠ 6) : MA m 895 (G3 (n + 1)) k [1] (fun x => x + num) := by
  intro x L v Q hT hl hQ
  show S11_clingsAs (G3 n) (nI k) x v Q
  unfold S11_clingsAs
  refine ⟨fun e => absurd e (nIn (j := 1) (by omega) (by omega) h.1), fun _ => ⟨fun e => absurd e (nIn (j := 5) (by omega) (by omega) h.2.1), fun _ => ⟨fun e => absurd e (nIn (j := 6) (by omega) (by omega) h.2.2), fun _ => ?_⟩⟩⟩
  refine m_beg (b := 1) hT (by omega) (fun w hw => ?_)
  rw [hw.1.2 58 (by decide), h8]
  exact hQ w hw
theorem m_cl (h8 : m.1 0 58 = num) {n k : Nat} (hk : k < 8) : MA m 890 (G3 (n + 2)) k (clT k) (clV k num) := by
  have base : (k ≠ 1 ∧ k ≠ 5 ∧ k ≠ 6) → clT k = [1] → clV k num = (fun x => x + num) → MA m 890 (G3 (n + 2)) k (clT k) (clV k num) := fun h e1 e2 => by
    rw [e1, e2]
    exact fun x L v Q hT hl hQ => m_cl0 h8 (n := n + 1) hk h x L v Q hT (by omega) hQ
  rcases (show k = 0 ∨ k = 1 ∨ k = 2 ∨ k = 3 ∨ k = 4 ∨ k = 5 ∨ k = 6 ∨ k = 7 by omega) with rfl | rfl | rfl | rfl | rfl | rfl | rfl | rfl
  · exact base (by decide) rfl rfl
  · intro x L v Q hT hl hQ
    show S11_clingsAs (G3 (n + 1)) 1 x v Q
    unfold S11_clingsAs
    refine ⟨fun _ => m_beg (b := 20) hT (by omega) (fun w hw => ?_), fun e => absurd rfl e⟩
    exact m_cl0 h8 (n := n) (k := 0) (by decide) (by decide) x _ w _ hw (by rw [len1]; omega) (fun y hy => hQ y (by rw [app1] at hy; exact hy))
  · exact base (by decide) rfl rfl
  · exact base (by decide) rfl rfl
  · exact base (by decide) rfl rfl
  · intro x L v Q hT hl hQ
    show S11_clingsAs (G3 (n + 1)) 5 x v Q
    unfold S11_clingsAs
    refine ⟨fun e => absurd e (by decide), fun _ => ⟨fun _ => m_beg (b := 20) hT (by omega) (fun w hw => ?_), fun e => absurd rfl e⟩⟩
    exact m_cl0 h8 (n := n) (k := 0) (by decide) (by decide) x _ w _ hw (by rw [len1]; omega) (fun y hy => hQ y (by rw [app1] at hy; exact hy))
  · intro x L v Q hT hl hQ
    show S11_clingsAs (G3 (n + 1)) 6 x v Q
    unfold S11_clingsAs
    refine ⟨fun e => absurd e (by decide), fun _ => ⟨fun e => absurd e (by decide), fun _ => ⟨fun _ => m_beg (b := 70) hT (by omega) (fun w hw => ?_), fun e => absurd rfl e⟩⟩⟩
    exact m_cl0 h8 (n := n) (k := 4) (by decide) (by decide) x _ w _ hw (by rw [len1]; omega) (fun y hy => hQ y (by rw [app1] at hy; exact hy))
  · exact base (by decide) rfl rfl
theorem m_ho (h8 : m.1 0 58 = num) (h7 : m.1 0 57 = nI own) (ho : own < 8) {n k : Nat} (hk : k < 8) : MA m 880 (G4 (n + 2)) k (hoT own k) (hoV own num k) := by
  have b0 : ∀ n k, k < 8 → (k ≠ 3 ∧ k ≠ 4 ∧ k ≠ 6) → MA m 885 (G4 (n + 1)) k [11] (fun x => x ^^^ num) := fun n k hk h => by
    intro x L v Q hT hl hQ
    show S11_hopsAs (G4 n) (nI k) x v Q
    unfold S11_hopsAs
    refine ⟨fun e => absurd e (nIn (j := 3) (by omega) (by omega) h.1), fun _ => ⟨fun e => absurd e (nIn (j := 4) (by omega) (by omega) h.2.1), fun _ => ⟨fun e => absurd e (nIn (j := 6) (by omega) (by omega) h.2.2), fun _ => ?_⟩⟩⟩
    refine m_beg (b := 11) hT (by omega) (fun w hw => ?_)
    rw [hw.1.2 58 (by decide), h8]
    exact hQ w hw
  have base : (k ≠ 3 ∧ k ≠ 4 ∧ k ≠ 6) → hoT own k = [11] → hoV own num k = (fun x => x ^^^ num) → MA m 880 (G4 (n + 2)) k (hoT own k) (hoV own num k) := fun h e1 e2 => by
    rw [e1, e2]
    exact fun x L v Q hT hl hQ => b0 (n + 1) k hk h x L v Q hT (by omega) hQ
  have b50 : ∀ (x : Int32) (L : List Nat) (v : mw_M) (Q : Int32 → mw_M → Prop), TM m v L → L.length ≤ 880 → (∀ v', TM m v' (L ++ (50 :: 11 :: clT own)) → Q ((x ^^^ num) - clV own num 2) v') → P11_begins 50 v (fun μ3 => (G4 (n + 1)) 0 x μ3 (fun r4 μ5 => P11_clingsAs (μ5.1 0 57) 2 μ5 (fun r6 μ7 => Q (r4 - r6) μ7))) := by
    intro x L v Q hT hl hQ
    refine m_beg (b := 50) hT (by omega) (fun w hw => ?_)
    refine b0 n 0 (by decide) (by decide) x _ w _ hw (by rw [len1]; omega) (fun y hy => ?_)
    rw [hy.1.2 57 (by decide), h7]
    refine m_cl h8 (n := 6) ho 2 _ y _ hy (by rw [len1, len1]; omega) (fun z hz => hQ z (by rw [app1, app1] at hz; exact hz))
  rcases (show k = 0 ∨ k = 1 ∨ k = 2 ∨ k = 3 ∨ k = 4 ∨ k = 5 ∨ k = 6 ∨ k = 7 by omega) with rfl | rfl | rfl | rfl | rfl | rfl | rfl | rfl
  · exact base (by decide) rfl rfl
  · exact base (by decide) rfl rfl
  · exact base (by decide) rfl rfl
  · intro x L v Q hT hl hQ
    show S11_hopsAs (G4 (n + 1)) 3 x v Q
    unfold S11_hopsAs
    refine ⟨fun _ => m_beg (b := 40) hT (by omega) (fun w hw => ?_), fun e => absurd rfl e⟩
    exact b0 n 2 (by decide) (by decide) x _ w _ hw (by rw [len1]; omega) (fun y hy => hQ y (by rw [app1] at hy; exact hy))
  · intro x L v Q hT hl hQ
    show S11_hopsAs (G4 (n + 1)) 4 x v Q
    unfold S11_hopsAs
    exact ⟨fun e => absurd e (by decide), fun _ => ⟨fun _ => b50 x L v Q hT hl hQ, fun e => absurd rfl e⟩⟩
  · exact base (by decide) rfl rfl
  · intro x L v Q hT hl hQ
    show S11_hopsAs (G4 (n + 1)) 6 x v Q
    unfold S11_hopsAs
    exact ⟨fun e => absurd e (by decide), fun _ => ⟨fun e => absurd e (by decide), fun _ => ⟨fun _ => b50 x L v Q hT hl hQ, fun e => absurd rfl e⟩⟩⟩
  · exact base (by decide) rfl rfl
theorem m_sh (h8 : m.1 0 58 = num) (h7 : m.1 0 57 = nI own) (ho : own < 8) {n k : Nat} (hk : k < 8) : MA m 860 (G5 (n + 3)) k (shT own k) (shV own num k) := by
  have hlen := T_len own ho own ho
  have b0 : ∀ n k, k < 8 → (k ≠ 3 ∧ k ≠ 2 ∧ k ≠ 7) → MA m 870 (G5 (n + 1)) k (shT0 own) (shV0 own num) := fun n k hk h => by
    intro x L v Q hT hl hQ
    show S11_shakesAs (G5 n) (nI k) x v Q
    unfold S11_shakesAs
    refine ⟨fun e => absurd e (nIn (j := 3) (by omega) (by omega) h.1), fun _ => ⟨fun e => absurd e (nIn (j := 2) (by omega) (by omega) h.2.1), fun _ => ⟨fun e => absurd e (nIn (j := 7) (by omega) (by omega) h.2.2), fun _ => ?_⟩⟩⟩
    refine m_beg (b := 10) hT (by omega) (fun w hw => ?_)
    rw [hw.1.2 57 (by decide), h7]
    exact m_cl h8 (n := 6) ho x _ w _ hw (by rw [len1]; omega) (fun z hz => hQ z (by rw [app1] at hz; exact hz))
  have b30 : ∀ n, MA m 865 (G5 (n + 2)) 2 (30 :: shT0 own) (fun x => -(shV0 own num x)) := fun n => by
    intro x L v Q hT hl hQ
    show S11_shakesAs (G5 (n + 1)) 2 x v Q
    unfold S11_shakesAs
    refine ⟨fun e => absurd e (by decide), fun _ => ⟨fun _ => m_beg (b := 30) hT (by omega) (fun w hw => ?_), fun e => absurd rfl e⟩⟩
    exact b0 n 0 (by decide) (by decide) x _ w _ hw (by rw [len1]; omega) (fun y hy => hQ y (by rw [app1] at hy; exact hy))
  have base : (k ≠ 3 ∧ k ≠ 2 ∧ k ≠ 7) → shT own k = shT0 own → shV own num k = shV0 own num → MA m 860 (G5 (n + 3)) k (shT own k) (shV own num k) := fun h e1 e2 => by
    rw [e1, e2]
    exact fun x L v Q hT hl hQ => b0 (n + 2) k hk h x L v Q hT (by omega) hQ
  rcases (show k = 0 ∨ k = 1 ∨ k = 2 ∨ k = 3 ∨ k = 4 ∨ k = 5 ∨ k = 6 ∨ k = 7 by omega) with rfl | rfl | rfl | rfl | rfl | rfl | rfl | rfl
  · exact base (by decide) rfl rfl
  · exact base (by decide) rfl rfl
  · exact fun x L v Q hT hl hQ => b30 (n + 1) x L v Q hT (by omega) hQ
  · intro x L v Q hT hl hQ
    show S11_shakesAs (G5 (n + 2)) 3 x v Q
    unfold S11_shakesAs
    refine ⟨fun _ => m_beg (b := 41) hT (by omega) (fun w hw => ?_), fun e => absurd rfl e⟩
    exact b30 n (x + 1) _ w _ hw (by rw [len1]; omega) (fun y hy => hQ y (by rw [app1] at hy; exact hy))
  · exact base (by decide) rfl rfl
  · exact base (by decide) rfl rfl
  · exact base (by decide) rfl rfl
  · intro x L v Q hT hl hQ
    show S11_shakesAs (G5 (n + 2)) 7 x v Q
    unfold S11_shakesAs
    refine ⟨fun e => absurd e (by decide), fun _ => ⟨fun e => absurd e (by decide), fun _ => ⟨fun _ => m_beg (b := 80) hT (by omega) (fun w hw => ?_), fun e => absurd rfl e⟩⟩⟩
    refine b0 (n + 1) 0 (by decide) (by decide) x _ w _ hw (by rw [len1]; omega) (fun y hy => ?_)
    rw [hy.1.2 57 (by decide), h7]
    refine m_ho h8 h7 ho (n := 6) ho 2 _ y _ hy (by rw [List.length_append, len1]; omega) (fun z hz => hQ z ?_)
    rw [app1, List.append_assoc] at hz
    exact hz
theorem m_te (h8 : m.1 0 58 = num) (h7 : m.1 0 57 = nI own) (ho : own < 8) {n k : Nat} (hk : k < 8) : MA m 800 (G6 (n + 2)) k (teT own k) (teV own num k) := by
  have hlen := T_len own ho own ho
  have b0 : ∀ n k, k < 8 → (k ≠ 5 ∧ k ≠ 7) → MA m 810 (G6 (n + 1)) k (teT0 own) (teV0 own num) := fun n k hk h => by
    intro x L v Q hT hl hQ
    show S11_tellsAs (G6 n) (nI k) x v Q
    unfold S11_tellsAs
    refine ⟨fun e => absurd e (nIn (j := 5) (by omega) (by omega) h.1), fun _ => ⟨fun e => absurd e (nIn (j := 7) (by omega) (by omega) h.2), fun _ => ?_⟩⟩
    refine m_beg (b := 2) hT (by omega) (fun w hw => ?_)
    rw [hw.1.2 57 (by decide), h7]
    refine m_sh h8 h7 ho (n := 5) ho x _ w _ hw (by rw [len1]; omega) (fun y hy => ?_)
    rw [hy.1.2 57 (by decide), h7]
    refine m_ho h8 h7 ho (n := 6) ho 1 _ y _ hy (by rw [List.length_append, len1]; omega) (fun z hz => hQ z ?_)
    rw [app1, List.append_assoc] at hz
    exact hz
  have base : (k ≠ 5 ∧ k ≠ 7) → teT own k = teT0 own → teV own num k = teV0 own num → MA m 800 (G6 (n + 2)) k (teT own k) (teV own num k) := fun h e1 e2 => by
    rw [e1, e2]
    exact fun x L v Q hT hl hQ => b0 (n + 1) k hk h x L v Q hT (by omega) hQ
  rcases (show k = 0 ∨ k = 1 ∨ k = 2 ∨ k = 3 ∨ k = 4 ∨ k = 5 ∨ k = 6 ∨ k = 7 by omega) with rfl | rfl | rfl | rfl | rfl | rfl | rfl | rfl
  · exact base (by decide) rfl rfl
  · exact base (by decide) rfl rfl
  · exact base (by decide) rfl rfl
  · exact base (by decide) rfl rfl
  · exact base (by decide) rfl rfl
  · intro x L v Q hT hl hQ
    show S11_tellsAs (G6 (n + 1)) 5 x v Q
    unfold S11_tellsAs
    refine ⟨fun _ => m_beg (b := 60) hT (by omega) (fun w hw => ?_), fun e => absurd rfl e⟩
    exact b0 n 1 (by decide) (by decide) x _ w _ hw (by rw [len1]; omega) (fun y hy => hQ y (by rw [app1] at hy; exact hy))
  · exact base (by decide) rfl rfl
  · intro x L v Q hT hl hQ
    show S11_tellsAs (G6 (n + 1)) 7 x v Q
    unfold S11_tellsAs
    refine ⟨fun e => absurd e (by decide), fun _ => ⟨fun _ => m_beg (b := 81) hT (by omega) (fun w hw => ?_), fun e => absurd rfl e⟩⟩
    exact b0 n 0 (by decide) (by decide) x _ w _ hw (by rw [len1]; omega) (fun y hy => hQ y (by rw [app1] at hy; exact hy))
end ACTM
