/-! the acts: bodies that run, and what they give -/
def clT (k : Nat) : List Nat := if k = 1 ∨ k = 5 then [20, 1] else if k = 6 then [70, 1] else [1]
def clV (k : Nat) (num x : Int32) : Int32 := if k = 1 ∨ k = 5 then x + num + 3 else if k = 6 then (x + num) * 2 else x + num
def hoT (own k : Nat) : List Nat := if k = 3 then [40, 11] else if k = 4 ∨ k = 6 then 50 :: 11 :: clT own else [11]
def hoV (own : Nat) (num : Int32) (k : Nat) (x : Int32) : Int32 := if k = 3 then (x ^^^ num) * 3 else if k = 4 ∨ k = 6 then (x ^^^ num) - clV own num 2 else x ^^^ num
def shT0 (own : Nat) : List Nat := 10 :: clT own
def shV0 (own : Nat) (num x : Int32) : Int32 := clV own num x * 2
def shT (own k : Nat) : List Nat := if k = 3 then 41 :: 30 :: shT0 own else if k = 2 then 30 :: shT0 own else if k = 7 then 80 :: (shT0 own ++ hoT own own) else shT0 own
def shV (own : Nat) (num : Int32) (k : Nat) (x : Int32) : Int32 := if k = 3 then -(shV0 own num (x + 1)) else if k = 2 then -(shV0 own num x) else if k = 7 then shV0 own num x + hoV own num own 2 else shV0 own num x
def teT0 (own : Nat) : List Nat := 2 :: (shT own own ++ hoT own own)
def teV0 (own : Nat) (num x : Int32) : Int32 := shV own num own x - hoV own num own 1
def teT (own k : Nat) : List Nat := if k = 5 then 60 :: teT0 own else if k = 7 then 81 :: teT0 own else teT0 own
def teV (own : Nat) (num : Int32) (k : Nat) (x : Int32) : Int32 := if k = 5 then teV0 own num x ^^^ 5 else if k = 7 then teV0 own num x - 1 else teV0 own num x
theorem T_len : ∀ own, own < 8 → ∀ k, k < 8 → (clT k).length ≤ 2 ∧ (hoT own k).length ≤ 4 ∧ (shT0 own).length ≤ 3 ∧ (shT own k).length ≤ 8 ∧ (teT0 own).length ≤ 13 ∧ (teT own k).length ≤ 14 := by decide
def XA (a : mw_M) (c : Int32 → Int32 → Int32 → Int32 → mw_M → (Int32 → mw_M → Prop) → Prop) (k act d : Nat) (T : List Nat) (V : Int32 → Int32) : Prop := ∀ (x : Int32) (L : List Nat) (u : mw_M) (Q : Int32 → mw_M → Prop), TX a u L → L.length ≤ 40 * d → (∀ u', TX a u' (L ++ T) → Q (V x) u') → c (nI k) (nI act) x (nI d) u Q
theorem app1 (L T : List Nat) (b : Nat) : (L ++ [b]) ++ T = L ++ (b :: T) := by simp
theorem len1 (L : List Nat) (b : Nat) : (L ++ [b]).length = L.length + 1 := by simp
/-- one body and what follows it -/
theorem xa_go {a : mw_M} {n k act d b kk : Nat} {ab : Int32} {T : List Nat} {V : Int32 → Int32} (hk : k < 8) (ha : act < 4) (hd : d ≤ 20) (hf : fkS act 8 k = kk) (hb : nI (bdN kk act) = nI b) (hbn : bdN kk act = b) (hab : mw_sv 2 kk = ab) (h : ∀ (x : Int32) (L : List Nat) (u : mw_M) (Q : Int32 → mw_M → Prop), TX a u L → L.length ≤ 40 * d + 1 → (∀ u', TX a u' (L ++ T) → Q (V x) u') → S0_worked (G1 n).1 (nI b) ab x (nI (d + 1)) u Q) : XA a (G1 (n + 2)).1 k act d (b :: T) V := by
  intro x L u Q hT hl hQ
  show S0_acted (G1 (n + 1)).2 (nI k) (nI act) x (nI d) u Q
  refine xa_step hk ha hd hT (by omega) (fun u' hT' => ?_)
  rw [hf, hab]
  rw [hf, hbn] at hT'
  rw [hb]
  exact h x _ u' Q hT' (by rw [len1]; omega) (fun w hw => hQ w (by rw [app1] at hw; exact hw))
section ACTX
variable {a : mw_M} {own : Nat} {num : Int32}
theorem x_cl0 (h4 : a.1 62 4 = num) {n k d : Nat} (hk : k < 8) (hd : d ≤ 20) (hf : fkS 0 8 k = 0) : XA a (G1 (n + 2)).1 k 0 d [1] (fun x => x + num) := by
  refine xa_go (kk := 0) (ab := -1) hk (by decide) hd hf rfl rfl rfl (fun x L u Q hT hl hQ => x_w1 ?_)
  rw [hT.2.1 4 (by decide), h4]
  exact hQ u (by rw [List.append_nil]; exact hT)
theorem x_cl (h4 : a.1 62 4 = num) {n k d : Nat} (hk : k < 8) (hd : d ≤ 19) : XA a (G1 (n + 4)).1 k 0 d (clT k) (clV k num) := by
  have base : (fkS 0 8 k = 0) → clT k = [1] → clV k num = (fun x => x + num) → XA a (G1 (n + 4)).1 k 0 d (clT k) (clV k num) := fun hf e1 e2 => by
    rw [e1, e2]; exact x_cl0 h4 (n := n + 2) hk (by omega) hf
  have b20 : fkS 0 8 k = 1 → clT k = [20, 1] → clV k num = (fun x => x + num + 3) → XA a (G1 (n + 4)).1 k 0 d (clT k) (clV k num) := fun hf e1 e2 => by
    rw [e1, e2]
    refine xa_go (n := n + 2) (kk := 1) (ab := 0) hk (by decide) (by omega) hf rfl rfl rfl (fun x L u Q hT hl hQ => x_w20 ?_)
    exact x_cl0 h4 (n := n) (k := 0) (d := d + 1) (by decide) (by omega) rfl x L u _ hT (by omega) hQ
  rcases (show k = 0 ∨ k = 1 ∨ k = 2 ∨ k = 3 ∨ k = 4 ∨ k = 5 ∨ k = 6 ∨ k = 7 by omega) with rfl | rfl | rfl | rfl | rfl | rfl | rfl | rfl
  · exact base rfl rfl rfl
  · exact b20 rfl rfl rfl
  · exact base rfl rfl rfl
  · exact base rfl rfl rfl
  · exact base rfl rfl rfl
  · exact b20 rfl rfl rfl
  · show XA a (G1 (n + 4)).1 6 0 d [70, 1] (fun x => (x + num) * 2)
    refine xa_go (n := n + 2) (kk := 6) (ab := 4) hk (by decide) (by omega) rfl rfl rfl rfl (fun x L u Q hT hl hQ => x_w70 ?_)
    exact x_cl0 h4 (n := n) (k := 4) (d := d + 1) (by decide) (by omega) rfl x L u _ hT (by omega) hQ
  · exact base rfl rfl rfl
theorem x_ho (h4 : a.1 62 4 = num) (h5 : a.1 62 5 = nI own) (ho : own < 8) {n k d : Nat} (hk : k < 8) (hd : d ≤ 18) : XA a (G1 (n + 6)).1 k 2 d (hoT own k) (hoV own num k) := by
  have base : ∀ n k d, k < 8 → d ≤ 20 → fkS 2 8 k = 0 → XA a (G1 (n + 2)).1 k 2 d [11] (fun x => x ^^^ num) := fun n k d hk hd hf => by
    refine xa_go (kk := 0) (ab := -1) hk (by decide) hd hf rfl rfl rfl (fun x L u Q hT hl hQ => x_w11 ?_)
    rw [hT.2.1 4 (by decide), h4]
    exact hQ u (by rw [List.append_nil]; exact hT)
  have b50 : fkS 2 8 k = 4 → hoT own k = 50 :: 11 :: clT own → hoV own num k = (fun x => (x ^^^ num) - clV own num 2) → XA a (G1 (n + 6)).1 k 2 d (hoT own k) (hoV own num k) := fun hf e1 e2 => by
    rw [e1, e2]
    refine xa_go (n := n + 4) (kk := 4) (ab := 0) hk (by decide) (by omega) hf rfl rfl rfl (fun x L u Q hT hl hQ => x_w50 ?_)
    refine base (n + 2) 0 (d + 1) (by decide) (by omega) rfl x L u _ hT (by omega) (fun v hv => ?_)
    rw [hv.2.1 5 (by decide), h5]
    refine x_cl h4 (n := n) ho (d := d + 1) (by omega) 2 _ v _ hv (by rw [len1]; omega) (fun w hw => hQ w (by rw [app1] at hw; exact hw))
  have b0 : fkS 2 8 k = 0 → hoT own k = [11] → hoV own num k = (fun x => x ^^^ num) → XA a (G1 (n + 6)).1 k 2 d (hoT own k) (hoV own num k) := fun hf e1 e2 => by
    rw [e1, e2]; exact base (n + 4) k d hk (by omega) hf
  rcases (show k = 0 ∨ k = 1 ∨ k = 2 ∨ k = 3 ∨ k = 4 ∨ k = 5 ∨ k = 6 ∨ k = 7 by omega) with rfl | rfl | rfl | rfl | rfl | rfl | rfl | rfl
  · exact b0 rfl rfl rfl
  · exact b0 rfl rfl rfl
  · exact b0 rfl rfl rfl
  · show XA a (G1 (n + 6)).1 3 2 d [40, 11] (fun x => (x ^^^ num) * 3)
    refine xa_go (n := n + 4) (kk := 3) (ab := 2) hk (by decide) (by omega) rfl rfl rfl rfl (fun x L u Q hT hl hQ => x_w40 ?_)
    exact base (n + 2) 2 (d + 1) (by decide) (by omega) rfl x L u _ hT (by omega) hQ
  · exact b50 rfl rfl rfl
  · exact b0 rfl rfl rfl
  · exact b50 rfl rfl rfl
  · exact b0 rfl rfl rfl
theorem x_sh (h4 : a.1 62 4 = num) (h5 : a.1 62 5 = nI own) (ho : own < 8) {n k d : Nat} (hk : k < 8) (hd : d ≤ 16) : XA a (G1 (n + 10)).1 k 1 d (shT own k) (shV own num k) := by
  have base : ∀ n k d, k < 8 → d ≤ 18 → fkS 1 8 k = 0 → XA a (G1 (n + 6)).1 k 1 d (shT0 own) (shV0 own num) := fun n k d hk hd hf => by
    refine xa_go (n := n + 4) (kk := 0) (ab := -1) hk (by decide) (by omega) hf rfl rfl rfl (fun x L u Q hT hl hQ => x_w10 ?_)
    rw [hT.2.1 5 (by decide), h5]
    exact x_cl h4 (n := n) ho (d := d + 1) (by omega) x L u _ hT (by omega) hQ
  have b30 : ∀ n k d, k < 8 → d ≤ 17 → fkS 1 8 k = 2 → XA a (G1 (n + 8)).1 k 1 d (30 :: shT0 own) (fun x => -(shV0 own num x)) := fun n k d hk hd hf => by
    refine xa_go (n := n + 6) (kk := 2) (ab := 0) hk (by decide) (by omega) hf rfl rfl rfl (fun x L u Q hT hl hQ => x_w30 ?_)
    exact base n 0 (d + 1) (by decide) (by omega) rfl x L u _ hT (by omega) hQ
  have b0 : fkS 1 8 k = 0 → shT own k = shT0 own → shV own num k = shV0 own num → XA a (G1 (n + 10)).1 k 1 d (shT own k) (shV own num k) := fun hf e1 e2 => by
    rw [e1, e2]; exact base (n + 4) k d hk (by omega) hf
  rcases (show k = 0 ∨ k = 1 ∨ k = 2 ∨ k = 3 ∨ k = 4 ∨ k = 5 ∨ k = 6 ∨ k = 7 by omega) with rfl | rfl | rfl | rfl | rfl | rfl | rfl | rfl
  · exact b0 rfl rfl rfl
  · exact b0 rfl rfl rfl
  · exact b30 (n + 2) 2 d hk (by omega) rfl
  · show XA a (G1 (n + 10)).1 3 1 d (41 :: 30 :: shT0 own) (fun x => -(shV0 own num (x + 1)))
    refine xa_go (n := n + 8) (kk := 3) (ab := 2) hk (by decide) (by omega) rfl rfl rfl rfl (fun x L u Q hT hl hQ => x_w41 ?_)
    exact b30 n 2 (d + 1) (by decide) (by omega) rfl (x + 1) L u _ hT (by omega) hQ
  · exact b0 rfl rfl rfl
  · exact b0 rfl rfl rfl
  · exact b0 rfl rfl rfl
  · show XA a (G1 (n + 10)).1 7 1 d (80 :: (shT0 own ++ hoT own own)) (fun x => shV0 own num x + hoV own num own 2)
    refine xa_go (n := n + 8) (kk := 7) (ab := 0) hk (by decide) (by omega) rfl rfl rfl rfl (fun x L u Q hT hl hQ => x_w80 ?_)
    refine base (n + 2) 0 (d + 1) (by decide) (by omega) rfl x L u _ hT (by omega) (fun v hv => ?_)
    rw [hv.2.1 5 (by decide), h5]
    have hlen := T_len own ho own ho
    refine x_ho h4 h5 ho (n := n + 2) ho (d := d + 1) (by omega) 2 _ v _ hv (by rw [List.length_append]; omega) (fun w hw => hQ w (by rw [← List.append_assoc]; exact hw))
theorem x_te (h4 : a.1 62 4 = num) (h5 : a.1 62 5 = nI own) (ho : own < 8) {n k d : Nat} (hk : k < 8) (hd : d ≤ 10) : XA a (G1 (n + 14)).1 k 3 d (teT own k) (teV own num k) := by
  have base : ∀ n k d, k < 8 → d ≤ 12 → fkS 3 8 k = 0 → XA a (G1 (n + 12)).1 k 3 d (teT0 own) (teV0 own num) := fun n k d hk hd hf => by
    refine xa_go (n := n + 10) (kk := 0) (ab := -1) hk (by decide) (by omega) hf rfl rfl rfl (fun x L u Q hT hl hQ => x_w2 ?_)
    rw [hT.2.1 5 (by decide), h5]
    have hlen := T_len own ho own ho
    refine x_sh h4 h5 ho (n := n) ho (d := d + 1) (by omega) x L u _ hT (by omega) (fun v hv => ?_)
    rw [hv.2.1 5 (by decide), h5]
    exact x_ho h4 h5 ho (n := n + 4) ho (d := d + 1) (by omega) 1 _ v _ hv (by rw [List.length_append]; omega) (fun w hw => hQ w (by rw [← List.append_assoc]; exact hw))
  have b0 : fkS 3 8 k = 0 → teT own k = teT0 own → teV own num k = teV0 own num → XA a (G1 (n + 14)).1 k 3 d (teT own k) (teV own num k) := fun hf e1 e2 => by
    rw [e1, e2]; exact base (n + 2) k d hk (by omega) hf
  rcases (show k = 0 ∨ k = 1 ∨ k = 2 ∨ k = 3 ∨ k = 4 ∨ k = 5 ∨ k = 6 ∨ k = 7 by omega) with rfl | rfl | rfl | rfl | rfl | rfl | rfl | rfl
  · exact b0 rfl rfl rfl
  · exact b0 rfl rfl rfl
  · exact b0 rfl rfl rfl
  · exact b0 rfl rfl rfl
  · exact b0 rfl rfl rfl
  · show XA a (G1 (n + 14)).1 5 3 d (60 :: teT0 own) (fun x => teV0 own num x ^^^ 5)
    refine xa_go (n := n + 12) (kk := 5) (ab := 1) hk (by decide) (by omega) rfl rfl rfl rfl (fun x L u Q hT hl hQ => x_w60 ?_)
    exact base n 1 (d + 1) (by decide) (by omega) rfl x L u _ hT (by omega) hQ
  · exact b0 rfl rfl rfl
  · show XA a (G1 (n + 14)).1 7 3 d (81 :: teT0 own) (fun x => teV0 own num x - 1)
    refine xa_go (n := n + 12) (kk := 7) (ab := 0) hk (by decide) (by omega) rfl rfl rfl rfl (fun x L u Q hT hl hQ => x_w81 ?_)
    exact base n 0 (d + 1) (by decide) (by omega) rfl x L u _ hT (by omega) hQ
end ACTX
