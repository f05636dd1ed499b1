/-! the code of an expression, of a line, of a text, run -/
theorem i2c_n {s : Nat} (hs : s < 256) : mw_i2c (10000 + nI s - 10000) = nI s := by
  rw [show (10000 : Int32) + nI s = nI (10000 + s) from nI_add 10000 s, show (10000 : Int32) = nI 10000 from rfl, pk_sub (by omega), show 10000 + s - 10000 = s by omega]
  exact (by decide +kernel : ∀ s, s < 256 → mw_i2c (nI s) = nI s) s hs
/-- a run of code that leaves one value -/
def WR (a0 : mw_M) (b : Nat) (C : List Int32) (nm : Nat → Int32) (e : EX) : Prop := ∀ (p q : List Int32) μ st n3 t Q, C = p ++ (e.1 ++ q) → WS a0 b μ st → st.length ≤ p.length → t = n3 + e.1.length → (∀ μ', WS a0 b μ' (st ++ [e.2 nm]) → L3_worth_9 b 19 Q n3 (nI (p.length + e.1.length)) 0 μ') → L3_worth_9 b 19 Q t (nI p.length) 0 μ
theorem w_num {a0 : mw_M} {b : Nat} {C : List Int32} {nm : Nat → Int32} (hC : WC a0 b C nm) {v : Nat} (hv : v ≤ 9999) : WR a0 b C nm (eNum v) := by
  intro p q μ st n3 t Q hp h hl ht hQ
  have ht : t = n3 + 1 := ht
  subst ht
  obtain ⟨s1, s2, s3, s4⟩ := w_at hC h (x := nI v) hp
  have hc := hC.2.1
  unfold L3_worth_9
  refine ⟨fun z => absurd z s1, fun _ => ⟨s2, fun x10 e10 => ⟨fun _ => ?_, fun z => absurd rfl z⟩⟩⟩
  rw [s3] at e10
  subst e10
  have n1 : ¬ nI v = 10059 := fun z => absurd ((nI_eq (b := 10059) (by omega) (by decide)).1 z) (by omega)
  have n2 : ¬ nI v = 10063 := fun z => absurd ((nI_eq (b := 10063) (by omega) (by decide)).1 z) (by omega)
  have n3' : ¬ 10000 ≤ nI v := by rw [zle, nI_toInt (by omega)]; simp only [Int32.reduceToInt]; omega
  refine ⟨fun z => absurd z n1, fun _ => ⟨fun z => absurd z n2, fun _ => ⟨fun _ => ⟨fun z => absurd z n3', fun _ => ?_⟩, fun z => absurd (show (0 : Int32) ≤ nI v from nI_le (a := 0) (by omega) (by omega)) z⟩⟩⟩
  refine w_push h (by omega) (fun μ' h' x hx => ?_)
  rw [show nI p.length + 1 = nI (p.length + 1) from nI_add _ 1] at hx
  subst hx
  exact hQ μ' h'
theorem w_nam {a0 : mw_M} {b : Nat} {C : List Int32} {nm : Nat → Int32} (hC : WC a0 b C nm) {k : Nat} (hk : k < 9) : WR a0 b C nm (eNam k) := by
  intro p q μ st n3 t Q hp h hl ht hQ
  have ht : t = n3 + 1 := ht
  subst ht
  obtain ⟨s1, s2, s3, s4⟩ := w_at hC h (x := -1 - nI k) hp
  have hc := hC.2.1
  have hb := hC.1.ge
  unfold L3_worth_9
  refine ⟨fun z => absurd z s1, fun _ => ⟨s2, fun x10 e10 => ⟨fun _ => ?_, fun z => absurd rfl z⟩⟩⟩
  rw [s3] at e10
  subst e10
  have et : (-1 - nI k).toInt = -1 - (k : Int) := by
    rw [Int32.toInt_sub, nI_toInt (by omega), show (-1 : Int32).toInt = -1 from rfl]; exact bmE (by omega) (by omega)
  have n1 : ¬ -1 - nI k = 10059 := fun z => by rw [zeq, et] at z; simp only [Int32.reduceToInt] at z; omega
  have n2 : ¬ -1 - nI k = 10063 := fun z => by rw [zeq, et] at z; simp only [Int32.reduceToInt] at z; omega
  have n0 : ¬ (0 : Int32) ≤ -1 - nI k := fun z => by rw [zle, et] at z; simp only [Int32.reduceToInt] at z; omega
  have ek : -1 - (-1 - nI k) = nI k := by
    refine nI_of_toInt ?_
    rw [Int32.toInt_sub, et, show (-1 : Int32).toInt = -1 from rfl]
    have := bmE (n := -1 - (-1 - (k : Int))) (by omega) (by omega)
    rw [this]; omega
  refine ⟨fun z => absurd z n1, fun _ => ⟨fun z => absurd z n2, fun _ => ⟨fun z => absurd z n0, fun _ => ?_⟩⟩⟩
  rw [ek]
  refine ⟨fun z => absurd z (by show ¬ nI 9 ≤ nI k; rw [zle, nI_toInt (by omega), nI_toInt (by omega)]; omega), fun _ => ⟨vp_in_nI hk (by decide), ?_⟩⟩
  rw [nI_clamp (by omega)]
  have ev : μ.1 19 k = nm k := by
    rw [(h.1.1 19 (by simp; omega)).1]; exact hC.2.2.2.2 k hk
  rw [ev]
  refine w_push h (by omega) (fun μ' h' x hx => ?_)
  rw [show nI p.length + 1 = nI (p.length + 1) from nI_add _ 1] at hx
  subst hx
  exact hQ μ' h'
/-- a sign at p: the work of P3_workOut -/
theorem w_sign {a0 μ : mw_M} {b : Nat} {C : List Int32} {nm : Nat → Int32} (hC : WC a0 b C nm) {p q : List Int32} {st : List Int32} {s : Nat} (hs : s < 256) (h59 : s ≠ 59) (h63 : s ≠ 63) (hp : C = p ++ (10000 + nI s) :: q) (h : WS a0 b μ st) {n3 : Nat} {Q : Int32 → mw_M → Prop} (hQ : P3_workOut b (10000 + nI s) μ (fun μ' => L3_worth_9 b 19 Q n3 (nI (p.length + 1)) 0 μ')) : L3_worth_9 b 19 Q (n3 + 1) (nI p.length) 0 μ := by
  obtain ⟨s1, s2, s3, s4⟩ := w_at hC h hp
  have hc := hC.2.1
  unfold L3_worth_9
  refine ⟨fun z => absurd z s1, fun _ => ⟨s2, fun x10 e10 => ⟨fun _ => ?_, fun z => absurd rfl z⟩⟩⟩
  rw [s3] at e10
  subst e10
  have ex : (10000 : Int32) + nI s = nI (10000 + s) := nI_add 10000 s
  have n1 : ¬ (10000 : Int32) + nI s = 10059 := by rw [ex]; exact fun z => absurd ((nI_eq (b := 10059) (by omega) (by decide)).1 z) (by omega)
  have n2 : ¬ (10000 : Int32) + nI s = 10063 := by rw [ex]; exact fun z => absurd ((nI_eq (b := 10063) (by omega) (by decide)).1 z) (by omega)
  have n3' : (10000 : Int32) ≤ 10000 + nI s := by rw [ex]; exact nI_le (a := 10000) (by omega) (by omega)
  have n0 : (0 : Int32) ≤ 10000 + nI s := by rw [ex]; exact nI_le (a := 0) (by omega) (by omega)
  refine ⟨fun z => absurd z n1, fun _ => ⟨fun z => absurd z n2, fun _ => ⟨fun _ => ⟨fun _ => ?_, fun z => absurd n3' z⟩, fun z => absurd n0 z⟩⟩⟩
  have e1 : nI p.length + 1 = nI (p.length + 1) := nI_add _ 1
  rw [e1]
  simp only [forall_eq]
  exact hQ
theorem w_bin {a0 : mw_M} {b : Nat} {C : List Int32} {nm : Nat → Int32} (hC : WC a0 b C nm) {s : Nat} {x y : EX} (hs : sOK s) (x1 : 1 ≤ x.1.length) (hx : WR a0 b C nm x) (hy : WR a0 b C nm y) : WR a0 b C nm (eBin s x y) := by
  intro p q μ st n3 t Q hp h hl ht hQ
  rw [bin_len] at ht hQ
  have hp1 : C = p ++ (x.1 ++ (y.1 ++ (10000 + nI s) :: q)) := by
    rw [hp]
    show p ++ ((x.1 ++ (y.1 ++ [10000 + nI s])) ++ q) = _
    simp only [List.append_assoc, List.singleton_append]
  have hc := hC.2.1
  have hlen : C.length = p.length + (x.1.length + (y.1.length + (q.length + 1))) := by
    rw [hp1]; simp only [List.length_append, List.length_cons]
  refine hx p _ μ st (n3 + 1 + y.1.length) t Q hp1 h hl (by omega) (fun μ1 h1 => ?_)
  have hp2 : C = (p ++ x.1) ++ (y.1 ++ (10000 + nI s) :: q) := by rw [hp1, List.append_assoc]
  rw [← List.length_append]
  refine hy (p ++ x.1) _ μ1 (st ++ [x.2 nm]) (n3 + 1) _ Q hp2 h1 ?_ rfl (fun μ2 h2 => ?_)
  · rw [List.length_append, List.length_append, List.length_singleton]
    omega
  · have hp3 : C = ((p ++ x.1) ++ y.1) ++ ((10000 + nI s) :: q) := by rw [hp2]; simp only [List.append_assoc]
    rw [← List.length_append]
    refine w_sign hC hs.1 hs.2.1 hs.2.2.1 hp3 h2 ?_
    unfold P3_workOut
    have l1 : (st ++ [x.2 nm]).length = st.length + 1 := by rw [List.length_append, List.length_singleton]
    refine w_pop h2 (by omega) (fun μ3 h3 => ?_)
    have ex : (10000 : Int32) + nI s = nI (10000 + s) := nI_add 10000 s
    have hs5 := hs.2.2.2
    have hs1 := hs.1
    have n1 : ¬ (10000 : Int32) + nI s = 10126 := by rw [ex]; exact fun z => absurd ((nI_eq (b := 10126) (by omega) (by decide)).1 z) (by omega)
    have n2 : ¬ (10000 : Int32) + nI s = 10033 := by rw [ex]; exact fun z => absurd ((nI_eq (b := 10033) (by omega) (by decide)).1 z) (by omega)
    refine ⟨fun z => absurd z n1, fun _ => ⟨fun z => absurd z n2, fun _ => ?_⟩⟩
    refine w_pop h3 (by omega) (fun μ4 h4 => ?_)
    rw [i2c_n hs.1]
    refine x_joined hs.1 (w_push h4 (by omega) (fun μ5 h5 => ?_))
    have := hQ μ5 h5
    rw [List.length_append, List.length_append]
    rw [show p.length + x.1.length + y.1.length + 1 = p.length + (x.1.length + y.1.length + 1) by omega]
    exact this
theorem w_neg {a0 : mw_M} {b : Nat} {C : List Int32} {nm : Nat → Int32} (hC : WC a0 b C nm) {x : EX} (hx : WR a0 b C nm x) : WR a0 b C nm (eNeg x) := by
  intro p q μ st n3 t Q hp h hl ht hQ
  rw [neg_len] at ht hQ
  have hp1 : C = p ++ (x.1 ++ (10000 + nI 126) :: q) := by
    rw [hp]
    show p ++ ((x.1 ++ [10126]) ++ q) = _
    simp only [List.append_assoc, List.singleton_append]
    rfl
  have hc := hC.2.1
  have hlen : C.length = p.length + (x.1.length + (q.length + 1)) := by
    rw [hp1]; simp only [List.length_append, List.length_cons]
  refine hx p _ μ st (n3 + 1) t Q hp1 h hl (by omega) (fun μ1 h1 => ?_)
  have hp2 : C = (p ++ x.1) ++ ((10000 + nI 126) :: q) := by rw [hp1, List.append_assoc]
  rw [← List.length_append]
  refine w_sign hC (by decide) (by decide) (by decide) hp2 h1 ?_
  unfold P3_workOut
  refine w_pop h1 (by omega) (fun μ3 h3 => ⟨fun _ => ?_, fun z => absurd (by decide) z⟩)
  refine w_push h3 (by omega) (fun μ5 h5 => ?_)
  have := hQ μ5 h5
  rw [List.length_append, show p.length + x.1.length + 1 = p.length + (x.1.length + 1) by omega]
  exact this
theorem w_inv {a0 : mw_M} {b : Nat} {C : List Int32} {nm : Nat → Int32} (hC : WC a0 b C nm) {x : EX} (hx : WR a0 b C nm x) : WR a0 b C nm (eInv x) := by
  intro p q μ st n3 t Q hp h hl ht hQ
  rw [inv_len] at ht hQ
  have hp1 : C = p ++ (x.1 ++ (10000 + nI 33) :: q) := by
    rw [hp]
    show p ++ ((x.1 ++ [10033]) ++ q) = _
    simp only [List.append_assoc, List.singleton_append]
    rfl
  have hc := hC.2.1
  have hlen : C.length = p.length + (x.1.length + (q.length + 1)) := by
    rw [hp1]; simp only [List.length_append, List.length_cons]
  refine hx p _ μ st (n3 + 1) t Q hp1 h hl (by omega) (fun μ1 h1 => ?_)
  have hp2 : C = (p ++ x.1) ++ ((10000 + nI 33) :: q) := by rw [hp1, List.append_assoc]
  rw [← List.length_append]
  refine w_sign hC (by decide) (by decide) (by decide) hp2 h1 ?_
  unfold P3_workOut
  have fin : ∀ μ5 v, v = (eInv x).2 nm → WS a0 b μ5 (st ++ [v]) → L3_worth_9 b 19 Q n3 (nI ((p ++ x.1).length + 1)) 0 μ5 := fun μ5 v ev h5 => by
    subst ev
    have := hQ μ5 h5
    rw [List.length_append, show p.length + x.1.length + 1 = p.length + (x.1.length + 1) by omega]
    exact this
  refine w_pop h1 (by omega) (fun μ3 h3 => ⟨fun z => absurd z (by decide), fun _ => ⟨fun _ => ⟨fun z => ?_, fun z => ?_⟩, fun z => absurd (by decide) z⟩⟩)
  · exact w_push h3 (by omega) (fun μ5 h5 => fin μ5 1 (by show _ = if x.2 nm = 0 then 1 else 0; rw [if_pos z]) h5)
  · exact w_push h3 (by omega) (fun μ5 h5 => fin μ5 0 (by show _ = if x.2 nm = 0 then 1 else 0; rw [if_neg z]) h5)
theorem w_ex {a0 : mw_M} {b : Nat} {C : List Int32} {nm : Nat → Int32} (hC : WC a0 b C nm) {e : EX} (he : okE e) : 1 ≤ e.1.length ∧ WR a0 b C nm e := he (fun e => 1 ≤ e.1.length ∧ WR a0 b C nm e) (fun _ h => ⟨Nat.le_refl _, w_num hC h⟩) (fun _ h => ⟨Nat.le_refl _, w_nam hC h⟩) (fun e h => ⟨by rw [neg_len]; omega, w_neg hC h.2⟩) (fun e h => ⟨by rw [inv_len]; omega, w_inv hC h.2⟩) (fun s x y hs h1 h2 => ⟨by rw [bin_len]; omega, w_bin hC hs h1.1 h1.2 h2.2⟩)
