/-! a whole law's worth -/
theorem no59 {e : EX} (he : okE e) : ∀ x ∈ e.1, x ≠ 10059 := by
  refine he (fun e => ∀ x ∈ e.1, x ≠ 10059) (fun n hn x hx => ?_) (fun k hk x hx => ?_) (fun e h x hx => ?_) (fun e h x hx => ?_) (fun s a b hs h1 h2 x hx => ?_)
  · have : x = nI n := List.mem_singleton.1 hx
    rw [this]
    exact fun z => absurd ((nI_eq (b := 10059) (by omega) (by decide)).1 z) (by omega)
  · have : x = -1 - nI k := List.mem_singleton.1 hx
    rw [this]
    have et : (-1 - nI k).toInt = -1 - (k : Int) := by
      rw [Int32.toInt_sub, nI_toInt (by omega), show (-1 : Int32).toInt = -1 from rfl]; exact bmE (by omega) (by omega)
    intro z
    rw [zeq, et] at z
    simp only [Int32.reduceToInt] at z
    omega
  · rcases List.mem_append.1 hx with q | q
    · exact h x q
    · rw [List.mem_singleton.1 q]; decide
  · rcases List.mem_append.1 hx with q | q
    · exact h x q
    · rw [List.mem_singleton.1 q]; decide
  · rcases List.mem_append.1 hx with q | q
    · exact h1 x q
    · rcases List.mem_append.1 q with q | q
      · exact h2 x q
      · have : x = 10000 + nI s := List.mem_singleton.1 q
        rw [this, show (10000 : Int32) + nI s = nI (10000 + s) from nI_add 10000 s]
        have h59 := hs.2.1
        have hs1 := hs.1
        exact fun z => absurd ((nI_eq (b := 10059) (by omega) (by decide)).1 z) (by omega)
theorem w_skip {a0 μ : mw_M} {b : Nat} {C : List Int32} {nm : Nat → Int32} (hC : WC a0 b C nm) {st : List Int32} (h : WS a0 b μ st) {Q : Int32 → mw_M → Prop} {n3 : Nat} : ∀ (c p q : List Int32), C = p ++ (c ++ q) → (∀ x ∈ c, x ≠ 10059) → L3_worth_9 b 19 Q n3 (nI (p.length + c.length)) 1 μ → L3_worth_9 b 19 Q (n3 + c.length) (nI p.length) 1 μ
  | [], p, q, _, _, hQ => hQ
  | x :: c, p, q, hp, hx, hQ => by
    have hp' : C = p ++ x :: (c ++ q) := hp
    obtain ⟨s1, s2, s3, s4⟩ := w_at hC h hp'
    rw [List.length_cons, ← Nat.add_assoc]
    unfold L3_worth_9
    refine ⟨fun z => absurd z s1, fun _ => ⟨s2, fun x10 e10 => ⟨fun z => absurd z (by decide), fun _ => ?_⟩⟩⟩
    rw [s3] at e10
    subst e10
    refine ⟨fun z => absurd z (hx _ (List.mem_cons_self ..)), fun _ y hy => ?_⟩
    rw [show nI p.length + 1 = nI (p.length + 1) from nI_add _ 1] at hy
    subst hy
    have hq : C = (p ++ [x10]) ++ (c ++ q) := by rw [hp', List.append_assoc]; rfl
    have hl : (p ++ [x10]).length = p.length + 1 := by rw [List.length_append, List.length_singleton]
    have := w_skip hC h (Q := Q) (n3 := n3) c (p ++ [x10]) q hq (fun z hz => hx z (List.mem_cons_of_mem _ hz)) (by rw [hl, show p.length + 1 + c.length = p.length + (c.length + 1) by omega]; exact hQ)
    rw [hl] at this
    exact this
theorem w_end {a0 μ : mw_M} {b : Nat} {C : List Int32} {nm : Nat → Int32} (hC : WC a0 b C nm) {v : Int32} (h : WS a0 b μ [v]) {p : List Int32} (hp : C = p ∨ ∃ q, C = p ++ 10059 :: q) {n : Nat} {Q : Int32 → mw_M → Prop} (hQ : ∀ μ', WF a0 b μ' → Q v μ') : L3_worth_9 b 19 Q (n + 1) (nI p.length) 0 μ := by
  have hpop : P3_pop b μ Q := w_pop (st := []) h (by decide) (fun μ' h' => hQ μ' h'.1)
  have hc := hC.2.1
  unfold L3_worth_9
  rcases hp with hp | ⟨q, hp⟩
  · refine ⟨fun _ => hpop, fun z => absurd ?_ z⟩
    rw [h.1.2 2 (by decide), hC.2.2.1, hp]
    rw [hp] at hc
    exact nI_le (Nat.le_refl _) (by omega)
  · obtain ⟨s1, s2, s3, s4⟩ := w_at hC h hp
    refine ⟨fun z => absurd z s1, fun _ => ⟨s2, fun x10 e10 => ⟨fun _ => ⟨fun _ => hpop, fun z => absurd ?_ z⟩, fun z => absurd rfl z⟩⟩⟩
    rw [e10, s3]
theorem w_asked {a0 μ : mw_M} {b : Nat} {C : List Int32} {nm : Nat → Int32} (hC : WC a0 b C nm) {v : Int32} (h : WS a0 b μ [v]) {p q : List Int32} (hp : C = p ++ 10063 :: q) {n : Nat} {Q : Int32 → mw_M → Prop} (hQ : ∀ μ', WS a0 b μ' [] → L3_worth_9 b 19 Q n (nI (p.length + 1)) (if v = 0 then 1 else 0) μ') : L3_worth_9 b 19 Q (n + 1) (nI p.length) 0 μ := by
  obtain ⟨s1, s2, s3, s4⟩ := w_at hC h hp
  unfold L3_worth_9
  refine ⟨fun z => absurd z s1, fun _ => ⟨s2, fun x10 e10 => ⟨fun _ => ?_, fun z => absurd rfl z⟩⟩⟩
  rw [s3] at e10
  subst e10
  refine ⟨fun z => absurd z (by decide), fun _ => ⟨fun _ => ?_, fun z => absurd rfl z⟩⟩
  refine w_pop (st := []) h (by decide) (fun μ' h' => ?_)
  rw [show nI p.length + 1 = nI (p.length + 1) from nI_add _ 1]
  simp only [forall_eq]
  have := hQ μ' h'
  refine ⟨fun z => by rw [if_pos z] at this; exact this, fun z => by rw [if_neg z] at this; exact this⟩
theorem txCode_cons (l : LN) : ∀ ls : List LN, ls ≠ [] → txCode (l :: ls) = lnCode l ++ (10059 :: txCode ls)
  | [], h => absurd rfl h
  | _ :: _, _ => rfl
theorem w_text {a0 : mw_M} {b : Nat} {C : List Int32} {nm : Nat → Int32} (hC : WC a0 b C nm) {Q : Int32 → mw_M → Prop} : ∀ (ls : List LN), ls ≠ [] → (∀ l ∈ ls, okLN l) → ∀ (p : List Int32) (μ : mw_M) (n3 : Nat), C = p ++ txCode ls → WS a0 b μ [] → (∀ μ', WF a0 b μ' → Q (txVal nm ls) μ') → L3_worth_9 b 19 Q (n3 + (txCode ls).length + 1) (nI p.length) 0 μ
  | [], h0, _, _, _, _, _, _, _ => absurd rfl h0
  | (none, e) :: ls, _, hok, p, μ, n3, hp, h, hQ => by
    have he : okE e := hok _ (List.mem_cons_self ..)
    have w := w_ex hC he
    have hpe : ∃ q, C = p ++ (e.1 ++ q) ∧ (txCode ((none, e) :: ls)).length = e.1.length + q.length ∧ (q = [] ∨ ∃ q', q = 10059 :: q') := by
      by_cases c : ls = []
      · subst c
        exact ⟨[], by rw [hp, List.append_nil]; rfl, rfl, Or.inl rfl⟩
      · refine ⟨10059 :: txCode ls, by rw [hp, txCode_cons _ _ c]; rfl, ?_, Or.inr ⟨_, rfl⟩⟩
        rw [txCode_cons _ _ c, List.length_append]; rfl
    obtain ⟨q, hq1, hq2, hq3⟩ := hpe
    refine w.2 p q μ [] (n3 + q.length + 1) _ Q hq1 h (Nat.zero_le _) (by omega) (fun μ1 h1 => ?_)
    rw [← List.length_append]
    refine w_end hC h1 (p := p ++ e.1) ?_ hQ
    rcases hq3 with rfl | ⟨q', rfl⟩
    · exact Or.inl (by rw [hq1, List.append_nil])
    · exact Or.inr ⟨q', by rw [hq1, List.append_assoc]⟩
  | (some c, e) :: ls, _, hok, p, μ, n3, hp, h, hQ => by
    have hoc : okE c ∧ okE e := hok _ (List.mem_cons_self ..)
    have wc := w_ex hC hoc.1
    have we := w_ex hC hoc.2
    have hpe : ∃ q, C = p ++ (c.1 ++ (10063 :: (e.1 ++ q))) ∧ (txCode ((some c, e) :: ls)).length = c.1.length + 1 + e.1.length + q.length ∧ ((ls = [] ∧ q = []) ∨ (ls ≠ [] ∧ q = 10059 :: txCode ls)) := by
      by_cases cc : ls = []
      · subst cc
        refine ⟨[], by rw [hp, List.append_nil]; rfl, ?_, Or.inl ⟨rfl, rfl⟩⟩
        show (c.1 ++ (10063 :: e.1)).length = _
        rw [List.length_append, List.length_cons]; simp only [List.length_nil]; omega
      · refine ⟨10059 :: txCode ls, ?_, ?_, Or.inr ⟨cc, rfl⟩⟩
        · rw [hp, txCode_cons _ _ cc]
          show p ++ ((c.1 ++ (10063 :: e.1)) ++ _) = _
          rw [List.append_assoc]; rfl
        · rw [txCode_cons _ _ cc]
          show ((c.1 ++ (10063 :: e.1)) ++ _).length = _
          rw [List.length_append, List.length_append, List.length_cons]; simp only [List.length_cons]; omega
    obtain ⟨q, hq1, hq2, hq3⟩ := hpe
    refine wc.2 p _ μ [] (n3 + e.1.length + q.length + 1 + 1) _ Q hq1 h (Nat.zero_le _) (by omega) (fun μ1 h1 => ?_)
    have hp2 : C = (p ++ c.1) ++ (10063 :: (e.1 ++ q)) := by rw [hq1, List.append_assoc]
    rw [← List.length_append]
    refine w_asked hC h1 hp2 (fun μ2 h2 => ?_)
    have hp3 : C = ((p ++ c.1) ++ [10063]) ++ (e.1 ++ q) := by rw [hp2]; simp only [List.append_assoc, List.singleton_append]
    have l3 : (p ++ c.1 ++ [10063]).length = (p ++ c.1).length + 1 := by rw [List.length_append, List.length_singleton]
    rw [← l3]
    have ev : txVal nm ((some c, e) :: ls) = if c.2 nm = 0 then txVal nm ls else e.2 nm := rfl
    rw [ev] at hQ
    by_cases z : c.2 nm = 0
    · rw [if_pos z] at hQ ⊢
      have := w_skip hC h2 (Q := Q) (n3 := n3 + q.length + 1) e.1 _ q hp3 (no59 hoc.2)
      rw [show n3 + q.length + 1 + e.1.length = n3 + e.1.length + q.length + 1 by omega] at this
      refine this ?_
      rw [← List.length_append]
      rcases hq3 with ⟨rfl, rfl⟩ | ⟨hne, rfl⟩
      · have hend : C = p ++ c.1 ++ [10063] ++ e.1 := by rw [hp3, List.append_nil]
        unfold L3_worth_9
        have hc := hC.2.1
        refine ⟨fun _ => w_pop0 h2 (hQ μ2 h2.1), fun z => absurd ?_ z⟩
        rw [h2.1.2 2 (by decide), hC.2.2.1, hend]
        rw [hend] at hc
        exact nI_le (Nat.le_refl _) (by omega)
      · have hp4 : C = (p ++ c.1 ++ [10063] ++ e.1) ++ (10059 :: txCode ls) := by rw [hp3]; simp only [List.append_assoc]
        obtain ⟨s1, s2, s3, s4⟩ := w_at hC h2 hp4
        rw [List.length_cons]
        unfold L3_worth_9
        refine ⟨fun z => absurd z s1, fun _ => ⟨s2, fun x10 e10 => ⟨fun z => absurd z (by decide), fun _ => ?_⟩⟩⟩
        rw [s3] at e10
        subst e10
        refine ⟨fun _ y hy => ?_, fun z => absurd rfl z⟩
        have e1 : ∀ r : Nat, nI r + 1 = nI (r + 1) := fun r => nI_add r 1
        rw [e1] at hy
        subst hy
        have hp5 : C = (p ++ c.1 ++ [10063] ++ e.1 ++ [10059]) ++ txCode ls := by rw [hp4]; simp only [List.append_assoc, List.singleton_append]
        have l5 : (p ++ c.1 ++ [10063] ++ e.1 ++ [10059]).length = (p ++ c.1 ++ [10063] ++ e.1).length + 1 := by rw [List.length_append, List.length_singleton]
        rw [← l5]
        exact w_text hC ls hne (fun l hl => hok l (List.mem_cons_of_mem _ hl)) _ μ2 n3 hp5 h2 hQ
    · rw [if_neg z] at hQ ⊢
      refine we.2 _ q μ2 [] (n3 + q.length + 1) _ Q hp3 h2 (Nat.zero_le _) (by omega) (fun μ3 h3 => ?_)
      rw [← List.length_append]
      refine w_end hC h3 (p := p ++ c.1 ++ [10063] ++ e.1) ?_ hQ
      rcases hq3 with ⟨_, rfl⟩ | ⟨_, rfl⟩
      · exact Or.inl (by rw [hp3, List.append_nil])
      · exact Or.inr ⟨txCode ls, by rw [hp3]; simp only [List.append_assoc]⟩
/-- a law's worth over the names of cell 19 -/
theorem x_worth {a : mw_M} {b : Nat} {ls : List LN} (hb : LB b) (h0 : ls ≠ []) (hok : ∀ l ∈ ls, okLN l) (hl : (txCode ls).length ≤ 120) (h2 : a.1 b 2 = nI (txCode ls).length) (hc : ∀ k, k < (txCode ls).length → a.1 (b + 1) k = (txCode ls).getD k 0) {Q : Int32 → mw_M → Prop} (hQ : ∀ u, FX [b, b + 2] a u → (∀ j, j ≠ 3 → u.1 b j = a.1 b j) → Q (txVal (a.1 19) ls) u) : P3_worth b 19 a Q := by
  unfold P3_worth
  intro μ1 e1
  have hg := hb.ge
  have hC : WC μ1 b (txCode ls) (a.1 19) := by
    refine ⟨hb, hl, ?_, fun k hk => ?_, fun k _ => ?_⟩
    · rw [e1, mw_I_nj (by decide)]; exact h2
    · rw [e1, mw_I_ne (by omega)]; exact hc k hk
    · rw [e1, mw_I_ne (by omega)]
  refine ⟨0 + (txCode ls).length + 1, w_text hC ls h0 hok [] μ1 0 rfl ⟨⟨FX.rf, fun _ _ => rfl⟩, ?_, fun k hk => absurd hk (Nat.not_lt_zero _)⟩ (fun u hu => hQ u ?_ (fun j hj => ?_))⟩
  · rw [e1, mw_I_eq]; rfl
  · refine FX.tr ?_ hu.1
    rw [e1]
    exact FX.rf.I (by simp)
  · rw [hu.2 j hj, e1, mw_I_nj hj]
