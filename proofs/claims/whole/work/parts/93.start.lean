/-! the two memories behind the constructors -/
def a0 : mw_M := (fun k => match k with
  | 11 => fun j => if j = 0 then 310 else if j = 1 then 100 else if j = 4 then 9999 else 0
  | 15 => fun j => if j = 4 then -1 else 0
  | _ => fun _ => 0, fun _ _ => 0)
def m0 : mw_M := (fun k => match k with
  | 0 => fun j => if j = 16 then -1 else 0
  | 6 => upd (upd (upd (fun _ => 0) 0 310) 1 100) 4 9999
  | 23 => upd (upd (upd (upd (upd (upd (fun _ => 0) 0 (-1)) 1 (-1)) 2 (-1)) 3 (-1)) 4 (-1)) 5 (-1)
  | _ => fun _ => 0, fun _ _ => 0)
theorem rr_start : RR a0 m0 := by
  refine ⟨⟨0, fun _ _ => 0, 0, ⟨by decide, by decide, fun i h => absurd h (Nat.not_lt_zero i)⟩, ⟨rfl, rfl, fun i h => absurd h (Nat.not_lt_zero i)⟩, ⟨rfl, rfl, fun i h => absurd h (Nat.not_lt_zero i)⟩, 0, 0, by decide, by decide, rfl, rfl, rfl, rfl, fun i h => absurd h (Nat.not_lt_zero i)⟩, ?_, ?_, ?_, ?_, ?_, ?_⟩
  · exact ⟨310, 100, 0, 0, 9999, 0, fun _ => 0, ⟨by decide, by decide, by decide, by decide, by decide, by decide, fun i h => absurd h (Nat.not_lt_zero i)⟩, ⟨rfl, rfl, rfl, rfl, rfl, rfl⟩, ⟨rfl, rfl, rfl, rfl, rfl, rfl⟩, fun i h => absurd h (Nat.not_lt_zero i)⟩
  · exact ⟨0, fun _ => 0, by decide, rfl, rfl, fun i h => absurd h (Nat.not_lt_zero i)⟩
  · exact ⟨0, by decide, rfl, rfl, rfl, Or.inl rfl, fun i h => absurd h (Nat.not_lt_zero i)⟩
  · exact ⟨0, by decide, rfl, rfl, fun h => absurd h (by decide)⟩
  · exact ⟨0, 0, fun _ => 0, fun _ => 0, by decide, by decide, rfl, rfl, rfl, rfl, fun i h => absurd h (Nat.not_lt_zero i), fun i h => absurd h (Nat.not_lt_zero i)⟩
  · refine ⟨fun d i hd hi => ?_, fun d hd => Or.inl ?_, fun d hd h => ?_⟩
    · rfl
    · rcases (show d = 0 ∨ d = 1 ∨ d = 2 ∨ d = 3 ∨ d = 4 ∨ d = 5 by omega) with rfl | rfl | rfl | rfl | rfl | rfl <;> exact ⟨rfl, rfl⟩
    · exact absurd (show (0 : Int32) = 2 from h) (by decide)
/-- an array of references: only the places that are there count -/
theorem va_P.setq {D : va_G} {cl : List vw_C} {ws : va_W} {H : Heap} (h : va_P D cl ws H) (p : Nat) {a N : Nat} {c : ClassId} {f : Nat → Option Nat} (g : Nat → Option Nat) (hp : ws[p]? = some (a, .inl (c, N, .inr (.inr (.inr (.inr f)))))) (hg : ∀ i, i < N → f i = g i) : va_P D cl (ws.set p (a, .inl (c, N, .inr (.inr (.inr (.inr g)))))) H := by
  intro k q hq
  by_cases hk : k = p
  · subst hk
    have hl : k < ws.length := (List.getElem?_eq_some_iff.mp hp).1
    rw [List.getElem?_set_self hl] at hq
    cases hq
    have h1 := h k _ hp
    have e0 : (fun j : Fin N => va_rf (f j.val)) = fun j : Fin N => va_rf (g j.val) := funext fun j => congrArg va_rf (hg j.val j.isLt)
    have e : arrV c N (fun j => va_rf (f j)) = arrV c N (fun j => va_rf (g j)) := congrArg (fun z => ({ cls := c, slots := Array.ofFn (n := N) z, vm := .none } : Cell)) e0
    show H[a]? = some (vp_cell _ _)
    rw [show H[a]? = some (vp_cell c (N, .inr (.inr (.inr (.inr f))))) from h1]
    rw [vp_cell_q, vp_cell_q, e]
  · rw [List.getElem?_set_ne (Ne.symm hk)] at hq
    exact h k q hq
def gX (α : SMW) (k : Nat) : Nat := if k < 1 then α.1 else if k < 6 then α.2.1 (k - 1) else if k < 11 then α.2.2.1 (k - 6) else if k < 15 then α.2.2.2.1 (k - 11) else if k < 32 then α.2.2.2.2.1 (k - 15) else if k < 44 then α.2.2.2.2.2.1 (k - 32) else if k < 45 then α.2.2.2.2.2.2.1.1 else if k < 50 then α.2.2.2.2.2.2.1.2.1 (k - 45) else if k < 62 then α.2.2.2.2.2.2.1.2.2 (k - 50) else if k < 65 then α.2.2.2.2.2.2.2.1 (k - 62) else α.2.2.2.2.2.2.2.2 (k - 65)
theorem bMW_flat {T : Nat → ClassId} {α : SMW} : bMW T α = [(α.1, .inr (10, [.ref (α.2.1 0), .ref (α.2.2.1 0), .ref (α.2.2.2.1 0), .ref (α.2.2.2.2.1 0), .ref (α.2.2.2.2.2.1 0), .ref α.2.2.2.2.2.2.1.1, .ref (α.2.2.2.2.2.2.2.1 0), .ref (α.2.2.2.2.2.2.2.2 0)])), (α.2.1 0, .inr (2, [.ref (α.2.1 1), .ref (α.2.1 2), .ref (α.2.1 3), .ref (α.2.1 4), .int 0, .int 0])), (α.2.1 1, .inl (T 0, 12, .inl (fun _ => 0))), (α.2.1 2, .inl (T 0, 12, .inl (fun _ => 0))), (α.2.1 3, .inl (T 0, 12, .inl (fun _ => 0))), (α.2.1 4, .inl (T 0, 12, .inl (fun _ => 0))), (α.2.2.1 0, .inr (1, [.ref (α.2.1 0), .ref (α.2.2.1 1), .ref (α.2.2.1 2), .ref (α.2.2.1 3), .ref (α.2.2.1 4), .int 0, .int 0])), (α.2.2.1 1, .inl (T 0, 40, .inl (fun _ => 0))), (α.2.2.1 2, .inl (T 0, 40, .inl (fun _ => 0))), (α.2.2.1 3, .inl (T 0, 40, .inl (fun _ => 0))), (α.2.2.1 4, .inl (T 0, 40, .inl (fun _ => 0))), (α.2.2.2.1 0, .inr (5, [.int 310, .int 100, .int 0, .int 0, .int 9999, .ref (α.2.2.2.1 1), .ref (α.2.2.2.1 2), .ref (α.2.2.2.1 3), .int 0])), (α.2.2.2.1 1, .inl (T 0, 4, .inl (fun _ => 0))), (α.2.2.2.1 2, .inl (T 0, 4, .inl (fun _ => 0))), (α.2.2.2.1 3, .inl (T 0, 4, .inl (fun _ => 0))), (α.2.2.2.2.1 0, .inr (4, [.ref (α.2.2.2.2.1 1), .ref (α.2.2.2.2.1 3), .ref (α.2.2.2.2.1 4), .int 0, .int (-1)])), (α.2.2.2.2.1 1, .inr (7, [.ref (α.2.2.2.2.1 2), .int 0, .int 0, .null])), (α.2.2.2.2.1 2, .inl (T 0, 120, .inl (fun _ => 0))), (α.2.2.2.2.1 3, .inl (T 2, 4, .inr (.inr (.inr (.inr (va_up (va_up (va_up (va_up (fun _ => none) 0 (some (α.2.2.2.2.1 5))) 1 (some (α.2.2.2.2.1 8))) 2 (some (α.2.2.2.2.1 11))) 3 (some (α.2.2.2.2.1 14)))))))), (α.2.2.2.2.1 4, .inl (T 0, 9, .inl (fun _ => 0))), (α.2.2.2.2.1 5, .inr (3, [.ref (α.2.2.2.2.1 6), .ref (α.2.2.2.2.1 7), .int 0, .int 0])), (α.2.2.2.2.1 6, .inl (T 0, 120, .inl (fun _ => 0))), (α.2.2.2.2.1 7, .inl (T 0, 120, .inl (fun _ => 0))), (α.2.2.2.2.1 8, .inr (3, [.ref (α.2.2.2.2.1 9), .ref (α.2.2.2.2.1 10), .int 0, .int 0])), (α.2.2.2.2.1 9, .inl (T 0, 120, .inl (fun _ => 0))), (α.2.2.2.2.1 10, .inl (T 0, 120, .inl (fun _ => 0))), (α.2.2.2.2.1 11, .inr (3, [.ref (α.2.2.2.2.1 12), .ref (α.2.2.2.2.1 13), .int 0, .int 0])), (α.2.2.2.2.1 12, .inl (T 0, 120, .inl (fun _ => 0))), (α.2.2.2.2.1 13, .inl (T 0, 120, .inl (fun _ => 0))), (α.2.2.2.2.1 14, .inr (3, [.ref (α.2.2.2.2.1 15), .ref (α.2.2.2.2.1 16), .int 0, .int 0])), (α.2.2.2.2.1 15, .inl (T 0, 120, .inl (fun _ => 0))), (α.2.2.2.2.1 16, .inl (T 0, 120, .inl (fun _ => 0))), (α.2.2.2.2.2.1 0, .inr (9, [.ref (α.2.2.2.1 0), .ref (α.2.2.2.2.1 0), .ref (α.2.2.2.2.2.1 1), .ref (α.2.2.2.2.2.1 6), .int 0, .int 0, .int 0, .int 0, .int 0, .int 0, .int 0, .int 0, .int 0, .int 0, .int 0, .int 0, .int 0])), (α.2.2.2.2.2.1 1, .inr (2, [.ref (α.2.2.2.2.2.1 2), .ref (α.2.2.2.2.2.1 3), .ref (α.2.2.2.2.2.1 4), .ref (α.2.2.2.2.2.1 5), .int 0, .int 0])), (α.2.2.2.2.2.1 2, .inl (T 0, 12, .inl (fun _ => 0))), (α.2.2.2.2.2.1 3, .inl (T 0, 12, .inl (fun _ => 0))), (α.2.2.2.2.2.1 4, .inl (T 0, 12, .inl (fun _ => 0))), (α.2.2.2.2.2.1 5, .inl (T 0, 12, .inl (fun _ => 0))), (α.2.2.2.2.2.1 6, .inl (T 3, 5, .inr (.inr (.inr (.inr (fun i => if i < 5 then some (α.2.2.2.2.2.1 (i + 7)) else none)))))), (α.2.2.2.2.2.1 7, .inl (T 0, 200, .inl (fun _ => 0))), (α.2.2.2.2.2.1 8, .inl (T 0, 200, .inl (fun _ => 0))), (α.2.2.2.2.2.1 9, .inl (T 0, 200, .inl (fun _ => 0))), (α.2.2.2.2.2.1 10, .inl (T 0, 200, .inl (fun _ => 0))), (α.2.2.2.2.2.1 11, .inl (T 0, 200, .inl (fun _ => 0))), (α.2.2.2.2.2.2.1.1, .inr (8, [.ref (α.2.1 0), .ref (α.2.2.2.1 0), .ref (α.2.2.2.2.1 0), .ref (α.2.2.2.2.2.2.1.2.1 0), .ref (α.2.2.2.2.2.2.1.2.2 0), .int 0, .int 0, .int 0, .int 0, .int 0])), (α.2.2.2.2.2.2.1.2.1 0, .inr (2, [.ref (α.2.2.2.2.2.2.1.2.1 1), .ref (α.2.2.2.2.2.2.1.2.1 2), .ref (α.2.2.2.2.2.2.1.2.1 3), .ref (α.2.2.2.2.2.2.1.2.1 4), .int 0, .int 0])), (α.2.2.2.2.2.2.1.2.1 1, .inl (T 0, 12, .inl (fun _ => 0))), (α.2.2.2.2.2.2.1.2.1 2, .inl (T 0, 12, .inl (fun _ => 0))), (α.2.2.2.2.2.2.1.2.1 3, .inl (T 0, 12, .inl (fun _ => 0))), (α.2.2.2.2.2.2.1.2.1 4, .inl (T 0, 12, .inl (fun _ => 0))), (α.2.2.2.2.2.2.1.2.2 0, .inr (9, [.ref (α.2.2.2.1 0), .ref (α.2.2.2.2.1 0), .ref (α.2.2.2.2.2.2.1.2.2 1), .ref (α.2.2.2.2.2.2.1.2.2 6), .int 0, .int 0, .int 0, .int 0, .int 0, .int 0, .int 0, .int 0, .int 0, .int 0, .int 0, .int 0, .int 0])), (α.2.2.2.2.2.2.1.2.2 1, .inr (2, [.ref (α.2.2.2.2.2.2.1.2.2 2), .ref (α.2.2.2.2.2.2.1.2.2 3), .ref (α.2.2.2.2.2.2.1.2.2 4), .ref (α.2.2.2.2.2.2.1.2.2 5), .int 0, .int 0])), (α.2.2.2.2.2.2.1.2.2 2, .inl (T 0, 12, .inl (fun _ => 0))), (α.2.2.2.2.2.2.1.2.2 3, .inl (T 0, 12, .inl (fun _ => 0))), (α.2.2.2.2.2.2.1.2.2 4, .inl (T 0, 12, .inl (fun _ => 0))), (α.2.2.2.2.2.2.1.2.2 5, .inl (T 0, 12, .inl (fun _ => 0))), (α.2.2.2.2.2.2.1.2.2 6, .inl (T 3, 5, .inr (.inr (.inr (.inr (fun i => if i < 5 then some (α.2.2.2.2.2.2.1.2.2 (i + 7)) else none)))))), (α.2.2.2.2.2.2.1.2.2 7, .inl (T 0, 200, .inl (fun _ => 0))), (α.2.2.2.2.2.2.1.2.2 8, .inl (T 0, 200, .inl (fun _ => 0))), (α.2.2.2.2.2.2.1.2.2 9, .inl (T 0, 200, .inl (fun _ => 0))), (α.2.2.2.2.2.2.1.2.2 10, .inl (T 0, 200, .inl (fun _ => 0))), (α.2.2.2.2.2.2.1.2.2 11, .inl (T 0, 200, .inl (fun _ => 0))), (α.2.2.2.2.2.2.2.1 0, .inr (0, [.ref (α.2.2.2.2.2.2.2.1 1), .ref (α.2.2.2.2.2.2.2.1 2), .int 0, .int 0, .int 0, .int 0])), (α.2.2.2.2.2.2.2.1 1, .inl (T 0, 50, .inl (fun _ => 0))), (α.2.2.2.2.2.2.2.1 2, .inl (T 0, 24, .inl (fun _ => 0))), (α.2.2.2.2.2.2.2.2 0, .inr (6, [.ref (α.2.2.2.2.2.2.2.2 1), .ref (α.2.2.2.2.2.2.2.2 2), .ref (α.2.2.2.2.2.2.2.2 3), .ref (α.2.2.2.2.2.2.2.2 4), .ref (α.2.2.2.2.2.2.2.2 5)])), (α.2.2.2.2.2.2.2.2 1, .inl (T 0, 6, .inl (fun _ => 0))), (α.2.2.2.2.2.2.2.2 2, .inl (T 0, 6, .inl (fun _ => 0))), (α.2.2.2.2.2.2.2.2 3, .inl (T 0, 6, .inl (fun _ => 0))), (α.2.2.2.2.2.2.2.2 4, .inl (T 0, 6, .inl (fun _ => 0))), (α.2.2.2.2.2.2.2.2 5, .inl (T 4, 6, .inr (.inr (.inr (.inr (fun i => if i < 6 then some (α.2.2.2.2.2.2.2.2 (i + 6)) else none)))))), (α.2.2.2.2.2.2.2.2 6, .inl (T 1, 60, .inr (.inl (fun _ => 0)))), (α.2.2.2.2.2.2.2.2 7, .inl (T 1, 60, .inr (.inl (fun _ => 0)))), (α.2.2.2.2.2.2.2.2 8, .inl (T 1, 60, .inr (.inl (fun _ => 0)))), (α.2.2.2.2.2.2.2.2 9, .inl (T 1, 60, .inr (.inl (fun _ => 0)))), (α.2.2.2.2.2.2.2.2 10, .inl (T 1, 60, .inr (.inl (fun _ => 0)))), (α.2.2.2.2.2.2.2.2 11, .inl (T 1, 60, .inr (.inl (fun _ => 0))))] := by
  simp only [bMW, bDrum, bChg, bMach, bLaws, bWalk, bThink, bActs, bShel, List.nil_append, List.append_assoc, List.cons_append]
/-- the world's list, by recursion -/
def fs2 (G : mw_G) (μ : mw_M) (k : Nat) : Nat → List Nat → List Value
  | _, [] => []
  | j, d :: ds => mw_fv G μ k j d :: fs2 G μ k (j + 1) ds
theorem fs2_at (G : mw_G) (μ : mw_M) (k : Nat) : ∀ (ds : List Nat) (j i : Nat), (fs2 G μ k j ds)[i]? = (ds[i]?).map (fun d => mw_fv G μ k (j + i) d)
  | [], j, i => by simp [fs2]
  | d :: ds, j, 0 => by simp [fs2]
  | d :: ds, j, i + 1 => by
    show (fs2 G μ k (j + 1) ds)[i]? = _
    rw [fs2_at G μ k ds (j + 1) i]
    simp only [List.getElem?_cons_succ]
    rw [show j + 1 + i = j + (i + 1) by omega]
theorem fs2_eq (G : mw_G) (μ : mw_M) (k : Nat) (ds : List Nat) : mw_fs G μ k ds = fs2 G μ k 0 ds := by
  apply List.ext_getElem?
  intro i
  rw [fs2_at]
  unfold mw_fs
  rw [List.getElem?_mapIdx]
  simp only [Nat.zero_add]
def en2 (G : mw_G) (μ : mw_M) (k : Nat) (d : mw_CD) : va_E := match d with
  | .inl o => .inr (o.1, fs2 G μ k 0 o.2)
  | .inr x => .inl (G.2.1 x.1, x.2.1, mw_ac G μ k x.1 x.2.2.1 x.2.2.2)
theorem en2_eq (G : mw_G) (μ : mw_M) (k : Nat) (d : mw_CD) : mw_e G μ k d = en2 G μ k d := by
  cases d with
  | inl o => show Sum.inr (o.1, mw_fs G μ k o.2) = Sum.inr (o.1, fs2 G μ k 0 o.2); rw [fs2_eq]
  | inr x => rfl
def ws2 (G : mw_G) (μ : mw_M) : Nat → List mw_CD → va_W
  | _, [] => []
  | k, d :: ds => (mw_a G k, en2 G μ k d) :: ws2 G μ (k + 1) ds
theorem ws2_at (G : mw_G) (μ : mw_M) : ∀ (ds : List mw_CD) (j i : Nat), (ws2 G μ j ds)[i]? = (ds[i]?).map (fun d => (mw_a G (j + i), en2 G μ (j + i) d))
  | [], j, i => by simp [ws2]
  | d :: ds, j, 0 => by simp [ws2]
  | d :: ds, j, i + 1 => by
    show (ws2 G μ (j + 1) ds)[i]? = _
    rw [ws2_at G μ ds (j + 1) i]
    simp only [List.getElem?_cons_succ]
    rw [show j + 1 + i = j + (i + 1) by omega]
theorem ws2_eq (G : mw_G) (kd : List mw_CD) (μ : mw_M) : mw_ws G kd μ = ws2 G μ 0 kd := by
  apply List.ext_getElem?
  intro i
  rw [ws2_at]
  unfold mw_ws
  rw [List.getElem?_mapIdx]
  simp only [Nat.zero_add, en2_eq]
theorem set_fst {ws : va_W} {p a : Nat} {e0 e : va_E} (h : ws[p]? = some (a, e0)) (i : Nat) : ((ws.set p (a, e))[i]?).map Prod.fst = (ws[i]?).map Prod.fst := by
  by_cases hi : i = p
  · subst hi
    rw [List.getElem?_set_self (List.getElem?_eq_some_iff.mp h).1, h]
    rfl
  · rw [List.getElem?_set_ne (Ne.symm hi)]
def bMW2 (T : Nat → ClassId) (α : SMW) : va_W := [(α.1, .inr (10, [.ref (α.2.1 0), .ref (α.2.2.1 0), .ref (α.2.2.2.1 0), .ref (α.2.2.2.2.1 0), .ref (α.2.2.2.2.2.1 0), .ref α.2.2.2.2.2.2.1.1, .ref (α.2.2.2.2.2.2.2.1 0), .ref (α.2.2.2.2.2.2.2.2 0)])), (α.2.1 0, .inr (2, [.ref (α.2.1 1), .ref (α.2.1 2), .ref (α.2.1 3), .ref (α.2.1 4), .int 0, .int 0])), (α.2.1 1, .inl (T 0, 12, .inl (fun _ => 0))), (α.2.1 2, .inl (T 0, 12, .inl (fun _ => 0))), (α.2.1 3, .inl (T 0, 12, .inl (fun _ => 0))), (α.2.1 4, .inl (T 0, 12, .inl (fun _ => 0))), (α.2.2.1 0, .inr (1, [.ref (α.2.1 0), .ref (α.2.2.1 1), .ref (α.2.2.1 2), .ref (α.2.2.1 3), .ref (α.2.2.1 4), .int 0, .int 0])), (α.2.2.1 1, .inl (T 0, 40, .inl (fun _ => 0))), (α.2.2.1 2, .inl (T 0, 40, .inl (fun _ => 0))), (α.2.2.1 3, .inl (T 0, 40, .inl (fun _ => 0))), (α.2.2.1 4, .inl (T 0, 40, .inl (fun _ => 0))), (α.2.2.2.1 0, .inr (5, [.int 310, .int 100, .int 0, .int 0, .int 9999, .ref (α.2.2.2.1 1), .ref (α.2.2.2.1 2), .ref (α.2.2.2.1 3), .int 0])), (α.2.2.2.1 1, .inl (T 0, 4, .inl (fun _ => 0))), (α.2.2.2.1 2, .inl (T 0, 4, .inl (fun _ => 0))), (α.2.2.2.1 3, .inl (T 0, 4, .inl (fun _ => 0))), (α.2.2.2.2.1 0, .inr (4, [.ref (α.2.2.2.2.1 1), .ref (α.2.2.2.2.1 3), .ref (α.2.2.2.2.1 4), .int 0, .int (-1)])), (α.2.2.2.2.1 1, .inr (7, [.ref (α.2.2.2.2.1 2), .int 0, .int 0, .null])), (α.2.2.2.2.1 2, .inl (T 0, 120, .inl (fun _ => 0))), (α.2.2.2.2.1 3, .inl (T 2, 4, .inr (.inr (.inr (.inr (fun i => some (gX α (20 + 3 * i)))))))), (α.2.2.2.2.1 4, .inl (T 0, 9, .inl (fun _ => 0))), (α.2.2.2.2.1 5, .inr (3, [.ref (α.2.2.2.2.1 6), .ref (α.2.2.2.2.1 7), .int 0, .int 0])), (α.2.2.2.2.1 6, .inl (T 0, 120, .inl (fun _ => 0))), (α.2.2.2.2.1 7, .inl (T 0, 120, .inl (fun _ => 0))), (α.2.2.2.2.1 8, .inr (3, [.ref (α.2.2.2.2.1 9), .ref (α.2.2.2.2.1 10), .int 0, .int 0])), (α.2.2.2.2.1 9, .inl (T 0, 120, .inl (fun _ => 0))), (α.2.2.2.2.1 10, .inl (T 0, 120, .inl (fun _ => 0))), (α.2.2.2.2.1 11, .inr (3, [.ref (α.2.2.2.2.1 12), .ref (α.2.2.2.2.1 13), .int 0, .int 0])), (α.2.2.2.2.1 12, .inl (T 0, 120, .inl (fun _ => 0))), (α.2.2.2.2.1 13, .inl (T 0, 120, .inl (fun _ => 0))), (α.2.2.2.2.1 14, .inr (3, [.ref (α.2.2.2.2.1 15), .ref (α.2.2.2.2.1 16), .int 0, .int 0])), (α.2.2.2.2.1 15, .inl (T 0, 120, .inl (fun _ => 0))), (α.2.2.2.2.1 16, .inl (T 0, 120, .inl (fun _ => 0))), (α.2.2.2.2.2.1 0, .inr (9, [.ref (α.2.2.2.1 0), .ref (α.2.2.2.2.1 0), .ref (α.2.2.2.2.2.1 1), .ref (α.2.2.2.2.2.1 6), .int 0, .int 0, .int 0, .int 0, .int 0, .int 0, .int 0, .int 0, .int 0, .int 0, .int 0, .int 0, .int 0])), (α.2.2.2.2.2.1 1, .inr (2, [.ref (α.2.2.2.2.2.1 2), .ref (α.2.2.2.2.2.1 3), .ref (α.2.2.2.2.2.1 4), .ref (α.2.2.2.2.2.1 5), .int 0, .int 0])), (α.2.2.2.2.2.1 2, .inl (T 0, 12, .inl (fun _ => 0))), (α.2.2.2.2.2.1 3, .inl (T 0, 12, .inl (fun _ => 0))), (α.2.2.2.2.2.1 4, .inl (T 0, 12, .inl (fun _ => 0))), (α.2.2.2.2.2.1 5, .inl (T 0, 12, .inl (fun _ => 0))), (α.2.2.2.2.2.1 6, .inl (T 3, 5, .inr (.inr (.inr (.inr (fun i => some (gX α (39 + 1 * i)))))))), (α.2.2.2.2.2.1 7, .inl (T 0, 200, .inl (fun _ => 0))), (α.2.2.2.2.2.1 8, .inl (T 0, 200, .inl (fun _ => 0))), (α.2.2.2.2.2.1 9, .inl (T 0, 200, .inl (fun _ => 0))), (α.2.2.2.2.2.1 10, .inl (T 0, 200, .inl (fun _ => 0))), (α.2.2.2.2.2.1 11, .inl (T 0, 200, .inl (fun _ => 0))), (α.2.2.2.2.2.2.1.1, .inr (8, [.ref (α.2.1 0), .ref (α.2.2.2.1 0), .ref (α.2.2.2.2.1 0), .ref (α.2.2.2.2.2.2.1.2.1 0), .ref (α.2.2.2.2.2.2.1.2.2 0), .int 0, .int 0, .int 0, .int 0, .int 0])), (α.2.2.2.2.2.2.1.2.1 0, .inr (2, [.ref (α.2.2.2.2.2.2.1.2.1 1), .ref (α.2.2.2.2.2.2.1.2.1 2), .ref (α.2.2.2.2.2.2.1.2.1 3), .ref (α.2.2.2.2.2.2.1.2.1 4), .int 0, .int 0])), (α.2.2.2.2.2.2.1.2.1 1, .inl (T 0, 12, .inl (fun _ => 0))), (α.2.2.2.2.2.2.1.2.1 2, .inl (T 0, 12, .inl (fun _ => 0))), (α.2.2.2.2.2.2.1.2.1 3, .inl (T 0, 12, .inl (fun _ => 0))), (α.2.2.2.2.2.2.1.2.1 4, .inl (T 0, 12, .inl (fun _ => 0))), (α.2.2.2.2.2.2.1.2.2 0, .inr (9, [.ref (α.2.2.2.1 0), .ref (α.2.2.2.2.1 0), .ref (α.2.2.2.2.2.2.1.2.2 1), .ref (α.2.2.2.2.2.2.1.2.2 6), .int 0, .int 0, .int 0, .int 0, .int 0, .int 0, .int 0, .int 0, .int 0, .int 0, .int 0, .int 0, .int 0])), (α.2.2.2.2.2.2.1.2.2 1, .inr (2, [.ref (α.2.2.2.2.2.2.1.2.2 2), .ref (α.2.2.2.2.2.2.1.2.2 3), .ref (α.2.2.2.2.2.2.1.2.2 4), .ref (α.2.2.2.2.2.2.1.2.2 5), .int 0, .int 0])), (α.2.2.2.2.2.2.1.2.2 2, .inl (T 0, 12, .inl (fun _ => 0))), (α.2.2.2.2.2.2.1.2.2 3, .inl (T 0, 12, .inl (fun _ => 0))), (α.2.2.2.2.2.2.1.2.2 4, .inl (T 0, 12, .inl (fun _ => 0))), (α.2.2.2.2.2.2.1.2.2 5, .inl (T 0, 12, .inl (fun _ => 0))), (α.2.2.2.2.2.2.1.2.2 6, .inl (T 3, 5, .inr (.inr (.inr (.inr (fun i => some (gX α (57 + 1 * i)))))))), (α.2.2.2.2.2.2.1.2.2 7, .inl (T 0, 200, .inl (fun _ => 0))), (α.2.2.2.2.2.2.1.2.2 8, .inl (T 0, 200, .inl (fun _ => 0))), (α.2.2.2.2.2.2.1.2.2 9, .inl (T 0, 200, .inl (fun _ => 0))), (α.2.2.2.2.2.2.1.2.2 10, .inl (T 0, 200, .inl (fun _ => 0))), (α.2.2.2.2.2.2.1.2.2 11, .inl (T 0, 200, .inl (fun _ => 0))), (α.2.2.2.2.2.2.2.1 0, .inr (0, [.ref (α.2.2.2.2.2.2.2.1 1), .ref (α.2.2.2.2.2.2.2.1 2), .int 0, .int 0, .int 0, .int 0])), (α.2.2.2.2.2.2.2.1 1, .inl (T 0, 50, .inl (fun _ => 0))), (α.2.2.2.2.2.2.2.1 2, .inl (T 0, 24, .inl (fun _ => 0))), (α.2.2.2.2.2.2.2.2 0, .inr (6, [.ref (α.2.2.2.2.2.2.2.2 1), .ref (α.2.2.2.2.2.2.2.2 2), .ref (α.2.2.2.2.2.2.2.2 3), .ref (α.2.2.2.2.2.2.2.2 4), .ref (α.2.2.2.2.2.2.2.2 5)])), (α.2.2.2.2.2.2.2.2 1, .inl (T 0, 6, .inl (fun _ => 0))), (α.2.2.2.2.2.2.2.2 2, .inl (T 0, 6, .inl (fun _ => 0))), (α.2.2.2.2.2.2.2.2 3, .inl (T 0, 6, .inl (fun _ => 0))), (α.2.2.2.2.2.2.2.2 4, .inl (T 0, 6, .inl (fun _ => 0))), (α.2.2.2.2.2.2.2.2 5, .inl (T 4, 6, .inr (.inr (.inr (.inr (fun i => some (gX α (71 + 1 * i)))))))), (α.2.2.2.2.2.2.2.2 6, .inl (T 1, 60, .inr (.inl (fun _ => 0)))), (α.2.2.2.2.2.2.2.2 7, .inl (T 1, 60, .inr (.inl (fun _ => 0)))), (α.2.2.2.2.2.2.2.2 8, .inl (T 1, 60, .inr (.inl (fun _ => 0)))), (α.2.2.2.2.2.2.2.2 9, .inl (T 1, 60, .inr (.inl (fun _ => 0)))), (α.2.2.2.2.2.2.2.2 10, .inl (T 1, 60, .inr (.inl (fun _ => 0)))), (α.2.2.2.2.2.2.2.2 11, .inl (T 1, 60, .inr (.inl (fun _ => 0))))]
set_option maxHeartbeats 8000000 in
set_option maxRecDepth 20000 in
theorem bMW2_eq {D : va_G} {T : Nat → ClassId} {α : SMW} {tS : Nat → Nat} : mw_ws (D, T, gX α, tS) kdX a0 = bMW2 T α := by
  rw [ws2_eq]
  rfl
set_option maxHeartbeats 8000000 in
set_option maxRecDepth 20000 in
theorem iX {D : va_G} {T : Nat → ClassId} {α : SMW} {tS : Nat → Nat} {H : Heap} (h : va_P D vwCl (bMW T α) H) : va_P D vwCl (mw_ws (D, T, gX α, tS) kdX a0) H := by
  rw [bMW_flat] at h
  have h1 := h.setq 18 (fun i => some (gX α (20 + 3 * i))) rfl (fun i hi => by rcases (show i = 0 ∨ i = 1 ∨ i = 2 ∨ i = 3 by omega) with rfl | rfl | rfl | rfl <;> rfl)
  have h2 := h1.setq 38 (fun i => some (gX α (39 + 1 * i))) rfl (fun i hi => by rcases (show i = 0 ∨ i = 1 ∨ i = 2 ∨ i = 3 ∨ i = 4 by omega) with rfl | rfl | rfl | rfl | rfl <;> rfl)
  have h3 := h2.setq 56 (fun i => some (gX α (57 + 1 * i))) rfl (fun i hi => by rcases (show i = 0 ∨ i = 1 ∨ i = 2 ∨ i = 3 ∨ i = 4 by omega) with rfl | rfl | rfl | rfl | rfl <;> rfl)
  have h4 := h3.setq 70 (fun i => some (gX α (71 + 1 * i))) rfl (fun i hi => by rcases (show i = 0 ∨ i = 1 ∨ i = 2 ∨ i = 3 ∨ i = 4 ∨ i = 5 by omega) with rfl | rfl | rfl | rfl | rfl | rfl <;> rfl)
  simp only [List.set_cons_succ, List.set_cons_zero] at h4
  rw [bMW2_eq]
  exact h4
set_option maxHeartbeats 8000000 in
set_option maxRecDepth 20000 in
theorem iM {D : va_G} {T : Nat → ClassId} {α : Nat → Nat} {tS : Nat → Nat} : mw_ws (D, T, α, tS) kdM m0 = bMod T α := by
  rw [ws2_eq]
  rfl
set_option maxHeartbeats 8000000 in
set_option maxRecDepth 20000 in
theorem bMW_fst {T : Nat → ClassId} {α : SMW} (i : Nat) : ((bMW T α)[i]?).map Prod.fst = ((bMW2 T α)[i]?).map Prod.fst := by
  rw [bMW_flat]
  rw [← set_fst (p := 18) (a := α.2.2.2.2.1 3) (e := .inl (T 2, 4, .inr (.inr (.inr (.inr (fun i => some (gX α (20 + 3 * i)))))))) rfl i]
  simp only [List.set_cons_succ, List.set_cons_zero]
  rw [← set_fst (p := 38) (a := α.2.2.2.2.2.1 6) (e := .inl (T 3, 5, .inr (.inr (.inr (.inr (fun i => some (gX α (39 + 1 * i)))))))) rfl i]
  simp only [List.set_cons_succ, List.set_cons_zero]
  rw [← set_fst (p := 56) (a := α.2.2.2.2.2.2.1.2.2 6) (e := .inl (T 3, 5, .inr (.inr (.inr (.inr (fun i => some (gX α (57 + 1 * i)))))))) rfl i]
  simp only [List.set_cons_succ, List.set_cons_zero]
  rw [← set_fst (p := 70) (a := α.2.2.2.2.2.2.2.2 5) (e := .inl (T 4, 6, .inr (.inr (.inr (.inr (fun i => some (gX α (71 + 1 * i)))))))) rfl i]
  simp only [List.set_cons_succ, List.set_cons_zero]
  rfl
theorem iXD {T : Nat → ClassId} {α : SMW} {A : Nat → Prop} (h : va_D A (bMW T α)) : ((∀ i j, i < kdX.length → j < kdX.length → gX α i = gX α j → i = j) ∧ ∀ i, i < kdX.length → A (gX α i)) ∧ ∀ i, i < kdX.length → ∃ x, (bMW T α)[i]? = some (gX α i, x) := by
  have f : ∀ i, i < kdX.length → ∃ x, (bMW T α)[i]? = some (gX α i, x) := fun i hi => by
    have h1 := bMW_fst (T := T) (α := α) i
    rw [← bMW2_eq (D := (T, fun _ _ => 0)) (tS := fun _ => 0), mw_ws_at (List.getElem?_eq_getElem hi)] at h1
    cases hz : (bMW T α)[i]? with
    | none => rw [hz] at h1; cases h1
    | some z =>
      rw [hz] at h1
      obtain ⟨z1, z2⟩ := z
      have h2 : z1 = gX α i := Option.some.inj h1
      subst h2
      exact ⟨z2, rfl⟩
  refine ⟨⟨fun i j hi hj q => ?_, fun i hi => ?_⟩, f⟩
  · obtain ⟨x, hx⟩ := f i hi
    obtain ⟨y, hy⟩ := f j hj
    exact h.1 i j _ _ hx hy q
  · obtain ⟨x, hx⟩ := f i hi
    exact h.2 i _ hx
