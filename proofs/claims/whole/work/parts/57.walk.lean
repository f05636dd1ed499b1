/-! a walk as a pure iteration: registers 0 z, 1 x, 2 y, 3 pace, 4 calm, 5 anew, 6 knocks, 7 hops, 8 done, 9 far, 10 tumbled; the load; how lopsided before tick t -/
abbrev WK : Type := (Nat → Int32) × (Nat → Nat → Nat) × (Nat → Int32)
def held (v : Int32) : Int32 := mw_max (-9999) (mw_min 9999 v)
theorem s11_held {v : Int32} {Q : Int32 → Prop} (hQ : Q (held v)) : P11_heldSpot v Q := by
  unfold P11_heldSpot
  unfold held mw_max mw_min at hQ
  refine ⟨fun h1 => ⟨fun h2 => ?_, fun h2 => ?_⟩, fun h1 => ?_⟩
  · by_cases c : v < 9999
    · rw [if_pos c] at hQ
      by_cases d : -9999 < v
      · rw [if_pos d] at hQ; exact hQ
      · rw [if_neg d] at hQ
        have : v = -9999 := by rw [zle] at h1; rw [zlt] at d; rw [zeq]; omega
        rw [this]; exact hQ
    · rw [if_neg c] at hQ
      have : v = 9999 := by rw [zle] at h2; rw [zlt] at c; rw [zeq]; omega
      rw [this]
      exact hQ
  · rw [if_neg (show ¬ v < 9999 by rw [zle] at h2; rw [zlt]; omega)] at hQ
    exact hQ
  · have c : v < 9999 := by
      rw [zle, show (-9999 : Int32).toInt = -9999 from rfl] at h1
      rw [zlt]
      simp only [Int32.reduceToInt]
      omega
    rw [if_pos c, if_neg (show ¬ -9999 < v by rw [zle] at h1; rw [zlt]; omega)] at hQ
    exact hQ
def setR (r : Nat → Int32) (j : Nat) (v : Int32) : Nat → Int32 := fun k => if k = j then v else r k
/-- what the rule sees at tick t: a lop of de ticks ago, with noise -/
def seenN (de no : Nat) (h : Nat → Int32) (z : Int32) (t : Nat) : Int32 := h (t - de) + nI (upN z % (2 * no + 1)) - nI no
/-- one tick: W the water law, ls the rule's text, the machine's numbers, the floor's grip and slopes -/
def tickN (W : Option (List LN)) (ls : List LN) (n c0 be da de no g : Nat) (sx sy : Int32) (goal : Int32) (st : WK) (t : Nat) : WK :=
  let r := st.1
  let f := st.2.1
  let h := st.2.2
  let z1 := dz (r 0)
  let p := pcN ls (r 3) (nI t) (seenN de no h z1 t) goal (r 4) (r 5)
  let f1 := if p < 60 then fTu f z1 n else fDr W f p (nI t) (h t) (r 4) (r 5) n
  let lop := lopN n f1 c0
  let sh := shS be da lop p
  let a := sideN n f1 c0
  let hop := nI g < sh
  let x1 := if hop then held (r 1 + co a * (sh - nI g) / 1000 + sx) else r 1
  let y1 := if hop then held (r 2 + si a * (sh - nI g) / 1000 + sy) else r 2
  let far := mw_abs x1 + mw_abs y1
  (fun k => match k with
    | 0 => if p < 60 then zI z1 n else z1
    | 1 => x1
    | 2 => y1
    | 3 => nI p
    | 4 => if p < 60 then 0 else r 4 + 1
    | 5 => if p < 60 ∧ r 10 = 0 then r 5 + 1 else r 5
    | 6 => if sh ≤ 500 then r 6 else r 6 + 1
    | 7 => if hop then r 7 + 1 else r 7
    | 8 => if r 8 = -2 ∧ ¬ nI p < goal then nI t else r 8
    | 9 => mw_max (r 9) far
    | 10 => if p < 60 then 1 else 0
    | _ => 0, f1, fun k => if k = t + 1 then lop else h k)
