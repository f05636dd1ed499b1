/-! a walk as a pure iteration: registers 0 z, 1 x, 2 y, 3 pace, 4 calm, 5 anew, 6 knocks, 7 hops, 8 done, 9 far, 10 tumbled; the load; how lopsided before tick t -/
abbrev WK : Type := (Nat → Int32) × (Nat → Nat → Nat) × (Nat → Int32)
def held (v : Int32) : Int32 := mw_max (-9999) (mw_min 9999 v)
theorem s11_held {v : Int32} {Q : Int32 → Prop} (hQ : Q (held v)) : P11_heldSpot v Q := by
  unfold P11_heldSpot
  unfold held mw_max mw_min at hQ
  refine ⟨fun h1 => ⟨fun h2 => ?_, fun h2 => ?_⟩, fun h1 => ?_⟩
  · by_cases c : v < 9999
    · rw [if_pos c] at hQ
      by_cases d : -9999 < v
      · rw [if_pos d] at hQ; exact hQ
      · rw [if_neg d] at hQ
        have : v = -9999 := by rw [zle] at h1; rw [zlt] at d; rw [zeq]; omega
        rw [this]; exact hQ
    · rw [if_neg c] at hQ
      have : v = 9999 := by rw [zle] at h2; rw [zlt] at c; rw [zeq]; omega
      rw [this]
      exact hQ
  · rw [if_neg (show ¬ v < 9999 by rw [zle] at h2; rw [zlt]; omega)] at hQ
    exact hQ
  · have c : v < 9999 := by
      rw [zle, show (-9999 : Int32).toInt = -9999 from rfl] at h1
      rw [zlt]
      simp only [Int32.reduceToInt]
      omega
    rw [if_pos c, if_neg (show ¬ -9999 < v by rw [zle] at h1; rw [zlt]; omega)] at hQ
    exact hQ
def setR (r : Nat → Int32) (j : Nat) (v : Int32) : Nat → Int32 := fun k => if k = j then v else r k
/-- what the rule sees at tick t: a lop of de ticks ago, with noise -/
def seenN (de no : Nat) (h : Nat → Int32) (z : Int32) (t : Nat) : Int32 := h (t - de) + nI (upN z % (2 * no + 1)) - nI no
/-- the second half of a tick: the load lies as f1, the pace is p -/
def endN (n c0 be da g : Nat) (sx sy goal : Int32) (t p : Nat) (f1 : Nat → Nat → Nat) (z1 calm anew tum : Int32) (r h : Nat → Int32) : WK :=
  let lop := lopN n f1 c0
  let sh := shS be da lop p
  let a := sideN n f1 c0
  let x1 := if nI g < sh then held (r 1 + co a * (sh - nI g) / 1000 + sx) else r 1
  let y1 := if nI g < sh then held (r 2 + si a * (sh - nI g) / 1000 + sy) else r 2
  (fun k => if k = 0 then z1 else if k = 1 then x1 else if k = 2 then y1 else if k = 3 then nI p else if k = 4 then calm else if k = 5 then anew else if k = 6 then (if sh ≤ 500 then r 6 else r 6 + 1) else if k = 7 then (if nI g < sh then r 7 + 1 else r 7) else if k = 8 then (if r 8 = -2 ∧ ¬ nI p < goal then nI t else r 8) else if k = 9 then mw_max (r 9) (mw_abs x1 + mw_abs y1) else if k = 10 then tum else sh, f1, fun k => if k = t + 1 then lop else h k)
/-- the pace of tick t -/
def paN (ls : List LN) (de no : Nat) (goal : Int32) (st : WK) (t : Nat) : Nat := pcN ls (st.1 3) (nI t) (seenN de no st.2.2 (dz (st.1 0)) t) goal (st.1 4) (st.1 5)
/-- one tick: W the water law, ls the rule's text, the machine's numbers, the floor's grip and slopes -/
def tickN (W : Option (List LN)) (ls : List LN) (n c0 be da de no g : Nat) (sx sy goal : Int32) (st : WK) (t : Nat) : WK :=
  if paN ls de no goal st t < 60 then endN n c0 be da g sx sy goal t (paN ls de no goal st t) (fTu st.2.1 (dz (st.1 0)) n) (zI (dz (st.1 0)) n) 0 (if st.1 10 = 0 then st.1 5 + 1 else st.1 5) 1 st.1 st.2.2
  else endN n c0 be da g sx sy goal t (paN ls de no goal st t) (fDr W st.2.1 (paN ls de no goal st t) (nI t) (st.2.2 t) (st.1 4) (st.1 5) n) (dz (st.1 0)) (st.1 4 + 1) (st.1 5) 0 st.1 st.2.2
/-- what is kept of a tick: PACE, LOPSIDED, SHAKE, x, y -/
def kvN (p lop sh x y : Int32) (w : Nat) : Int32 := if w = 0 then p else if w = 1 then lop else if w = 2 then sh else if w = 3 then x else y
def kpN (st : WK) (t w : Nat) : Int32 := kvN (st.1 3) (st.2.2 (t + 1)) (st.1 11) (st.1 1) (st.1 2) w
