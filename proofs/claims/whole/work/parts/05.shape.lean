def mw_decCD : DecidableEq mw_CD := fun a b => match a, b with
  | .inl x, .inl y => if h : x = y then isTrue (by rw [h]) else isFalse (fun e => h (Sum.inl.inj e))
  | .inr x, .inr y => if h : x = y then isTrue (by rw [h]) else isFalse (fun e => h (Sum.inr.inj e))
  | .inl _, .inr _ => isFalse (fun e => by cases e)
  | .inr _, .inl _ => isFalse (fun e => by cases e)
def mw_eqb (x : Option mw_CD) (d : mw_CD) : Bool := match x with
  | some c => @decide (c = d) (mw_decCD c d)
  | none => false
theorem mw_eqb_iff {x : Option mw_CD} {d : mw_CD} : mw_eqb x d = true ↔ x = some d := by
  cases x with
  | none => simp [mw_eqb]
  | some c => simp [mw_eqb]
def dsX0 (b : Nat) : List Nat := [65, 66, 0, 0, 0, 0]
def dsX1 (b : Nat) : List Nat := [3, 9, 10, 11, 12, 0, 0]
def dsX2 (b : Nat) : List Nat := [b + 3, b + 4, b + 5, b + 6, 0, 0]
def dsX3 (b : Nat) : List Nat := [b + 3, b + 4, 0, 0]
def dsX4 (b : Nat) : List Nat := [18, 20, 21, 0, 0]
def dsX5 (b : Nat) : List Nat := [0, 0, 0, 0, 0, 14, 15, 16, 0]
def dsX6 (b : Nat) : List Nat := [68, 69, 70, 71, 72]
def dsX7 (b : Nat) : List Nat := [19, 0, 0, 1]
def dsX8 (b : Nat) : List Nat := [3, 13, 17, 47, 52, 0, 0, 0, 0, 0]
def dsX9 (b : Nat) : List Nat := [13, 17, b + 3, b + 8, 0, 0, 0, 0, 0, 0, 0, 0, 0, 0, 0, 0, 0]
def dsX10 (b : Nat) : List Nat := [3, 8, 13, 17, 34, 46, 64, 67]
def dsX11 (b : Nat) : List Nat := [3, 4, 5, 6, 0, 0, 0, 7, 8, 0, 9, 10, 11, 12, 0, 0, 0, 13, 14, 0, 0, 0, 0, 0, 15, 0, 16, 17, 18, 19, 20, 21, 22, 0, 0, 0, 0, 0, 0, 0, 0, 0, 0, 0, 0, 0, 0, 0, 0, 0, 0, 0, 0, 0, 23, 24, 0, 0, 0, 25, 26, 27, 28]
def kdX : List mw_CD := [.inl (10, dsX10 0), .inl (2, dsX2 1), .inr (0, 12, 0, 0), .inr (0, 12, 0, 0), .inr (0, 12, 0, 0), .inr (0, 12, 0, 0), .inl (1, dsX1 6), .inr (0, 40, 0, 0), .inr (0, 40, 0, 0), .inr (0, 40, 0, 0), .inr (0, 40, 0, 0), .inl (5, dsX5 11), .inr (0, 4, 0, 0), .inr (0, 4, 0, 0), .inr (0, 4, 0, 0), .inl (4, dsX4 15), .inl (7, dsX7 16), .inr (0, 120, 0, 0), .inr (2, 4, 20, 3), .inr (0, 9, 0, 0), .inl (3, dsX3 20), .inr (0, 120, 0, 0), .inr (0, 120, 0, 0), .inl (3, dsX3 23), .inr (0, 120, 0, 0), .inr (0, 120, 0, 0), .inl (3, dsX3 26), .inr (0, 120, 0, 0), .inr (0, 120, 0, 0), .inl (3, dsX3 29), .inr (0, 120, 0, 0), .inr (0, 120, 0, 0), .inl (9, dsX9 32), .inl (2, dsX2 33), .inr (0, 12, 0, 0), .inr (0, 12, 0, 0), .inr (0, 12, 0, 0), .inr (0, 12, 0, 0), .inr (3, 5, 39, 1), .inr (0, 200, 0, 0), .inr (0, 200, 0, 0), .inr (0, 200, 0, 0), .inr (0, 200, 0, 0), .inr (0, 200, 0, 0), .inl (8, dsX8 44), .inl (2, dsX2 45), .inr (0, 12, 0, 0), .inr (0, 12, 0, 0), .inr (0, 12, 0, 0), .inr (0, 12, 0, 0), .inl (9, dsX9 50), .inl (2, dsX2 51), .inr (0, 12, 0, 0), .inr (0, 12, 0, 0), .inr (0, 12, 0, 0), .inr (0, 12, 0, 0), .inr (3, 5, 57, 1), .inr (0, 200, 0, 0), .inr (0, 200, 0, 0), .inr (0, 200, 0, 0), .inr (0, 200, 0, 0), .inr (0, 200, 0, 0), .inl (0, dsX0 62), .inr (0, 50, 0, 0), .inr (0, 24, 0, 0), .inl (6, dsX6 65), .inr (0, 6, 0, 0), .inr (0, 6, 0, 0), .inr (0, 6, 0, 0), .inr (0, 6, 0, 0), .inr (4, 6, 71, 1), .inr (1, 60, 0, 0), .inr (1, 60, 0, 0), .inr (1, 60, 0, 0), .inr (1, 60, 0, 0), .inr (1, 60, 0, 0), .inr (1, 60, 0, 0)]
def kdM : List mw_CD := [.inl (11, dsX11 0), .inr (0, 37, 0, 0), .inr (0, 40, 0, 0), .inr (0, 40, 0, 0), .inr (0, 40, 0, 0), .inr (0, 12, 0, 0), .inr (0, 5, 0, 0), .inr (0, 4, 0, 0), .inr (0, 4, 0, 0), .inr (0, 4, 0, 0), .inr (0, 120, 0, 0), .inr (0, 480, 0, 0), .inr (0, 4, 0, 0), .inr (0, 9, 0, 0), .inr (0, 37, 0, 0), .inr (0, 200, 0, 0), .inr (0, 200, 0, 0), .inr (0, 200, 0, 0), .inr (0, 200, 0, 0), .inr (0, 200, 0, 0), .inr (0, 200, 0, 0), .inr (0, 50, 0, 0), .inr (0, 24, 0, 0), .inr (0, 6, 0, 0), .inr (0, 6, 0, 0), .inr (1, 360, 0, 0), .inr (1, 60, 0, 0)]
theorem sh0_0 : kdX[63]? = some (.inr (0, 50, 0, 0)) := rfl
theorem sh0_1 : kdX[64]? = some (.inr (0, 24, 0, 0)) := rfl
theorem ob0 : kdX[62]? = some (.inl (0, dsX0 62)) := rfl
theorem sh1_0 : kdX[1]? = some (.inl (2, dsX2 1)) := rfl
theorem sh1_1 : kdX[7]? = some (.inr (0, 40, 0, 0)) := rfl
theorem sh1_2 : kdX[8]? = some (.inr (0, 40, 0, 0)) := rfl
theorem sh1_3 : kdX[9]? = some (.inr (0, 40, 0, 0)) := rfl
theorem sh1_4 : kdX[10]? = some (.inr (0, 40, 0, 0)) := rfl
theorem ob1 : kdX[6]? = some (.inl (1, dsX1 6)) := rfl
theorem sh2_0 {b : Nat} (h : kdX[b]? = some (.inl (2, dsX2 b))) : kdX[(b + 1)]? = some (.inr (0, 12, 0, 0)) := mw_eqb_iff.mp ((by decide +kernel : ∀ b, b < 77 → (mw_eqb (kdX[b]?) (.inl (2, dsX2 b)) = true → mw_eqb (kdX[(b + 1)]?) (.inr (0, 12, 0, 0)) = true)) b (List.getElem?_eq_some_iff.mp h).1 (mw_eqb_iff.mpr h))
theorem sh2_1 {b : Nat} (h : kdX[b]? = some (.inl (2, dsX2 b))) : kdX[(b + 2)]? = some (.inr (0, 12, 0, 0)) := mw_eqb_iff.mp ((by decide +kernel : ∀ b, b < 77 → (mw_eqb (kdX[b]?) (.inl (2, dsX2 b)) = true → mw_eqb (kdX[(b + 2)]?) (.inr (0, 12, 0, 0)) = true)) b (List.getElem?_eq_some_iff.mp h).1 (mw_eqb_iff.mpr h))
theorem sh2_2 {b : Nat} (h : kdX[b]? = some (.inl (2, dsX2 b))) : kdX[(b + 3)]? = some (.inr (0, 12, 0, 0)) := mw_eqb_iff.mp ((by decide +kernel : ∀ b, b < 77 → (mw_eqb (kdX[b]?) (.inl (2, dsX2 b)) = true → mw_eqb (kdX[(b + 3)]?) (.inr (0, 12, 0, 0)) = true)) b (List.getElem?_eq_some_iff.mp h).1 (mw_eqb_iff.mpr h))
theorem sh2_3 {b : Nat} (h : kdX[b]? = some (.inl (2, dsX2 b))) : kdX[(b + 4)]? = some (.inr (0, 12, 0, 0)) := mw_eqb_iff.mp ((by decide +kernel : ∀ b, b < 77 → (mw_eqb (kdX[b]?) (.inl (2, dsX2 b)) = true → mw_eqb (kdX[(b + 4)]?) (.inr (0, 12, 0, 0)) = true)) b (List.getElem?_eq_some_iff.mp h).1 (mw_eqb_iff.mpr h))
theorem sh3_0 {b : Nat} (h : kdX[b]? = some (.inl (3, dsX3 b))) : kdX[(b + 1)]? = some (.inr (0, 120, 0, 0)) := mw_eqb_iff.mp ((by decide +kernel : ∀ b, b < 77 → (mw_eqb (kdX[b]?) (.inl (3, dsX3 b)) = true → mw_eqb (kdX[(b + 1)]?) (.inr (0, 120, 0, 0)) = true)) b (List.getElem?_eq_some_iff.mp h).1 (mw_eqb_iff.mpr h))
theorem sh3_1 {b : Nat} (h : kdX[b]? = some (.inl (3, dsX3 b))) : kdX[(b + 2)]? = some (.inr (0, 120, 0, 0)) := mw_eqb_iff.mp ((by decide +kernel : ∀ b, b < 77 → (mw_eqb (kdX[b]?) (.inl (3, dsX3 b)) = true → mw_eqb (kdX[(b + 2)]?) (.inr (0, 120, 0, 0)) = true)) b (List.getElem?_eq_some_iff.mp h).1 (mw_eqb_iff.mpr h))
theorem sh4_0 : kdX[16]? = some (.inl (7, dsX7 16)) := rfl
theorem sh4_1 : kdX[18]? = some (.inr (2, 4, 20, 3)) := rfl
theorem el4_1 {j : Nat} (hj : j < 4) : kdX[(20 + 3 * j)]? = some (.inl (3, dsX3 (20 + 3 * j))) := mw_eqb_iff.mp ((by decide +kernel : ∀ j, j < 4 → mw_eqb (kdX[(20 + 3 * j)]?) (.inl (3, dsX3 (20 + 3 * j))) = true) j hj)
theorem sh4_2 : kdX[19]? = some (.inr (0, 9, 0, 0)) := rfl
theorem ob4 : kdX[15]? = some (.inl (4, dsX4 15)) := rfl
theorem sh5_5 : kdX[12]? = some (.inr (0, 4, 0, 0)) := rfl
theorem sh5_6 : kdX[13]? = some (.inr (0, 4, 0, 0)) := rfl
theorem sh5_7 : kdX[14]? = some (.inr (0, 4, 0, 0)) := rfl
theorem ob5 : kdX[11]? = some (.inl (5, dsX5 11)) := rfl
theorem sh6_0 : kdX[66]? = some (.inr (0, 6, 0, 0)) := rfl
theorem sh6_1 : kdX[67]? = some (.inr (0, 6, 0, 0)) := rfl
theorem sh6_2 : kdX[68]? = some (.inr (0, 6, 0, 0)) := rfl
theorem sh6_3 : kdX[69]? = some (.inr (0, 6, 0, 0)) := rfl
theorem sh6_4 : kdX[70]? = some (.inr (4, 6, 71, 1)) := rfl
theorem el6_4 {j : Nat} (hj : j < 6) : kdX[(71 + j)]? = some (.inr (1, 60, 0, 0)) := mw_eqb_iff.mp ((by decide +kernel : ∀ j, j < 6 → mw_eqb (kdX[(71 + j)]?) (.inr (1, 60, 0, 0)) = true) j hj)
theorem ob6 : kdX[65]? = some (.inl (6, dsX6 65)) := rfl
theorem sh7_0 : kdX[17]? = some (.inr (0, 120, 0, 0)) := rfl
theorem ob7 : kdX[16]? = some (.inl (7, dsX7 16)) := rfl
theorem sh8_0 : kdX[1]? = some (.inl (2, dsX2 1)) := rfl
theorem sh8_1 : kdX[11]? = some (.inl (5, dsX5 11)) := rfl
theorem sh8_2 : kdX[15]? = some (.inl (4, dsX4 15)) := rfl
theorem sh8_3 : kdX[45]? = some (.inl (2, dsX2 45)) := rfl
theorem sh8_4 : kdX[50]? = some (.inl (9, dsX9 50)) := rfl
theorem ob8 : kdX[44]? = some (.inl (8, dsX8 44)) := rfl
theorem sh9_0 {b : Nat} (h : kdX[b]? = some (.inl (9, dsX9 b))) : kdX[11]? = some (.inl (5, dsX5 11)) := mw_eqb_iff.mp ((by decide +kernel : ∀ b, b < 77 → (mw_eqb (kdX[b]?) (.inl (9, dsX9 b)) = true → mw_eqb (kdX[11]?) (.inl (5, dsX5 11)) = true)) b (List.getElem?_eq_some_iff.mp h).1 (mw_eqb_iff.mpr h))
theorem sh9_1 {b : Nat} (h : kdX[b]? = some (.inl (9, dsX9 b))) : kdX[15]? = some (.inl (4, dsX4 15)) := mw_eqb_iff.mp ((by decide +kernel : ∀ b, b < 77 → (mw_eqb (kdX[b]?) (.inl (9, dsX9 b)) = true → mw_eqb (kdX[15]?) (.inl (4, dsX4 15)) = true)) b (List.getElem?_eq_some_iff.mp h).1 (mw_eqb_iff.mpr h))
theorem sh9_2 {b : Nat} (h : kdX[b]? = some (.inl (9, dsX9 b))) : kdX[(b + 1)]? = some (.inl (2, dsX2 (b + 1))) := mw_eqb_iff.mp ((by decide +kernel : ∀ b, b < 77 → (mw_eqb (kdX[b]?) (.inl (9, dsX9 b)) = true → mw_eqb (kdX[(b + 1)]?) (.inl (2, dsX2 (b + 1))) = true)) b (List.getElem?_eq_some_iff.mp h).1 (mw_eqb_iff.mpr h))
theorem sh9_3 {b : Nat} (h : kdX[b]? = some (.inl (9, dsX9 b))) : kdX[(b + 6)]? = some (.inr (3, 5, (b + 7), 1)) := mw_eqb_iff.mp ((by decide +kernel : ∀ b, b < 77 → (mw_eqb (kdX[b]?) (.inl (9, dsX9 b)) = true → mw_eqb (kdX[(b + 6)]?) (.inr (3, 5, (b + 7), 1)) = true)) b (List.getElem?_eq_some_iff.mp h).1 (mw_eqb_iff.mpr h))
theorem el9_3 {b : Nat} (h : kdX[b]? = some (.inl (9, dsX9 b))) {j : Nat} (hj : j < 5) : kdX[((b + 7) + j)]? = some (.inr (0, 200, 0, 0)) := mw_eqb_iff.mp ((by decide +kernel : ∀ b, b < 77 → (mw_eqb (kdX[b]?) (.inl (9, dsX9 b)) = true → ∀ j, j < 5 → mw_eqb (kdX[((b + 7) + j)]?) (.inr (0, 200, 0, 0)) = true)) b (List.getElem?_eq_some_iff.mp h).1 (mw_eqb_iff.mpr h) j hj)
theorem sh10_0 : kdX[1]? = some (.inl (2, dsX2 1)) := rfl
theorem sh10_1 : kdX[6]? = some (.inl (1, dsX1 6)) := rfl
theorem sh10_2 : kdX[11]? = some (.inl (5, dsX5 11)) := rfl
theorem sh10_3 : kdX[15]? = some (.inl (4, dsX4 15)) := rfl
theorem sh10_4 : kdX[32]? = some (.inl (9, dsX9 32)) := rfl
theorem sh10_5 : kdX[44]? = some (.inl (8, dsX8 44)) := rfl
theorem sh10_6 : kdX[62]? = some (.inl (0, dsX0 62)) := rfl
theorem sh10_7 : kdX[65]? = some (.inl (6, dsX6 65)) := rfl
theorem ob10 : kdX[0]? = some (.inl (10, dsX10 0)) := rfl
theorem sh11_0 : kdM[1]? = some (.inr (0, 37, 0, 0)) := rfl
theorem sh11_1 : kdM[2]? = some (.inr (0, 40, 0, 0)) := rfl
theorem sh11_2 : kdM[3]? = some (.inr (0, 40, 0, 0)) := rfl
theorem sh11_3 : kdM[4]? = some (.inr (0, 40, 0, 0)) := rfl
theorem sh11_7 : kdM[5]? = some (.inr (0, 12, 0, 0)) := rfl
theorem sh11_8 : kdM[6]? = some (.inr (0, 5, 0, 0)) := rfl
theorem sh11_10 : kdM[7]? = some (.inr (0, 4, 0, 0)) := rfl
theorem sh11_11 : kdM[8]? = some (.inr (0, 4, 0, 0)) := rfl
theorem sh11_12 : kdM[9]? = some (.inr (0, 4, 0, 0)) := rfl
theorem sh11_13 : kdM[10]? = some (.inr (0, 120, 0, 0)) := rfl
theorem sh11_17 : kdM[11]? = some (.inr (0, 480, 0, 0)) := rfl
theorem sh11_18 : kdM[12]? = some (.inr (0, 4, 0, 0)) := rfl
theorem sh11_24 : kdM[13]? = some (.inr (0, 9, 0, 0)) := rfl
theorem sh11_26 : kdM[14]? = some (.inr (0, 37, 0, 0)) := rfl
theorem sh11_27 : kdM[15]? = some (.inr (0, 200, 0, 0)) := rfl
theorem sh11_28 : kdM[16]? = some (.inr (0, 200, 0, 0)) := rfl
theorem sh11_29 : kdM[17]? = some (.inr (0, 200, 0, 0)) := rfl
theorem sh11_30 : kdM[18]? = some (.inr (0, 200, 0, 0)) := rfl
theorem sh11_31 : kdM[19]? = some (.inr (0, 200, 0, 0)) := rfl
theorem sh11_32 : kdM[20]? = some (.inr (0, 200, 0, 0)) := rfl
theorem sh11_54 : kdM[21]? = some (.inr (0, 50, 0, 0)) := rfl
theorem sh11_55 : kdM[22]? = some (.inr (0, 24, 0, 0)) := rfl
theorem sh11_59 : kdM[23]? = some (.inr (0, 6, 0, 0)) := rfl
theorem sh11_60 : kdM[24]? = some (.inr (0, 6, 0, 0)) := rfl
theorem sh11_61 : kdM[25]? = some (.inr (1, 360, 0, 0)) := rfl
theorem sh11_62 : kdM[26]? = some (.inr (1, 60, 0, 0)) := rfl
theorem ob11 : kdM[0]? = some (.inl (11, dsX11 0)) := rfl
theorem law_pos {b : Nat} (h : kdX[b]? = some (.inl (3, dsX3 b))) : 0 < b ∧ b < 2 ^ 31 := by
  have h1 := (by decide +kernel : ∀ b, b < 77 → (mw_eqb (kdX[b]?) (.inl (3, dsX3 b)) = true → 0 < b ∧ b < 77)) b (List.getElem?_eq_some_iff.mp h).1 (mw_eqb_iff.mpr h)
  exact ⟨h1.1, by omega⟩
def mw_lawAt (v : Int32) : Prop := ¬ v = 0 ∧ kdX[v.toNatClampNeg]? = some (.inl (3, dsX3 v.toNatClampNeg))
theorem ob2_1 : kdX[1]? = some (.inl (2, dsX2 1)) := rfl
theorem ob2_33 : kdX[33]? = some (.inl (2, dsX2 33)) := rfl
theorem ob2_45 : kdX[45]? = some (.inl (2, dsX2 45)) := rfl
theorem ob2_51 : kdX[51]? = some (.inl (2, dsX2 51)) := rfl
theorem ob9_32 : kdX[32]? = some (.inl (9, dsX9 32)) := rfl
theorem ob9_50 : kdX[50]? = some (.inl (9, dsX9 50)) := rfl
