/-! the loop of the law -/
theorem and63 (x : Int32) : ∃ n : Nat, n < 64 ∧ x &&& 63 = nI n := by
  refine ⟨(x.toBitVec &&& 63#32).toNat, ?_, ?_⟩
  · rw [BitVec.toNat_and]
    exact Nat.lt_of_le_of_lt Nat.and_le_right (by decide)
  · have h : (x.toBitVec &&& 63#32).toNat < 64 := by
      rw [BitVec.toNat_and]
      exact Nat.lt_of_le_of_lt Nat.and_le_right (by decide)
    refine nI_of_toInt ?_
    show ((x &&& 63).toBitVec).toInt = _
    rw [Int32.toBitVec_and, show (63 : Int32).toBitVec = 63#32 from rfl, BitVec.toInt_eq_toNat_of_lt (by omega)]
theorem li_gt {L i : Nat} (hL : L ≤ 3072) (hi : i ≤ 4000) : nI L - 6 < nI i ↔ L < i + 6 := by
  rw [zlt, Int32.toInt_sub, nI_toInt (by omega), nI_toInt (by omega), show (6 : Int32).toInt = 6 from rfl, bmE (by omega) (by omega)]
  omega
theorem l_switch {p : Program} {l : Launch} {e : Env} {s : State} {m : MethodId} {args : Array Value} {below : List Frame} {meth : Method} {c : Code} {Q : State → Prop} {cs ss : Nat} {Γ : lg_G} {b L : Nat} {xs : Nat → Int32} (hC : lC p room_1 s m args c Γ cs ss b L xs cL_law 4 RL) (hL : L ≤ 3072) {i : Nat} {a μ : mw_M} (hi : i + 6 ≤ L) (h : RR a μ) (K : ∀ a' μ', RR a' μ' → lW p l e room_1 s m args below meth c Γ 4 Q cs ss 1364 [(3, .int (nI i)), (2, .ref (mw_a (lGM Γ) 0)), (1, .ref (mw_a (lGX Γ) 0)), (0, .ref b)] [] a' μ') (x : Int32) : lW p l e room_1 s m args below meth c Γ 4 Q cs ss 33 [(3, .int (nI i)), (2, .ref (mw_a (lGM Γ) 0)), (1, .ref (mw_a (lGX Γ) 0)), (0, .ref b)] [.int (x &&& 63)] a μ := by
  obtain ⟨n, hn, e⟩ := and63 x
  rw [e]
  by_cases h35 : n < 35
  · rcases (show n = 0 ∨ n = 1 ∨ n = 2 ∨ n = 3 ∨ n = 4 ∨ n = 5 ∨ n = 6 ∨ n = 7 ∨ n = 8 ∨ n = 9 ∨ n = 10 ∨ n = 11 ∨ n = 12 ∨ n = 13 ∨ n = 14 ∨ n = 15 ∨ n = 16 ∨ n = 17 ∨ n = 18 ∨ n = 19 ∨ n = 20 ∨ n = 21 ∨ n = 22 ∨ n = 23 ∨ n = 24 ∨ n = 25 ∨ n = 26 ∨ n = 27 ∨ n = 28 ∨ n = 29 ∨ n = 30 ∨ n = 31 ∨ n = 32 ∨ n = 33 ∨ n = 34 by omega) with rfl | rfl | rfl | rfl | rfl | rfl | rfl | rfl | rfl | rfl | rfl | rfl | rfl | rfl | rfl | rfl | rfl | rfl | rfl | rfl | rfl | rfl | rfl | rfl | rfl | rfl | rfl | rfl | rfl | rfl | rfl | rfl | rfl | rfl | rfl
    · exact l_tin hC (off := 155) 188 dL_law_33 (by decide +kernel) (by decide +kernel) (by decide +kernel) (by decide) (lc_0 hC hL hi h K)
    · exact l_tin hC (off := 188) 221 dL_law_33 (by decide +kernel) (by decide +kernel) (by decide +kernel) (by decide) (lc_1 hC hL hi h K)
    · exact l_tin hC (off := 231) 264 dL_law_33 (by decide +kernel) (by decide +kernel) (by decide +kernel) (by decide) (lc_2 hC hL hi h K)
    · exact l_tin hC (off := 274) 307 dL_law_33 (by decide +kernel) (by decide +kernel) (by decide +kernel) (by decide) (lc_3 hC hL hi h K)
    · exact l_tin hC (off := 307) 340 dL_law_33 (by decide +kernel) (by decide +kernel) (by decide +kernel) (by decide) (lc_4 hC hL hi h K)
    · exact l_tin hC (off := 330) 363 dL_law_33 (by decide +kernel) (by decide +kernel) (by decide +kernel) (by decide) (lc_5 hC hL hi h K)
    · exact l_tin hC (off := 363) 396 dL_law_33 (by decide +kernel) (by decide +kernel) (by decide +kernel) (by decide) (lc_6 hC hL hi h K)
    · exact l_tin hC (off := 396) 429 dL_law_33 (by decide +kernel) (by decide +kernel) (by decide +kernel) (by decide) (lc_7 hC hL hi h K)
    · exact l_tin hC (off := 419) 452 dL_law_33 (by decide +kernel) (by decide +kernel) (by decide +kernel) (by decide) (lc_8 hC hL hi h K)
    · exact l_tin hC (off := 442) 475 dL_law_33 (by decide +kernel) (by decide +kernel) (by decide +kernel) (by decide) (lc_9 hC hL hi h K)
    · exact l_tin hC (off := 475) 508 dL_law_33 (by decide +kernel) (by decide +kernel) (by decide +kernel) (by decide) (lc_10 hC hL hi h K)
    · exact l_tin hC (off := 488) 521 dL_law_33 (by decide +kernel) (by decide +kernel) (by decide +kernel) (by decide) (lc_11 hC hL hi h K)
    · exact l_tin hC (off := 511) 544 dL_law_33 (by decide +kernel) (by decide +kernel) (by decide +kernel) (by decide) (lc_12 hC hL hi h K)
    · exact l_tin hC (off := 564) 597 dL_law_33 (by decide +kernel) (by decide +kernel) (by decide +kernel) (by decide) (lc_13 hC hL hi h K)
    · exact l_tin hC (off := 597) 630 dL_law_33 (by decide +kernel) (by decide +kernel) (by decide +kernel) (by decide) (lc_14 hC hL hi h K)
    · exact l_tin hC (off := 620) 653 dL_law_33 (by decide +kernel) (by decide +kernel) (by decide +kernel) (by decide) (lc_15 hC hL hi h K)
    · exact l_tin hC (off := 643) 676 dL_law_33 (by decide +kernel) (by decide +kernel) (by decide +kernel) (by decide) (lc_16 hC hL hi h K)
    · exact l_tin hC (off := 676) 709 dL_law_33 (by decide +kernel) (by decide +kernel) (by decide +kernel) (by decide) (lc_17 hC hL hi h K)
    · exact l_tin hC (off := 699) 732 dL_law_33 (by decide +kernel) (by decide +kernel) (by decide +kernel) (by decide) (lc_18 hC hL hi h K)
    · exact l_tin hC (off := 742) 775 dL_law_33 (by decide +kernel) (by decide +kernel) (by decide +kernel) (by decide) (lc_19 hC hL hi h K)
    · exact l_tin hC (off := 795) 828 dL_law_33 (by decide +kernel) (by decide +kernel) (by decide +kernel) (by decide) (lc_20 hC hL hi h K)
    · exact l_tin hC (off := 838) 871 dL_law_33 (by decide +kernel) (by decide +kernel) (by decide +kernel) (by decide) (lc_21 hC hL hi h K)
    · exact l_tin hC (off := 881) 914 dL_law_33 (by decide +kernel) (by decide +kernel) (by decide +kernel) (by decide) (lc_22 hC hL hi h K)
    · exact l_tin hC (off := 914) 947 dL_law_33 (by decide +kernel) (by decide +kernel) (by decide +kernel) (by decide) (lc_23 hC hL hi h K)
    · exact l_tin hC (off := 927) 960 dL_law_33 (by decide +kernel) (by decide +kernel) (by decide +kernel) (by decide) (lc_24 hC hL hi h K)
    · exact l_tin hC (off := 940) 973 dL_law_33 (by decide +kernel) (by decide +kernel) (by decide +kernel) (by decide) (lc_25 hC hL hi h K)
    · exact l_tin hC (off := 963) 996 dL_law_33 (by decide +kernel) (by decide +kernel) (by decide +kernel) (by decide) (lc_26 hC hL hi h K)
    · exact l_tin hC (off := 1006) 1039 dL_law_33 (by decide +kernel) (by decide +kernel) (by decide +kernel) (by decide) (lc_27 hC hL hi h K)
    · exact l_tin hC (off := 1029) 1062 dL_law_33 (by decide +kernel) (by decide +kernel) (by decide +kernel) (by decide) (lc_28 hC hL hi h K)
    · exact l_tin hC (off := 1062) 1095 dL_law_33 (by decide +kernel) (by decide +kernel) (by decide +kernel) (by decide) (lc_29 hC hL hi h K)
    · exact l_tin hC (off := 1105) 1138 dL_law_33 (by decide +kernel) (by decide +kernel) (by decide +kernel) (by decide) (lc_30 hC hL hi h K)
    · exact l_tin hC (off := 1178) 1211 dL_law_33 (by decide +kernel) (by decide +kernel) (by decide +kernel) (by decide) (lc_31 hC hL hi h K)
    · exact l_tin hC (off := 1212) 1245 dL_law_33 (by decide +kernel) (by decide +kernel) (by decide +kernel) (by decide) (lc_32 hC hL hi h K)
    · exact l_tin hC (off := 1275) 1308 dL_law_33 (by decide +kernel) (by decide +kernel) (by decide +kernel) (by decide) (lc_33 hC hL hi h K)
    · exact l_tin hC (off := 1308) 1341 dL_law_33 (by decide +kernel) (by decide +kernel) (by decide +kernel) (by decide) (lc_34 hC hL hi h K)
  · exact l_tout hC 1364 dL_law_33 (Or.inr (by rw [nI_toInt (by omega)]; omega)) (by decide) (K _ _ h)
theorem l_loop {p : Program} {l : Launch} {e : Env} {s : State} {m : MethodId} {args : Array Value} {below : List Frame} {meth : Method} {c : Code} {Q : State → Prop} {cs ss : Nat} {Γ : lg_G} {b L : Nat} {xs : Nat → Int32} (hC : lC p room_1 s m args c Γ cs ss b L xs cL_law 4 RL) (hL : L ≤ 3072) (END : ∀ (i : Nat) (a μ : mw_M), lW p l e room_1 s m args below meth c Γ 4 Q cs ss 1370 [(3, .int (nI i)), (2, .ref (mw_a (lGM Γ) 0)), (1, .ref (mw_a (lGX Γ) 0)), (0, .ref b)] [] a μ) : ∀ (n i : Nat) (a μ : mw_M), i ≤ L → L < i + 6 + n → RR a μ → lW p l e room_1 s m args below meth c Γ 4 Q cs ss 18 [(3, .int (nI i)), (2, .ref (mw_a (lGM Γ) 0)), (1, .ref (mw_a (lGX Γ) 0)), (0, .ref b)] [] a μ := by
  intro n
  induction n with
  | zero =>
    intro i a μ hi hn h
    refine l_iload_n hC 0 dL_law_18 rfl rfl ?_
    refine l_aload_n hC 3 dL_law_19 rfl rfl ?_
    refine l_slen hC dL_law_20 ?_
    refine l_bipush hC 6 dL_law_21 (by decide) ?_
    refine l_isub hC dL_law_23 ?_
    exact l_icmp_gt hC 1370 dL_law_24 (by decide) (fun _ => END i a μ) (fun q => absurd ((li_gt hL (by omega)).mpr (by omega)) q)
  | succ n ih =>
    intro i a μ hi hn h
    refine l_iload_n hC 0 dL_law_18 rfl rfl ?_
    refine l_aload_n hC 3 dL_law_19 rfl rfl ?_
    refine l_slen hC dL_law_20 ?_
    refine l_bipush hC 6 dL_law_21 (by decide) ?_
    refine l_isub hC dL_law_23 ?_
    refine l_icmp_gt hC 1370 dL_law_24 (by decide) (fun _ => END i a μ) (fun q => ?_)
    have hi6 : i + 6 ≤ L := Nat.not_lt.mp (fun z => q ((li_gt hL (by omega)).mpr z))
    refine l_aload_n hC 3 dL_law_27 rfl rfl ?_
    refine l_iload_n hC 0 dL_law_28 rfl rfl ?_
    refine l_sld hC i rfl (by omega) hL dL_law_29 ?_
    refine l_bipush hC 63 dL_law_30 (by decide) ?_
    refine l_iand hC dL_law_32 ?_
    refine l_switch hC hL hi6 h (fun a' μ' h' => ?_) (xs i)
    refine l_iinc hC (nI (i + 6)) 0 [(3, .int (nI (i + 6))), (2, .ref (mw_a (lGM Γ) 0)), (1, .ref (mw_a (lGX Γ) 0)), (0, .ref b)] dL_law_1364 rfl (nI_add i 6) (by decide) rfl ?_
    refine l_goto hC 18 dL_law_1367 (by decide) ?_
    exact ih (i + 6) a' μ' hi6 (by omega) h'
