/-! the constructor of the class -/
set_option maxHeartbeats 4000000 in
set_option maxRecDepth 20000 in
theorem I10 {l : Launch} {D : va_G} {T : Nat → ClassId} : nM (S := SMW) l D T yX10_init cX10_init 1 4 77 76 4051 [] 10 [.null, .null, .null, .null, .null, .null, .null, .null] (fun α => α.1) (bMW T) := by
  refine n_enter RX10 (fun h0 => [(0, .ref h0)]) (by decide) rfl rfl (fun _ => Nat.le_of_ble_eq_true rfl) (fun _ => rfl) ?_
  intro p e s m args below meth c h0 hC
  refine n_aload_n hC 0 dX10_init_0 rfl rfl ?_
  refine n_objInit hC oi10_1 (Nat.le_of_ble_eq_true rfl) (Nat.le_of_ble_eq_true rfl) dX10_init_1 ?_
  refine n_aload_n hC 0 dX10_init_4 rfl rfl ?_
  refine n_new (ci := 2) (fs := [.null, .null, .null, .null, .int 0, .int 0]) hC rfl inX2 tyX2_ok nw10_7 (fun j hj => by rcases (show j = 0 ∨ j = 1 ∨ j = 2 ∨ j = 3 ∨ j = 4 ∨ j = 5 by omega) with rfl | rfl | rfl | rfl | rfl | rfl <;> rfl) (Nat.le_of_ble_eq_true rfl) (Nat.le_of_ble_eq_true rfl) dX10_init_5 (fun q1 => ?_)
  refine n_eq (W1 := (h0, .inr (10, [.null, .null, .null, .null, .null, .null, .null, .null])) :: ([] ++ [(q1, .inr (2, [.null, .null, .null, .null, .int 0, .int 0]))])) rfl ?_
  refine n_dup hC dX10_init_8 rfl ?_
  refine n_eq (W1 := ((h0, .inr (10, [.null, .null, .null, .null, .null, .null, .null, .null])) :: []) ++ [(q1, .inr (2, [.null, .null, .null, .null, .int 0, .int 0]))]) rfl ?_
  refine n_call hC (I2 (l := l) (D := D) (T := T)) iy2 mi10_9 ⟨Nat.le_of_ble_eq_true rfl, Nat.le_of_ble_eq_true rfl⟩ rfl (vs := []) rfl (Nat.le_of_ble_eq_true rfl) dX10_init_9 (by exact ⟨Nat.le_of_ble_eq_true rfl, Nat.le_of_ble_eq_true rfl⟩) (fun α2 eα2 => ?_)
  have eα2 : α2 0 = q1 := eα2
  subst eα2
  refine n_eq (W1 := (h0, .inr (10, [.null, .null, .null, .null, .null, .null, .null, .null])) :: ([] ++ bDrum T α2)) rfl ?_
  refine n_put hC fl10_10 (fun _ _ _ h => by cases h; rfl) rfl rfl (Nat.le_of_ble_eq_true rfl) dX10_init_12 ?_
  refine n_eq (W1 := (h0, .inr (10, [.ref (α2 0), .null, .null, .null, .null, .null, .null, .null])) :: ([] ++ bDrum T α2)) rfl ?_
  refine n_aload_n hC 0 dX10_init_15 rfl rfl ?_
  refine n_new (ci := 1) (fs := [.null, .null, .null, .null, .null, .int 0, .int 0]) hC rfl inX1 tyX1_ok nw10_16 (fun j hj => by rcases (show j = 0 ∨ j = 1 ∨ j = 2 ∨ j = 3 ∨ j = 4 ∨ j = 5 ∨ j = 6 by omega) with rfl | rfl | rfl | rfl | rfl | rfl | rfl <;> rfl) (Nat.le_of_ble_eq_true rfl) (Nat.le_of_ble_eq_true rfl) dX10_init_16 (fun q3 => ?_)
  refine n_eq (W1 := (h0, .inr (10, [.ref (α2 0), .null, .null, .null, .null, .null, .null, .null])) :: (([] ++ bDrum T α2) ++ [(q3, .inr (1, [.null, .null, .null, .null, .null, .int 0, .int 0]))])) rfl ?_
  refine n_dup hC dX10_init_19 rfl ?_
  refine n_aload_n hC 0 dX10_init_20 rfl rfl ?_
  refine n_get (v := .ref (α2 0)) hC fl10_10 rfl dX10_init_21 ?_
  refine n_eq (W1 := ((h0, .inr (10, [.ref (α2 0), .null, .null, .null, .null, .null, .null, .null])) :: ([] ++ bDrum T α2)) ++ [(q3, .inr (1, [.null, .null, .null, .null, .null, .int 0, .int 0]))]) rfl ?_
  refine n_call hC (I1 (l := l) (D := D) (T := T) (a1 := (α2 0))) iy1 mi10_18 ⟨Nat.le_of_ble_eq_true rfl, Nat.le_of_ble_eq_true rfl⟩ rfl (vs := [.ref (α2 0)]) rfl (Nat.le_of_ble_eq_true rfl) dX10_init_24 (by exact ⟨Nat.le_of_ble_eq_true rfl, Nat.le_of_ble_eq_true rfl⟩) (fun α4 eα4 => ?_)
  have eα4 : α4 0 = q3 := eα4
  subst eα4
  refine n_eq (W1 := (h0, .inr (10, [.ref (α2 0), .null, .null, .null, .null, .null, .null, .null])) :: (([] ++ bDrum T α2) ++ bChg T (α2 0) α4)) rfl ?_
  refine n_put hC fl10_21 (fun _ _ _ h => by cases h; rfl) rfl rfl (Nat.le_of_ble_eq_true rfl) dX10_init_27 ?_
  refine n_eq (W1 := (h0, .inr (10, [.ref (α2 0), .ref (α4 0), .null, .null, .null, .null, .null, .null])) :: (([] ++ bDrum T α2) ++ bChg T (α2 0) α4)) rfl ?_
  refine n_aload_n hC 0 dX10_init_30 rfl rfl ?_
  refine n_new (ci := 5) (fs := [.int 0, .int 0, .int 0, .int 0, .int 0, .null, .null, .null, .int 0]) hC rfl inX5 tyX5_ok nw10_25 (fun j hj => by rcases (show j = 0 ∨ j = 1 ∨ j = 2 ∨ j = 3 ∨ j = 4 ∨ j = 5 ∨ j = 6 ∨ j = 7 ∨ j = 8 by omega) with rfl | rfl | rfl | rfl | rfl | rfl | rfl | rfl | rfl <;> rfl) (Nat.le_of_ble_eq_true rfl) (Nat.le_of_ble_eq_true rfl) dX10_init_31 (fun q5 => ?_)
  refine n_eq (W1 := (h0, .inr (10, [.ref (α2 0), .ref (α4 0), .null, .null, .null, .null, .null, .null])) :: ((([] ++ bDrum T α2) ++ bChg T (α2 0) α4) ++ [(q5, .inr (5, [.int 0, .int 0, .int 0, .int 0, .int 0, .null, .null, .null, .int 0]))])) rfl ?_
  refine n_dup hC dX10_init_34 rfl ?_
  refine n_eq (W1 := ((h0, .inr (10, [.ref (α2 0), .ref (α4 0), .null, .null, .null, .null, .null, .null])) :: (([] ++ bDrum T α2) ++ bChg T (α2 0) α4)) ++ [(q5, .inr (5, [.int 0, .int 0, .int 0, .int 0, .int 0, .null, .null, .null, .int 0]))]) rfl ?_
  refine n_call hC (I5 (l := l) (D := D) (T := T)) iy5 mi10_27 ⟨Nat.le_of_ble_eq_true rfl, Nat.le_of_ble_eq_true rfl⟩ rfl (vs := []) rfl (Nat.le_of_ble_eq_true rfl) dX10_init_35 (by exact ⟨Nat.le_of_ble_eq_true rfl, Nat.le_of_ble_eq_true rfl⟩) (fun α6 eα6 => ?_)
  have eα6 : α6 0 = q5 := eα6
  subst eα6
  refine n_eq (W1 := (h0, .inr (10, [.ref (α2 0), .ref (α4 0), .null, .null, .null, .null, .null, .null])) :: ((([] ++ bDrum T α2) ++ bChg T (α2 0) α4) ++ bMach T α6)) rfl ?_
  refine n_put hC fl10_28 (fun _ _ _ h => by cases h; rfl) rfl rfl (Nat.le_of_ble_eq_true rfl) dX10_init_38 ?_
  refine n_eq (W1 := (h0, .inr (10, [.ref (α2 0), .ref (α4 0), .ref (α6 0), .null, .null, .null, .null, .null])) :: ((([] ++ bDrum T α2) ++ bChg T (α2 0) α4) ++ bMach T α6)) rfl ?_
  refine n_aload_n hC 0 dX10_init_41 rfl rfl ?_
  refine n_new (ci := 4) (fs := [.null, .null, .null, .int 0, .int 0]) hC rfl inX4 tyX4_ok nw10_32 (fun j hj => by rcases (show j = 0 ∨ j = 1 ∨ j = 2 ∨ j = 3 ∨ j = 4 by omega) with rfl | rfl | rfl | rfl | rfl <;> rfl) (Nat.le_of_ble_eq_true rfl) (Nat.le_of_ble_eq_true rfl) dX10_init_42 (fun q7 => ?_)
  refine n_eq (W1 := (h0, .inr (10, [.ref (α2 0), .ref (α4 0), .ref (α6 0), .null, .null, .null, .null, .null])) :: (((([] ++ bDrum T α2) ++ bChg T (α2 0) α4) ++ bMach T α6) ++ [(q7, .inr (4, [.null, .null, .null, .int 0, .int 0]))])) rfl ?_
  refine n_dup hC dX10_init_45 rfl ?_
  refine n_eq (W1 := ((h0, .inr (10, [.ref (α2 0), .ref (α4 0), .ref (α6 0), .null, .null, .null, .null, .null])) :: ((([] ++ bDrum T α2) ++ bChg T (α2 0) α4) ++ bMach T α6)) ++ [(q7, .inr (4, [.null, .null, .null, .int 0, .int 0]))]) rfl ?_
  refine n_call hC (I4 (l := l) (D := D) (T := T)) iy4 mi10_34 ⟨Nat.le_of_ble_eq_true rfl, Nat.le_of_ble_eq_true rfl⟩ rfl (vs := []) rfl (Nat.le_of_ble_eq_true rfl) dX10_init_46 (by exact ⟨Nat.le_of_ble_eq_true rfl, Nat.le_of_ble_eq_true rfl⟩) (fun α8 eα8 => ?_)
  have eα8 : α8 0 = q7 := eα8
  subst eα8
  refine n_eq (W1 := (h0, .inr (10, [.ref (α2 0), .ref (α4 0), .ref (α6 0), .null, .null, .null, .null, .null])) :: (((([] ++ bDrum T α2) ++ bChg T (α2 0) α4) ++ bMach T α6) ++ bLaws T α8)) rfl ?_
  refine n_put hC fl10_35 (fun _ _ _ h => by cases h; rfl) rfl rfl (Nat.le_of_ble_eq_true rfl) dX10_init_49 ?_
  refine n_eq (W1 := (h0, .inr (10, [.ref (α2 0), .ref (α4 0), .ref (α6 0), .ref (α8 0), .null, .null, .null, .null])) :: (((([] ++ bDrum T α2) ++ bChg T (α2 0) α4) ++ bMach T α6) ++ bLaws T α8)) rfl ?_
  refine n_aload_n hC 0 dX10_init_52 rfl rfl ?_
  refine n_new (ci := 9) (fs := [.null, .null, .null, .null, .int 0, .int 0, .int 0, .int 0, .int 0, .int 0, .int 0, .int 0, .int 0, .int 0, .int 0, .int 0, .int 0]) hC rfl inX9 tyX9_ok nw10_39 (fun j hj => by rcases (show j = 0 ∨ j = 1 ∨ j = 2 ∨ j = 3 ∨ j = 4 ∨ j = 5 ∨ j = 6 ∨ j = 7 ∨ j = 8 ∨ j = 9 ∨ j = 10 ∨ j = 11 ∨ j = 12 ∨ j = 13 ∨ j = 14 ∨ j = 15 ∨ j = 16 by omega) with rfl | rfl | rfl | rfl | rfl | rfl | rfl | rfl | rfl | rfl | rfl | rfl | rfl | rfl | rfl | rfl | rfl <;> rfl) (Nat.le_of_ble_eq_true rfl) (Nat.le_of_ble_eq_true rfl) dX10_init_53 (fun q9 => ?_)
  refine n_eq (W1 := (h0, .inr (10, [.ref (α2 0), .ref (α4 0), .ref (α6 0), .ref (α8 0), .null, .null, .null, .null])) :: ((((([] ++ bDrum T α2) ++ bChg T (α2 0) α4) ++ bMach T α6) ++ bLaws T α8) ++ [(q9, .inr (9, [.null, .null, .null, .null, .int 0, .int 0, .int 0, .int 0, .int 0, .int 0, .int 0, .int 0, .int 0, .int 0, .int 0, .int 0, .int 0]))])) rfl ?_
  refine n_dup hC dX10_init_56 rfl ?_
  refine n_aload_n hC 0 dX10_init_57 rfl rfl ?_
  refine n_get (v := .ref (α6 0)) hC fl10_28 rfl dX10_init_58 ?_
  refine n_aload_n hC 0 dX10_init_61 rfl rfl ?_
  refine n_get (v := .ref (α8 0)) hC fl10_35 rfl dX10_init_62 ?_
  refine n_eq (W1 := ((h0, .inr (10, [.ref (α2 0), .ref (α4 0), .ref (α6 0), .ref (α8 0), .null, .null, .null, .null])) :: (((([] ++ bDrum T α2) ++ bChg T (α2 0) α4) ++ bMach T α6) ++ bLaws T α8)) ++ [(q9, .inr (9, [.null, .null, .null, .null, .int 0, .int 0, .int 0, .int 0, .int 0, .int 0, .int 0, .int 0, .int 0, .int 0, .int 0, .int 0, .int 0]))]) rfl ?_
  refine n_call hC (I9 (l := l) (D := D) (T := T) (a1 := (α6 0)) (a2 := (α8 0))) iy9 mi10_41 ⟨Nat.le_of_ble_eq_true rfl, Nat.le_of_ble_eq_true rfl⟩ rfl (vs := [.ref (α6 0), .ref (α8 0)]) rfl (Nat.le_of_ble_eq_true rfl) dX10_init_65 (by exact ⟨Nat.le_of_ble_eq_true rfl, Nat.le_of_ble_eq_true rfl⟩) (fun α10 eα10 => ?_)
  have eα10 : α10 0 = q9 := eα10
  subst eα10
  refine n_eq (W1 := (h0, .inr (10, [.ref (α2 0), .ref (α4 0), .ref (α6 0), .ref (α8 0), .null, .null, .null, .null])) :: ((((([] ++ bDrum T α2) ++ bChg T (α2 0) α4) ++ bMach T α6) ++ bLaws T α8) ++ bWalk T (α6 0) (α8 0) α10)) rfl ?_
  refine n_put hC fl10_44 (fun _ _ _ h => by cases h; rfl) rfl rfl (Nat.le_of_ble_eq_true rfl) dX10_init_68 ?_
  refine n_eq (W1 := (h0, .inr (10, [.ref (α2 0), .ref (α4 0), .ref (α6 0), .ref (α8 0), .ref (α10 0), .null, .null, .null])) :: ((((([] ++ bDrum T α2) ++ bChg T (α2 0) α4) ++ bMach T α6) ++ bLaws T α8) ++ bWalk T (α6 0) (α8 0) α10)) rfl ?_
  refine n_aload_n hC 0 dX10_init_71 rfl rfl ?_
  refine n_new (ci := 8) (fs := [.null, .null, .null, .null, .null, .int 0, .int 0, .int 0, .int 0, .int 0]) hC rfl inX8 tyX8_ok nw10_48 (fun j hj => by rcases (show j = 0 ∨ j = 1 ∨ j = 2 ∨ j = 3 ∨ j = 4 ∨ j = 5 ∨ j = 6 ∨ j = 7 ∨ j = 8 ∨ j = 9 by omega) with rfl | rfl | rfl | rfl | rfl | rfl | rfl | rfl | rfl | rfl <;> rfl) (Nat.le_of_ble_eq_true rfl) (Nat.le_of_ble_eq_true rfl) dX10_init_72 (fun q11 => ?_)
  refine n_eq (W1 := (h0, .inr (10, [.ref (α2 0), .ref (α4 0), .ref (α6 0), .ref (α8 0), .ref (α10 0), .null, .null, .null])) :: (((((([] ++ bDrum T α2) ++ bChg T (α2 0) α4) ++ bMach T α6) ++ bLaws T α8) ++ bWalk T (α6 0) (α8 0) α10) ++ [(q11, .inr (8, [.null, .null, .null, .null, .null, .int 0, .int 0, .int 0, .int 0, .int 0]))])) rfl ?_
  refine n_dup hC dX10_init_75 rfl ?_
  refine n_aload_n hC 0 dX10_init_76 rfl rfl ?_
  refine n_get (v := .ref (α2 0)) hC fl10_10 rfl dX10_init_77 ?_
  refine n_aload_n hC 0 dX10_init_80 rfl rfl ?_
  refine n_get (v := .ref (α6 0)) hC fl10_28 rfl dX10_init_81 ?_
  refine n_aload_n hC 0 dX10_init_84 rfl rfl ?_
  refine n_get (v := .ref (α8 0)) hC fl10_35 rfl dX10_init_85 ?_
  refine n_eq (W1 := ((h0, .inr (10, [.ref (α2 0), .ref (α4 0), .ref (α6 0), .ref (α8 0), .ref (α10 0), .null, .null, .null])) :: ((((([] ++ bDrum T α2) ++ bChg T (α2 0) α4) ++ bMach T α6) ++ bLaws T α8) ++ bWalk T (α6 0) (α8 0) α10)) ++ [(q11, .inr (8, [.null, .null, .null, .null, .null, .int 0, .int 0, .int 0, .int 0, .int 0]))]) rfl ?_
  refine n_call hC (I8 (l := l) (D := D) (T := T) (a1 := (α2 0)) (a2 := (α6 0)) (a3 := (α8 0))) iy8 mi10_50 ⟨Nat.le_of_ble_eq_true rfl, Nat.le_of_ble_eq_true rfl⟩ rfl (vs := [.ref (α2 0), .ref (α6 0), .ref (α8 0)]) rfl (Nat.le_of_ble_eq_true rfl) dX10_init_88 (by exact ⟨Nat.le_of_ble_eq_true rfl, Nat.le_of_ble_eq_true rfl⟩) (fun α12 eα12 => ?_)
  have eα12 : α12.1 = q11 := eα12
  subst eα12
  refine n_eq (W1 := (h0, .inr (10, [.ref (α2 0), .ref (α4 0), .ref (α6 0), .ref (α8 0), .ref (α10 0), .null, .null, .null])) :: (((((([] ++ bDrum T α2) ++ bChg T (α2 0) α4) ++ bMach T α6) ++ bLaws T α8) ++ bWalk T (α6 0) (α8 0) α10) ++ bThink T (α2 0) (α6 0) (α8 0) α12)) rfl ?_
  refine n_put hC fl10_53 (fun _ _ _ h => by cases h; rfl) rfl rfl (Nat.le_of_ble_eq_true rfl) dX10_init_91 ?_
  refine n_eq (W1 := (h0, .inr (10, [.ref (α2 0), .ref (α4 0), .ref (α6 0), .ref (α8 0), .ref (α10 0), .ref (α12.1), .null, .null])) :: (((((([] ++ bDrum T α2) ++ bChg T (α2 0) α4) ++ bMach T α6) ++ bLaws T α8) ++ bWalk T (α6 0) (α8 0) α10) ++ bThink T (α2 0) (α6 0) (α8 0) α12)) rfl ?_
  refine n_aload_n hC 0 dX10_init_94 rfl rfl ?_
  refine n_new (ci := 0) (fs := [.null, .null, .int 0, .int 0, .int 0, .int 0]) hC rfl inX0 tyX0_ok nw10_57 (fun j hj => by rcases (show j = 0 ∨ j = 1 ∨ j = 2 ∨ j = 3 ∨ j = 4 ∨ j = 5 by omega) with rfl | rfl | rfl | rfl | rfl | rfl <;> rfl) (Nat.le_of_ble_eq_true rfl) (Nat.le_of_ble_eq_true rfl) dX10_init_95 (fun q13 => ?_)
  refine n_eq (W1 := (h0, .inr (10, [.ref (α2 0), .ref (α4 0), .ref (α6 0), .ref (α8 0), .ref (α10 0), .ref (α12.1), .null, .null])) :: ((((((([] ++ bDrum T α2) ++ bChg T (α2 0) α4) ++ bMach T α6) ++ bLaws T α8) ++ bWalk T (α6 0) (α8 0) α10) ++ bThink T (α2 0) (α6 0) (α8 0) α12) ++ [(q13, .inr (0, [.null, .null, .int 0, .int 0, .int 0, .int 0]))])) rfl ?_
  refine n_dup hC dX10_init_98 rfl ?_
  refine n_eq (W1 := ((h0, .inr (10, [.ref (α2 0), .ref (α4 0), .ref (α6 0), .ref (α8 0), .ref (α10 0), .ref (α12.1), .null, .null])) :: (((((([] ++ bDrum T α2) ++ bChg T (α2 0) α4) ++ bMach T α6) ++ bLaws T α8) ++ bWalk T (α6 0) (α8 0) α10) ++ bThink T (α2 0) (α6 0) (α8 0) α12)) ++ [(q13, .inr (0, [.null, .null, .int 0, .int 0, .int 0, .int 0]))]) rfl ?_
  refine n_call hC (I0 (l := l) (D := D) (T := T)) iy0 mi10_59 ⟨Nat.le_of_ble_eq_true rfl, Nat.le_of_ble_eq_true rfl⟩ rfl (vs := []) rfl (Nat.le_of_ble_eq_true rfl) dX10_init_99 (by exact ⟨Nat.le_of_ble_eq_true rfl, Nat.le_of_ble_eq_true rfl⟩) (fun α14 eα14 => ?_)
  have eα14 : α14 0 = q13 := eα14
  subst eα14
  refine n_eq (W1 := (h0, .inr (10, [.ref (α2 0), .ref (α4 0), .ref (α6 0), .ref (α8 0), .ref (α10 0), .ref (α12.1), .null, .null])) :: ((((((([] ++ bDrum T α2) ++ bChg T (α2 0) α4) ++ bMach T α6) ++ bLaws T α8) ++ bWalk T (α6 0) (α8 0) α10) ++ bThink T (α2 0) (α6 0) (α8 0) α12) ++ bActs T α14)) rfl ?_
  refine n_put hC fl10_60 (fun _ _ _ h => by cases h; rfl) rfl rfl (Nat.le_of_ble_eq_true rfl) dX10_init_102 ?_
  refine n_eq (W1 := (h0, .inr (10, [.ref (α2 0), .ref (α4 0), .ref (α6 0), .ref (α8 0), .ref (α10 0), .ref (α12.1), .ref (α14 0), .null])) :: ((((((([] ++ bDrum T α2) ++ bChg T (α2 0) α4) ++ bMach T α6) ++ bLaws T α8) ++ bWalk T (α6 0) (α8 0) α10) ++ bThink T (α2 0) (α6 0) (α8 0) α12) ++ bActs T α14)) rfl ?_
  refine n_aload_n hC 0 dX10_init_105 rfl rfl ?_
  refine n_new (ci := 6) (fs := [.null, .null, .null, .null, .null]) hC rfl inX6 tyX6_ok nw10_64 (fun j hj => by rcases (show j = 0 ∨ j = 1 ∨ j = 2 ∨ j = 3 ∨ j = 4 by omega) with rfl | rfl | rfl | rfl | rfl <;> rfl) (Nat.le_of_ble_eq_true rfl) (Nat.le_of_ble_eq_true rfl) dX10_init_106 (fun q15 => ?_)
  refine n_eq (W1 := (h0, .inr (10, [.ref (α2 0), .ref (α4 0), .ref (α6 0), .ref (α8 0), .ref (α10 0), .ref (α12.1), .ref (α14 0), .null])) :: (((((((([] ++ bDrum T α2) ++ bChg T (α2 0) α4) ++ bMach T α6) ++ bLaws T α8) ++ bWalk T (α6 0) (α8 0) α10) ++ bThink T (α2 0) (α6 0) (α8 0) α12) ++ bActs T α14) ++ [(q15, .inr (6, [.null, .null, .null, .null, .null]))])) rfl ?_
  refine n_dup hC dX10_init_109 rfl ?_
  refine n_eq (W1 := ((h0, .inr (10, [.ref (α2 0), .ref (α4 0), .ref (α6 0), .ref (α8 0), .ref (α10 0), .ref (α12.1), .ref (α14 0), .null])) :: ((((((([] ++ bDrum T α2) ++ bChg T (α2 0) α4) ++ bMach T α6) ++ bLaws T α8) ++ bWalk T (α6 0) (α8 0) α10) ++ bThink T (α2 0) (α6 0) (α8 0) α12) ++ bActs T α14)) ++ [(q15, .inr (6, [.null, .null, .null, .null, .null]))]) rfl ?_
  refine n_call hC (I6 (l := l) (D := D) (T := T)) iy6 mi10_66 ⟨Nat.le_of_ble_eq_true rfl, Nat.le_of_ble_eq_true rfl⟩ rfl (vs := []) rfl (Nat.le_of_ble_eq_true rfl) dX10_init_110 (by exact ⟨Nat.le_of_ble_eq_true rfl, Nat.le_of_ble_eq_true rfl⟩) (fun α16 eα16 => ?_)
  have eα16 : α16 0 = q15 := eα16
  subst eα16
  refine n_eq (W1 := (h0, .inr (10, [.ref (α2 0), .ref (α4 0), .ref (α6 0), .ref (α8 0), .ref (α10 0), .ref (α12.1), .ref (α14 0), .null])) :: (((((((([] ++ bDrum T α2) ++ bChg T (α2 0) α4) ++ bMach T α6) ++ bLaws T α8) ++ bWalk T (α6 0) (α8 0) α10) ++ bThink T (α2 0) (α6 0) (α8 0) α12) ++ bActs T α14) ++ bShel T α16)) rfl ?_
  refine n_put hC fl10_67 (fun _ _ _ h => by cases h; rfl) rfl rfl (Nat.le_of_ble_eq_true rfl) dX10_init_113 ?_
  refine n_eq (W1 := (h0, .inr (10, [.ref (α2 0), .ref (α4 0), .ref (α6 0), .ref (α8 0), .ref (α10 0), .ref (α12.1), .ref (α14 0), .ref (α16 0)])) :: (((((((([] ++ bDrum T α2) ++ bChg T (α2 0) α4) ++ bMach T α6) ++ bLaws T α8) ++ bWalk T (α6 0) (α8 0) α10) ++ bThink T (α2 0) (α6 0) (α8 0) α12) ++ bActs T α14) ++ bShel T α16)) rfl ?_
  exact n_ret (S := SMW) (ow := fun α => α.1) (blk := bMW T) hC (h0, α2, α4, α6, α8, α10, α12, α14, α16) rfl dX10_init_116 (Nat.le_of_ble_eq_true rfl) (Nat.le_of_ble_eq_true rfl) (fun H h => h) (fun B h => h)
