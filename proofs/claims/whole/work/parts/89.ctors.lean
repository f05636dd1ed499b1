/-! the constructors, on -/
set_option maxHeartbeats 4000000 in
set_option maxRecDepth 20000 in
theorem I4 {l : Launch} {D : va_G} {T : Nat → ClassId} : nM (S := Nat → Nat) l D T yX4_init cX4_init 2 2 32 16 1113 [] 4 [.null, .null, .null, .int 0, .int 0] (fun α => α 0) (bLaws T) := by
  refine n_enter RX4 (fun h0 => [(0, .ref h0)]) (by decide) rfl rfl (fun _ => Nat.le_of_ble_eq_true rfl) (fun _ => rfl) ?_
  intro p e s m args below meth c h0 hC
  refine n_aload_n hC 0 dX4_init_0 rfl rfl ?_
  refine n_objInit hC oi4_3 (Nat.le_of_ble_eq_true rfl) (Nat.le_of_ble_eq_true rfl) dX4_init_1 ?_
  refine n_aload_n hC 0 dX4_init_4 rfl rfl ?_
  refine n_new (ci := 7) (fs := [.null, .int 0, .int 0, .null]) hC rfl inX7 tyX7_ok nw4_9 (fun j hj => by rcases (show j = 0 ∨ j = 1 ∨ j = 2 ∨ j = 3 by omega) with rfl | rfl | rfl | rfl <;> rfl) (Nat.le_of_ble_eq_true rfl) (Nat.le_of_ble_eq_true rfl) dX4_init_5 (fun q1 => ?_)
  refine n_eq (W1 := (h0, .inr (4, [.null, .null, .null, .int 0, .int 0])) :: ([] ++ [(q1, .inr (7, [.null, .int 0, .int 0, .null]))])) rfl ?_
  refine n_dup hC dX4_init_8 rfl ?_
  refine n_eq (W1 := ((h0, .inr (4, [.null, .null, .null, .int 0, .int 0])) :: []) ++ [(q1, .inr (7, [.null, .int 0, .int 0, .null]))]) rfl ?_
  refine n_call hC (I7 (l := l) (D := D) (T := T)) iy7 mi4_11 ⟨Nat.le_of_ble_eq_true rfl, Nat.le_of_ble_eq_true rfl⟩ rfl (vs := []) rfl (Nat.le_of_ble_eq_true rfl) dX4_init_9 (by exact ⟨Nat.le_of_ble_eq_true rfl, Nat.le_of_ble_eq_true rfl⟩) (fun α2 eα2 => ?_)
  have eα2 : α2 0 = q1 := eα2
  subst eα2
  refine n_eq (W1 := (h0, .inr (4, [.null, .null, .null, .int 0, .int 0])) :: ([] ++ bTape T α2)) rfl ?_
  refine n_put hC fl4_12 (fun _ _ _ h => by cases h; rfl) rfl rfl (Nat.le_of_ble_eq_true rfl) dX4_init_12 ?_
  refine n_eq (W1 := (h0, .inr (4, [.ref (α2 0), .null, .null, .int 0, .int 0])) :: ([] ++ bTape T α2)) rfl ?_
  refine n_aload_n hC 0 dX4_init_15 rfl rfl ?_
  refine n_bipush hC 9 dX4_init_16 (by decide) ?_
  refine n_newaI (N := 9) hC arI (by decide) (by decide) (Nat.le_of_ble_eq_true rfl) (Nat.le_of_ble_eq_true rfl) (Nat.le_of_ble_eq_true rfl) dX4_init_18 (fun q3 => ?_)
  refine n_eq (W1 := (h0, .inr (4, [.ref (α2 0), .null, .null, .int 0, .int 0])) :: (([] ++ bTape T α2) ++ [(q3, .inl (T 0, 9, .inl (fun _ => 0)))])) rfl ?_
  refine n_put hC fl4_20 (fun _ _ _ h => by cases h; rfl) rfl rfl (Nat.le_of_ble_eq_true rfl) dX4_init_20 ?_
  refine n_eq (W1 := (h0, .inr (4, [.ref (α2 0), .null, .ref q3, .int 0, .int 0])) :: (([] ++ bTape T α2) ++ [(q3, .inl (T 0, 9, .inl (fun _ => 0)))])) rfl ?_
  refine n_aload_n hC 0 dX4_init_23 rfl rfl ?_
  refine n_iconst hC 4 dX4_init_24 (by decide) ?_
  refine n_newq (N := 4) hC cq4_18 (by decide) (by decide) (Nat.le_of_ble_eq_true rfl) (Nat.le_of_ble_eq_true rfl) (Nat.le_of_ble_eq_true rfl) dX4_init_25 (fun q4 => ?_)
  refine n_eq (W1 := (h0, .inr (4, [.ref (α2 0), .null, .ref q3, .int 0, .int 0])) :: ((([] ++ bTape T α2) ++ [(q3, .inl (T 0, 9, .inl (fun _ => 0)))]) ++ [(q4, .inl (T 2, 4, .inr (.inr (.inr (.inr (fun _ => none))))))])) rfl ?_
  refine n_put hC fl4_24 (fun _ _ _ h => by cases h; rfl) rfl rfl (Nat.le_of_ble_eq_true rfl) dX4_init_28 ?_
  refine n_eq (W1 := (h0, .inr (4, [.ref (α2 0), .ref q4, .ref q3, .int 0, .int 0])) :: ((([] ++ bTape T α2) ++ [(q3, .inl (T 0, 9, .inl (fun _ => 0)))]) ++ [(q4, .inl (T 2, 4, .inr (.inr (.inr (.inr (fun _ => none))))))])) rfl ?_
  refine n_iconst hC 0 dX4_init_31 (by decide) ?_
  refine n_istore_n hC [(1, .int 0), (0, .ref h0)] dX4_init_32 rfl (by decide) rfl ?_
  refine n_iload_n hC 0 dX4_init_33 rfl rfl ?_
  refine n_iconst hC 4 dX4_init_34 (by decide) ?_
  refine n_icmp_geF hC 57 dX4_init_35 (by decide) (by decide) ?_
  refine n_aload_n hC 1 dX4_init_38 rfl rfl ?_
  refine n_get (v := .ref q4) hC fl4_24 rfl dX4_init_39 ?_
  refine n_iload_n hC 0 dX4_init_42 rfl rfl ?_
  refine n_new (ci := 3) (fs := [.null, .null, .int 0, .int 0]) hC rfl inX3 tyX3_ok nw4_18 (fun j hj => by rcases (show j = 0 ∨ j = 1 ∨ j = 2 ∨ j = 3 by omega) with rfl | rfl | rfl | rfl <;> rfl) (Nat.le_of_ble_eq_true rfl) (Nat.le_of_ble_eq_true rfl) dX4_init_43 (fun q5 => ?_)
  refine n_eq (W1 := (h0, .inr (4, [.ref (α2 0), .ref q4, .ref q3, .int 0, .int 0])) :: (((([] ++ bTape T α2) ++ [(q3, .inl (T 0, 9, .inl (fun _ => 0)))]) ++ [(q4, .inl (T 2, 4, .inr (.inr (.inr (.inr (fun _ => none))))))]) ++ [(q5, .inr (3, [.null, .null, .int 0, .int 0]))])) rfl ?_
  refine n_dup hC dX4_init_46 rfl ?_
  refine n_eq (W1 := ((h0, .inr (4, [.ref (α2 0), .ref q4, .ref q3, .int 0, .int 0])) :: ((([] ++ bTape T α2) ++ [(q3, .inl (T 0, 9, .inl (fun _ => 0)))]) ++ [(q4, .inl (T 2, 4, .inr (.inr (.inr (.inr (fun _ => none))))))])) ++ [(q5, .inr (3, [.null, .null, .int 0, .int 0]))]) rfl ?_
  refine n_call hC (I3 (l := l) (D := D) (T := T)) iy3 mi4_28 ⟨Nat.le_of_ble_eq_true rfl, Nat.le_of_ble_eq_true rfl⟩ rfl (vs := []) rfl (Nat.le_of_ble_eq_true rfl) dX4_init_47 (by exact ⟨Nat.le_of_ble_eq_true rfl, Nat.le_of_ble_eq_true rfl⟩) (fun α6 eα6 => ?_)
  have eα6 : α6 0 = q5 := eα6
  subst eα6
  refine n_eq (W1 := (h0, .inr (4, [.ref (α2 0), .ref q4, .ref q3, .int 0, .int 0])) :: (((([] ++ bTape T α2) ++ [(q3, .inl (T 0, 9, .inl (fun _ => 0)))]) ++ [(q4, .inl (T 2, 4, .inr (.inr (.inr (.inr (fun _ => none))))))]) ++ bLaw T α6)) rfl ?_
  refine n_aast (ci := 3) hC 4 5 rfl rfl rfl (vpc (by decide)) dX4_init_50 ?_
  refine n_eq (W1 := (h0, .inr (4, [.ref (α2 0), .ref q4, .ref q3, .int 0, .int 0])) :: (((([] ++ bTape T α2) ++ [(q3, .inl (T 0, 9, .inl (fun _ => 0)))]) ++ [(q4, .inl (T 2, 4, .inr (.inr (.inr (.inr (va_up (fun _ => none) 0 (some (α6 0))))))))]) ++ bLaw T α6)) rfl ?_
  refine n_iinc (k := 0) hC 1 [(1, .int 1), (0, .ref h0)] dX4_init_51 rfl (by decide) (by decide) rfl ?_
  refine n_goto hC 33 dX4_init_54 (by decide) ?_
  refine n_iload_n hC 0 dX4_init_33 rfl rfl ?_
  refine n_iconst hC 4 dX4_init_34 (by decide) ?_
  refine n_icmp_geF hC 57 dX4_init_35 (by decide) (by decide) ?_
  refine n_aload_n hC 1 dX4_init_38 rfl rfl ?_
  refine n_get (v := .ref q4) hC fl4_24 rfl dX4_init_39 ?_
  refine n_iload_n hC 0 dX4_init_42 rfl rfl ?_
  refine n_new (ci := 3) (fs := [.null, .null, .int 0, .int 0]) hC rfl inX3 tyX3_ok nw4_18 (fun j hj => by rcases (show j = 0 ∨ j = 1 ∨ j = 2 ∨ j = 3 by omega) with rfl | rfl | rfl | rfl <;> rfl) (Nat.le_of_ble_eq_true rfl) (Nat.le_of_ble_eq_true rfl) dX4_init_43 (fun q7 => ?_)
  refine n_eq (W1 := (h0, .inr (4, [.ref (α2 0), .ref q4, .ref q3, .int 0, .int 0])) :: ((((([] ++ bTape T α2) ++ [(q3, .inl (T 0, 9, .inl (fun _ => 0)))]) ++ [(q4, .inl (T 2, 4, .inr (.inr (.inr (.inr (va_up (fun _ => none) 0 (some (α6 0))))))))]) ++ bLaw T α6) ++ [(q7, .inr (3, [.null, .null, .int 0, .int 0]))])) rfl ?_
  refine n_dup hC dX4_init_46 rfl ?_
  refine n_eq (W1 := ((h0, .inr (4, [.ref (α2 0), .ref q4, .ref q3, .int 0, .int 0])) :: (((([] ++ bTape T α2) ++ [(q3, .inl (T 0, 9, .inl (fun _ => 0)))]) ++ [(q4, .inl (T 2, 4, .inr (.inr (.inr (.inr (va_up (fun _ => none) 0 (some (α6 0))))))))]) ++ bLaw T α6)) ++ [(q7, .inr (3, [.null, .null, .int 0, .int 0]))]) rfl ?_
  refine n_call hC (I3 (l := l) (D := D) (T := T)) iy3 mi4_28 ⟨Nat.le_of_ble_eq_true rfl, Nat.le_of_ble_eq_true rfl⟩ rfl (vs := []) rfl (Nat.le_of_ble_eq_true rfl) dX4_init_47 (by exact ⟨Nat.le_of_ble_eq_true rfl, Nat.le_of_ble_eq_true rfl⟩) (fun α8 eα8 => ?_)
  have eα8 : α8 0 = q7 := eα8
  subst eα8
  refine n_eq (W1 := (h0, .inr (4, [.ref (α2 0), .ref q4, .ref q3, .int 0, .int 0])) :: ((((([] ++ bTape T α2) ++ [(q3, .inl (T 0, 9, .inl (fun _ => 0)))]) ++ [(q4, .inl (T 2, 4, .inr (.inr (.inr (.inr (va_up (fun _ => none) 0 (some (α6 0))))))))]) ++ bLaw T α6) ++ bLaw T α8)) rfl ?_
  refine n_aast (ci := 3) hC 4 8 rfl rfl rfl (vpc (by decide)) dX4_init_50 ?_
  refine n_eq (W1 := (h0, .inr (4, [.ref (α2 0), .ref q4, .ref q3, .int 0, .int 0])) :: ((((([] ++ bTape T α2) ++ [(q3, .inl (T 0, 9, .inl (fun _ => 0)))]) ++ [(q4, .inl (T 2, 4, .inr (.inr (.inr (.inr (va_up (va_up (fun _ => none) 0 (some (α6 0))) 1 (some (α8 0))))))))]) ++ bLaw T α6) ++ bLaw T α8)) rfl ?_
  refine n_iinc (k := 0) hC 2 [(1, .int 2), (0, .ref h0)] dX4_init_51 rfl (by decide) (by decide) rfl ?_
  refine n_goto hC 33 dX4_init_54 (by decide) ?_
  refine n_iload_n hC 0 dX4_init_33 rfl rfl ?_
  refine n_iconst hC 4 dX4_init_34 (by decide) ?_
  refine n_icmp_geF hC 57 dX4_init_35 (by decide) (by decide) ?_
  refine n_aload_n hC 1 dX4_init_38 rfl rfl ?_
  refine n_get (v := .ref q4) hC fl4_24 rfl dX4_init_39 ?_
  refine n_iload_n hC 0 dX4_init_42 rfl rfl ?_
  refine n_new (ci := 3) (fs := [.null, .null, .int 0, .int 0]) hC rfl inX3 tyX3_ok nw4_18 (fun j hj => by rcases (show j = 0 ∨ j = 1 ∨ j = 2 ∨ j = 3 by omega) with rfl | rfl | rfl | rfl <;> rfl) (Nat.le_of_ble_eq_true rfl) (Nat.le_of_ble_eq_true rfl) dX4_init_43 (fun q9 => ?_)
  refine n_eq (W1 := (h0, .inr (4, [.ref (α2 0), .ref q4, .ref q3, .int 0, .int 0])) :: (((((([] ++ bTape T α2) ++ [(q3, .inl (T 0, 9, .inl (fun _ => 0)))]) ++ [(q4, .inl (T 2, 4, .inr (.inr (.inr (.inr (va_up (va_up (fun _ => none) 0 (some (α6 0))) 1 (some (α8 0))))))))]) ++ bLaw T α6) ++ bLaw T α8) ++ [(q9, .inr (3, [.null, .null, .int 0, .int 0]))])) rfl ?_
  refine n_dup hC dX4_init_46 rfl ?_
  refine n_eq (W1 := ((h0, .inr (4, [.ref (α2 0), .ref q4, .ref q3, .int 0, .int 0])) :: ((((([] ++ bTape T α2) ++ [(q3, .inl (T 0, 9, .inl (fun _ => 0)))]) ++ [(q4, .inl (T 2, 4, .inr (.inr (.inr (.inr (va_up (va_up (fun _ => none) 0 (some (α6 0))) 1 (some (α8 0))))))))]) ++ bLaw T α6) ++ bLaw T α8)) ++ [(q9, .inr (3, [.null, .null, .int 0, .int 0]))]) rfl ?_
  refine n_call hC (I3 (l := l) (D := D) (T := T)) iy3 mi4_28 ⟨Nat.le_of_ble_eq_true rfl, Nat.le_of_ble_eq_true rfl⟩ rfl (vs := []) rfl (Nat.le_of_ble_eq_true rfl) dX4_init_47 (by exact ⟨Nat.le_of_ble_eq_true rfl, Nat.le_of_ble_eq_true rfl⟩) (fun α10 eα10 => ?_)
  have eα10 : α10 0 = q9 := eα10
  subst eα10
  refine n_eq (W1 := (h0, .inr (4, [.ref (α2 0), .ref q4, .ref q3, .int 0, .int 0])) :: (((((([] ++ bTape T α2) ++ [(q3, .inl (T 0, 9, .inl (fun _ => 0)))]) ++ [(q4, .inl (T 2, 4, .inr (.inr (.inr (.inr (va_up (va_up (fun _ => none) 0 (some (α6 0))) 1 (some (α8 0))))))))]) ++ bLaw T α6) ++ bLaw T α8) ++ bLaw T α10)) rfl ?_
  refine n_aast (ci := 3) hC 4 11 rfl rfl rfl (vpc (by decide)) dX4_init_50 ?_
  refine n_eq (W1 := (h0, .inr (4, [.ref (α2 0), .ref q4, .ref q3, .int 0, .int 0])) :: (((((([] ++ bTape T α2) ++ [(q3, .inl (T 0, 9, .inl (fun _ => 0)))]) ++ [(q4, .inl (T 2, 4, .inr (.inr (.inr (.inr (va_up (va_up (va_up (fun _ => none) 0 (some (α6 0))) 1 (some (α8 0))) 2 (some (α10 0))))))))]) ++ bLaw T α6) ++ bLaw T α8) ++ bLaw T α10)) rfl ?_
  refine n_iinc (k := 0) hC 3 [(1, .int 3), (0, .ref h0)] dX4_init_51 rfl (by decide) (by decide) rfl ?_
  refine n_goto hC 33 dX4_init_54 (by decide) ?_
  refine n_iload_n hC 0 dX4_init_33 rfl rfl ?_
  refine n_iconst hC 4 dX4_init_34 (by decide) ?_
  refine n_icmp_geF hC 57 dX4_init_35 (by decide) (by decide) ?_
  refine n_aload_n hC 1 dX4_init_38 rfl rfl ?_
  refine n_get (v := .ref q4) hC fl4_24 rfl dX4_init_39 ?_
  refine n_iload_n hC 0 dX4_init_42 rfl rfl ?_
  refine n_new (ci := 3) (fs := [.null, .null, .int 0, .int 0]) hC rfl inX3 tyX3_ok nw4_18 (fun j hj => by rcases (show j = 0 ∨ j = 1 ∨ j = 2 ∨ j = 3 by omega) with rfl | rfl | rfl | rfl <;> rfl) (Nat.le_of_ble_eq_true rfl) (Nat.le_of_ble_eq_true rfl) dX4_init_43 (fun q11 => ?_)
  refine n_eq (W1 := (h0, .inr (4, [.ref (α2 0), .ref q4, .ref q3, .int 0, .int 0])) :: ((((((([] ++ bTape T α2) ++ [(q3, .inl (T 0, 9, .inl (fun _ => 0)))]) ++ [(q4, .inl (T 2, 4, .inr (.inr (.inr (.inr (va_up (va_up (va_up (fun _ => none) 0 (some (α6 0))) 1 (some (α8 0))) 2 (some (α10 0))))))))]) ++ bLaw T α6) ++ bLaw T α8) ++ bLaw T α10) ++ [(q11, .inr (3, [.null, .null, .int 0, .int 0]))])) rfl ?_
  refine n_dup hC dX4_init_46 rfl ?_
  refine n_eq (W1 := ((h0, .inr (4, [.ref (α2 0), .ref q4, .ref q3, .int 0, .int 0])) :: (((((([] ++ bTape T α2) ++ [(q3, .inl (T 0, 9, .inl (fun _ => 0)))]) ++ [(q4, .inl (T 2, 4, .inr (.inr (.inr (.inr (va_up (va_up (va_up (fun _ => none) 0 (some (α6 0))) 1 (some (α8 0))) 2 (some (α10 0))))))))]) ++ bLaw T α6) ++ bLaw T α8) ++ bLaw T α10)) ++ [(q11, .inr (3, [.null, .null, .int 0, .int 0]))]) rfl ?_
  refine n_call hC (I3 (l := l) (D := D) (T := T)) iy3 mi4_28 ⟨Nat.le_of_ble_eq_true rfl, Nat.le_of_ble_eq_true rfl⟩ rfl (vs := []) rfl (Nat.le_of_ble_eq_true rfl) dX4_init_47 (by exact ⟨Nat.le_of_ble_eq_true rfl, Nat.le_of_ble_eq_true rfl⟩) (fun α12 eα12 => ?_)
  have eα12 : α12 0 = q11 := eα12
  subst eα12
  refine n_eq (W1 := (h0, .inr (4, [.ref (α2 0), .ref q4, .ref q3, .int 0, .int 0])) :: ((((((([] ++ bTape T α2) ++ [(q3, .inl (T 0, 9, .inl (fun _ => 0)))]) ++ [(q4, .inl (T 2, 4, .inr (.inr (.inr (.inr (va_up (va_up (va_up (fun _ => none) 0 (some (α6 0))) 1 (some (α8 0))) 2 (some (α10 0))))))))]) ++ bLaw T α6) ++ bLaw T α8) ++ bLaw T α10) ++ bLaw T α12)) rfl ?_
  refine n_aast (ci := 3) hC 4 14 rfl rfl rfl (vpc (by decide)) dX4_init_50 ?_
  refine n_eq (W1 := (h0, .inr (4, [.ref (α2 0), .ref q4, .ref q3, .int 0, .int 0])) :: ((((((([] ++ bTape T α2) ++ [(q3, .inl (T 0, 9, .inl (fun _ => 0)))]) ++ [(q4, .inl (T 2, 4, .inr (.inr (.inr (.inr (va_up (va_up (va_up (va_up (fun _ => none) 0 (some (α6 0))) 1 (some (α8 0))) 2 (some (α10 0))) 3 (some (α12 0))))))))]) ++ bLaw T α6) ++ bLaw T α8) ++ bLaw T α10) ++ bLaw T α12)) rfl ?_
  refine n_iinc (k := 0) hC 4 [(1, .int 4), (0, .ref h0)] dX4_init_51 rfl (by decide) (by decide) rfl ?_
  refine n_goto hC 33 dX4_init_54 (by decide) ?_
  refine n_iload_n hC 0 dX4_init_33 rfl rfl ?_
  refine n_iconst hC 4 dX4_init_34 (by decide) ?_
  refine n_icmp_geT hC 57 dX4_init_35 (by decide) (by decide) ?_
  refine n_aload_n hC 1 dX4_init_57 rfl rfl ?_
  refine n_iconst hC (-1) dX4_init_58 (by decide) ?_
  refine n_put hC fl4_29 (fun _ _ _ h => by cases h; rfl) rfl rfl (Nat.le_of_ble_eq_true rfl) dX4_init_59 ?_
  refine n_eq (W1 := (h0, .inr (4, [.ref (α2 0), .ref q4, .ref q3, .int 0, .int (-1)])) :: ((((((([] ++ bTape T α2) ++ [(q3, .inl (T 0, 9, .inl (fun _ => 0)))]) ++ [(q4, .inl (T 2, 4, .inr (.inr (.inr (.inr (va_up (va_up (va_up (va_up (fun _ => none) 0 (some (α6 0))) 1 (some (α8 0))) 2 (some (α10 0))) 3 (some (α12 0))))))))]) ++ bLaw T α6) ++ bLaw T α8) ++ bLaw T α10) ++ bLaw T α12)) rfl ?_
  exact n_ret (S := Nat → Nat) (ow := fun α => α 0) (blk := bLaws T) hC (fun k => match k with | 0 => h0 | 1 => α2 0 | 2 => α2 1 | 3 => q4 | 4 => q3 | 5 => α6 0 | 6 => α6 1 | 7 => α6 2 | 8 => α8 0 | 9 => α8 1 | 10 => α8 2 | 11 => α10 0 | 12 => α10 1 | 13 => α10 2 | 14 => α12 0 | 15 => α12 1 | _ => α12 2) rfl dX4_init_62 (Nat.le_of_ble_eq_true rfl) (Nat.le_of_ble_eq_true rfl) (fun H h => h.sub [0, 1, 2, 4, 3, 5, 6, 7, 8, 9, 10, 11, 12, 13, 14, 15, 16] rfl) (fun B h => h.sub [0, 1, 2, 4, 3, 5, 6, 7, 8, 9, 10, 11, 12, 13, 14, 15, 16] (by decide) rfl)
set_option maxHeartbeats 4000000 in
set_option maxRecDepth 20000 in
theorem I9 {l : Launch} {D : va_G} {T : Nat → ClassId} {a1 a2 : Nat} : nM (S := Nat → Nat) l D T yX9_init cX9_init 3 2 32 11 1059 [.ref a1, .ref a2] 9 [.null, .null, .null, .null, .int 0, .int 0, .int 0, .int 0, .int 0, .int 0, .int 0, .int 0, .int 0, .int 0, .int 0, .int 0, .int 0] (fun α => α 0) (bWalk T a1 a2) := by
  refine n_enter RX9 (fun h0 => [(0, .ref h0), (1, .ref a1), (2, .ref a2)]) (by decide) rfl rfl (fun _ => Nat.le_of_ble_eq_true rfl) (fun _ => rfl) ?_
  intro p e s m args below meth c h0 hC
  refine n_aload_n hC 0 dX9_init_0 rfl rfl ?_
  refine n_objInit hC oi9_3 (Nat.le_of_ble_eq_true rfl) (Nat.le_of_ble_eq_true rfl) dX9_init_1 ?_
  refine n_aload_n hC 0 dX9_init_4 rfl rfl ?_
  refine n_aload_n hC 1 dX9_init_5 rfl rfl ?_
  refine n_put hC fl9_9 (fun _ _ _ h => by cases h; rfl) rfl rfl (Nat.le_of_ble_eq_true rfl) dX9_init_6 ?_
  refine n_eq (W1 := (h0, .inr (9, [.ref a1, .null, .null, .null, .int 0, .int 0, .int 0, .int 0, .int 0, .int 0, .int 0, .int 0, .int 0, .int 0, .int 0, .int 0, .int 0])) :: []) rfl ?_
  refine n_aload_n hC 0 dX9_init_9 rfl rfl ?_
  refine n_aload_n hC 2 dX9_init_10 rfl rfl ?_
  refine n_put hC fl9_15 (fun _ _ _ h => by cases h; rfl) rfl rfl (Nat.le_of_ble_eq_true rfl) dX9_init_11 ?_
  refine n_eq (W1 := (h0, .inr (9, [.ref a1, .ref a2, .null, .null, .int 0, .int 0, .int 0, .int 0, .int 0, .int 0, .int 0, .int 0, .int 0, .int 0, .int 0, .int 0, .int 0])) :: []) rfl ?_
  refine n_aload_n hC 0 dX9_init_14 rfl rfl ?_
  refine n_new (ci := 2) (fs := [.null, .null, .null, .null, .int 0, .int 0]) hC rfl inX2 tyX2_ok nw9_19 (fun j hj => by rcases (show j = 0 ∨ j = 1 ∨ j = 2 ∨ j = 3 ∨ j = 4 ∨ j = 5 by omega) with rfl | rfl | rfl | rfl | rfl | rfl <;> rfl) (Nat.le_of_ble_eq_true rfl) (Nat.le_of_ble_eq_true rfl) dX9_init_15 (fun q1 => ?_)
  refine n_eq (W1 := (h0, .inr (9, [.ref a1, .ref a2, .null, .null, .int 0, .int 0, .int 0, .int 0, .int 0, .int 0, .int 0, .int 0, .int 0, .int 0, .int 0, .int 0, .int 0])) :: ([] ++ [(q1, .inr (2, [.null, .null, .null, .null, .int 0, .int 0]))])) rfl ?_
  refine n_dup hC dX9_init_18 rfl ?_
  refine n_eq (W1 := ((h0, .inr (9, [.ref a1, .ref a2, .null, .null, .int 0, .int 0, .int 0, .int 0, .int 0, .int 0, .int 0, .int 0, .int 0, .int 0, .int 0, .int 0, .int 0])) :: []) ++ [(q1, .inr (2, [.null, .null, .null, .null, .int 0, .int 0]))]) rfl ?_
  refine n_call hC (I2 (l := l) (D := D) (T := T)) iy2 mi9_21 ⟨Nat.le_of_ble_eq_true rfl, Nat.le_of_ble_eq_true rfl⟩ rfl (vs := []) rfl (Nat.le_of_ble_eq_true rfl) dX9_init_19 (by exact ⟨Nat.le_of_ble_eq_true rfl, Nat.le_of_ble_eq_true rfl⟩) (fun α2 eα2 => ?_)
  have eα2 : α2 0 = q1 := eα2
  subst eα2
  refine n_eq (W1 := (h0, .inr (9, [.ref a1, .ref a2, .null, .null, .int 0, .int 0, .int 0, .int 0, .int 0, .int 0, .int 0, .int 0, .int 0, .int 0, .int 0, .int 0, .int 0])) :: ([] ++ bDrum T α2)) rfl ?_
  refine n_put hC fl9_22 (fun _ _ _ h => by cases h; rfl) rfl rfl (Nat.le_of_ble_eq_true rfl) dX9_init_22 ?_
  refine n_eq (W1 := (h0, .inr (9, [.ref a1, .ref a2, .ref (α2 0), .null, .int 0, .int 0, .int 0, .int 0, .int 0, .int 0, .int 0, .int 0, .int 0, .int 0, .int 0, .int 0, .int 0])) :: ([] ++ bDrum T α2)) rfl ?_
  refine n_aload_n hC 0 dX9_init_25 rfl rfl ?_
  refine n_iconst hC 5 dX9_init_26 (by decide) ?_
  refine n_sipush hC 200 dX9_init_27 (by decide) ?_
  refine n_mna (N := 5) (M := 200) (ty := .int) (z := (200, .inl (fun _ => 0))) (t := 0) hC rfl rfl (hC.2.1.1.2 0 _ rfl).2 hC.2.1.2.2.1 cq9_26 arI (by decide) (by decide) (by decide) (by decide) (Nat.le_of_ble_eq_true rfl) (Nat.le_of_ble_eq_true rfl) (Nat.le_of_ble_eq_true rfl) rfl rfl (fun c => innerC_arr c _ _) (Nat.le_of_ble_eq_true rfl) (Nat.le_of_ble_eq_true rfl) dX9_init_30 (fun q3 r3 => ?_)
  refine n_eq (W1 := (h0, .inr (9, [.ref a1, .ref a2, .ref (α2 0), .null, .int 0, .int 0, .int 0, .int 0, .int 0, .int 0, .int 0, .int 0, .int 0, .int 0, .int 0, .int 0, .int 0])) :: ((([] ++ bDrum T α2) ++ [(q3, .inl (T 3, 5, .inr (.inr (.inr (.inr (fun i => if i < 5 then some (r3 i) else none))))))]) ++ [(r3 0, .inl (T 0, 200, .inl (fun _ => 0))), (r3 1, .inl (T 0, 200, .inl (fun _ => 0))), (r3 2, .inl (T 0, 200, .inl (fun _ => 0))), (r3 3, .inl (T 0, 200, .inl (fun _ => 0))), (r3 4, .inl (T 0, 200, .inl (fun _ => 0)))])) rfl ?_
  refine n_put hC fl9_28 (fun _ _ _ h => by cases h; rfl) rfl rfl (Nat.le_of_ble_eq_true rfl) dX9_init_34 ?_
  refine n_eq (W1 := (h0, .inr (9, [.ref a1, .ref a2, .ref (α2 0), .ref q3, .int 0, .int 0, .int 0, .int 0, .int 0, .int 0, .int 0, .int 0, .int 0, .int 0, .int 0, .int 0, .int 0])) :: ((([] ++ bDrum T α2) ++ [(q3, .inl (T 3, 5, .inr (.inr (.inr (.inr (fun i => if i < 5 then some (r3 i) else none))))))]) ++ [(r3 0, .inl (T 0, 200, .inl (fun _ => 0))), (r3 1, .inl (T 0, 200, .inl (fun _ => 0))), (r3 2, .inl (T 0, 200, .inl (fun _ => 0))), (r3 3, .inl (T 0, 200, .inl (fun _ => 0))), (r3 4, .inl (T 0, 200, .inl (fun _ => 0)))])) rfl ?_
  exact n_ret (S := Nat → Nat) (ow := fun α => α 0) (blk := bWalk T a1 a2) hC (fun k => match k with | 0 => h0 | 1 => α2 0 | 2 => α2 1 | 3 => α2 2 | 4 => α2 3 | 5 => α2 4 | 6 => q3 | i + 7 => r3 i) rfl dX9_init_37 (Nat.le_of_ble_eq_true rfl) (Nat.le_of_ble_eq_true rfl) (fun H h => h) (fun B h => h)
set_option maxHeartbeats 4000000 in
set_option maxRecDepth 20000 in
theorem I8 {l : Launch} {D : va_G} {T : Nat → ClassId} {a1 a2 a3 : Nat} : nM (S := Nat × (Nat → Nat) × (Nat → Nat)) l D T yX8_init cX8_init 4 3 54 17 1130 [.ref a1, .ref a2, .ref a3] 8 [.null, .null, .null, .null, .null, .int 0, .int 0, .int 0, .int 0, .int 0] (fun α => α.1) (bThink T a1 a2 a3) := by
  refine n_enter RX8 (fun h0 => [(0, .ref h0), (1, .ref a1), (2, .ref a2), (3, .ref a3)]) (by decide) rfl rfl (fun _ => Nat.le_of_ble_eq_true rfl) (fun _ => rfl) ?_
  intro p e s m args below meth c h0 hC
  refine n_aload_n hC 0 dX8_init_0 rfl rfl ?_
  refine n_objInit hC oi8_3 (Nat.le_of_ble_eq_true rfl) (Nat.le_of_ble_eq_true rfl) dX8_init_1 ?_
  refine n_aload_n hC 0 dX8_init_4 rfl rfl ?_
  refine n_aload_n hC 1 dX8_init_5 rfl rfl ?_
  refine n_put hC fl8_9 (fun _ _ _ h => by cases h; rfl) rfl rfl (Nat.le_of_ble_eq_true rfl) dX8_init_6 ?_
  refine n_eq (W1 := (h0, .inr (8, [.ref a1, .null, .null, .null, .null, .int 0, .int 0, .int 0, .int 0, .int 0])) :: []) rfl ?_
  refine n_aload_n hC 0 dX8_init_9 rfl rfl ?_
  refine n_aload_n hC 2 dX8_init_10 rfl rfl ?_
  refine n_put hC fl8_15 (fun _ _ _ h => by cases h; rfl) rfl rfl (Nat.le_of_ble_eq_true rfl) dX8_init_11 ?_
  refine n_eq (W1 := (h0, .inr (8, [.ref a1, .ref a2, .null, .null, .null, .int 0, .int 0, .int 0, .int 0, .int 0])) :: []) rfl ?_
  refine n_aload_n hC 0 dX8_init_14 rfl rfl ?_
  refine n_aload_n hC 3 dX8_init_15 rfl rfl ?_
  refine n_put hC fl8_19 (fun _ _ _ h => by cases h; rfl) rfl rfl (Nat.le_of_ble_eq_true rfl) dX8_init_16 ?_
  refine n_eq (W1 := (h0, .inr (8, [.ref a1, .ref a2, .ref a3, .null, .null, .int 0, .int 0, .int 0, .int 0, .int 0])) :: []) rfl ?_
  refine n_aload_n hC 0 dX8_init_19 rfl rfl ?_
  refine n_new (ci := 2) (fs := [.null, .null, .null, .null, .int 0, .int 0]) hC rfl inX2 tyX2_ok nw8_23 (fun j hj => by rcases (show j = 0 ∨ j = 1 ∨ j = 2 ∨ j = 3 ∨ j = 4 ∨ j = 5 by omega) with rfl | rfl | rfl | rfl | rfl | rfl <;> rfl) (Nat.le_of_ble_eq_true rfl) (Nat.le_of_ble_eq_true rfl) dX8_init_20 (fun q1 => ?_)
  refine n_eq (W1 := (h0, .inr (8, [.ref a1, .ref a2, .ref a3, .null, .null, .int 0, .int 0, .int 0, .int 0, .int 0])) :: ([] ++ [(q1, .inr (2, [.null, .null, .null, .null, .int 0, .int 0]))])) rfl ?_
  refine n_dup hC dX8_init_23 rfl ?_
  refine n_eq (W1 := ((h0, .inr (8, [.ref a1, .ref a2, .ref a3, .null, .null, .int 0, .int 0, .int 0, .int 0, .int 0])) :: []) ++ [(q1, .inr (2, [.null, .null, .null, .null, .int 0, .int 0]))]) rfl ?_
  refine n_call hC (I2 (l := l) (D := D) (T := T)) iy2 mi8_25 ⟨Nat.le_of_ble_eq_true rfl, Nat.le_of_ble_eq_true rfl⟩ rfl (vs := []) rfl (Nat.le_of_ble_eq_true rfl) dX8_init_24 (by exact ⟨Nat.le_of_ble_eq_true rfl, Nat.le_of_ble_eq_true rfl⟩) (fun α2 eα2 => ?_)
  have eα2 : α2 0 = q1 := eα2
  subst eα2
  refine n_eq (W1 := (h0, .inr (8, [.ref a1, .ref a2, .ref a3, .null, .null, .int 0, .int 0, .int 0, .int 0, .int 0])) :: ([] ++ bDrum T α2)) rfl ?_
  refine n_put hC fl8_26 (fun _ _ _ h => by cases h; rfl) rfl rfl (Nat.le_of_ble_eq_true rfl) dX8_init_27 ?_
  refine n_eq (W1 := (h0, .inr (8, [.ref a1, .ref a2, .ref a3, .ref (α2 0), .null, .int 0, .int 0, .int 0, .int 0, .int 0])) :: ([] ++ bDrum T α2)) rfl ?_
  refine n_aload_n hC 0 dX8_init_30 rfl rfl ?_
  refine n_new (ci := 9) (fs := [.null, .null, .null, .null, .int 0, .int 0, .int 0, .int 0, .int 0, .int 0, .int 0, .int 0, .int 0, .int 0, .int 0, .int 0, .int 0]) hC rfl inX9 tyX9_ok nw8_29 (fun j hj => by rcases (show j = 0 ∨ j = 1 ∨ j = 2 ∨ j = 3 ∨ j = 4 ∨ j = 5 ∨ j = 6 ∨ j = 7 ∨ j = 8 ∨ j = 9 ∨ j = 10 ∨ j = 11 ∨ j = 12 ∨ j = 13 ∨ j = 14 ∨ j = 15 ∨ j = 16 by omega) with rfl | rfl | rfl | rfl | rfl | rfl | rfl | rfl | rfl | rfl | rfl | rfl | rfl | rfl | rfl | rfl | rfl <;> rfl) (Nat.le_of_ble_eq_true rfl) (Nat.le_of_ble_eq_true rfl) dX8_init_31 (fun q3 => ?_)
  refine n_eq (W1 := (h0, .inr (8, [.ref a1, .ref a2, .ref a3, .ref (α2 0), .null, .int 0, .int 0, .int 0, .int 0, .int 0])) :: (([] ++ bDrum T α2) ++ [(q3, .inr (9, [.null, .null, .null, .null, .int 0, .int 0, .int 0, .int 0, .int 0, .int 0, .int 0, .int 0, .int 0, .int 0, .int 0, .int 0, .int 0]))])) rfl ?_
  refine n_dup hC dX8_init_34 rfl ?_
  refine n_aload_n hC 2 dX8_init_35 rfl rfl ?_
  refine n_aload_n hC 3 dX8_init_36 rfl rfl ?_
  refine n_eq (W1 := ((h0, .inr (8, [.ref a1, .ref a2, .ref a3, .ref (α2 0), .null, .int 0, .int 0, .int 0, .int 0, .int 0])) :: ([] ++ bDrum T α2)) ++ [(q3, .inr (9, [.null, .null, .null, .null, .int 0, .int 0, .int 0, .int 0, .int 0, .int 0, .int 0, .int 0, .int 0, .int 0, .int 0, .int 0, .int 0]))]) rfl ?_
  refine n_call hC (I9 (l := l) (D := D) (T := T) (a1 := a2) (a2 := a3)) iy9 mi8_31 ⟨Nat.le_of_ble_eq_true rfl, Nat.le_of_ble_eq_true rfl⟩ rfl (vs := [.ref a2, .ref a3]) rfl (Nat.le_of_ble_eq_true rfl) dX8_init_37 (by exact ⟨Nat.le_of_ble_eq_true rfl, Nat.le_of_ble_eq_true rfl⟩) (fun α4 eα4 => ?_)
  have eα4 : α4 0 = q3 := eα4
  subst eα4
  refine n_eq (W1 := (h0, .inr (8, [.ref a1, .ref a2, .ref a3, .ref (α2 0), .null, .int 0, .int 0, .int 0, .int 0, .int 0])) :: (([] ++ bDrum T α2) ++ bWalk T a2 a3 α4)) rfl ?_
  refine n_put hC fl8_34 (fun _ _ _ h => by cases h; rfl) rfl rfl (Nat.le_of_ble_eq_true rfl) dX8_init_40 ?_
  refine n_eq (W1 := (h0, .inr (8, [.ref a1, .ref a2, .ref a3, .ref (α2 0), .ref (α4 0), .int 0, .int 0, .int 0, .int 0, .int 0])) :: (([] ++ bDrum T α2) ++ bWalk T a2 a3 α4)) rfl ?_
  exact n_ret (S := Nat × (Nat → Nat) × (Nat → Nat)) (ow := fun α => α.1) (blk := bThink T a1 a2 a3) hC (h0, α2, α4) rfl dX8_init_43 (Nat.le_of_ble_eq_true rfl) (Nat.le_of_ble_eq_true rfl) (fun H h => h) (fun B h => h)
set_option maxHeartbeats 4000000 in
set_option maxRecDepth 20000 in
theorem I0 {l : Launch} {D : va_G} {T : Nat → ClassId} : nM (S := Nat → Nat) l D T yX0_init cX0_init 1 1 12 2 74 [] 0 [.null, .null, .int 0, .int 0, .int 0, .int 0] (fun α => α 0) (bActs T) := by
  refine n_enter RX0 (fun h0 => [(0, .ref h0)]) (by decide) rfl rfl (fun _ => Nat.le_of_ble_eq_true rfl) (fun _ => rfl) ?_
  intro p e s m args below meth c h0 hC
  refine n_aload_n hC 0 dX0_init_0 rfl rfl ?_
  refine n_objInit hC oi0_3 (Nat.le_of_ble_eq_true rfl) (Nat.le_of_ble_eq_true rfl) dX0_init_1 ?_
  refine n_aload_n hC 0 dX0_init_4 rfl rfl ?_
  refine n_bipush hC 50 dX0_init_5 (by decide) ?_
  refine n_newaI (N := 50) hC arI (by decide) (by decide) (Nat.le_of_ble_eq_true rfl) (Nat.le_of_ble_eq_true rfl) (Nat.le_of_ble_eq_true rfl) dX0_init_7 (fun q1 => ?_)
  refine n_eq (W1 := (h0, .inr (0, [.null, .null, .int 0, .int 0, .int 0, .int 0])) :: ([] ++ [(q1, .inl (T 0, 50, .inl (fun _ => 0)))])) rfl ?_
  refine n_put hC fl0_11 (fun _ _ _ h => by cases h; rfl) rfl rfl (Nat.le_of_ble_eq_true rfl) dX0_init_9 ?_
  refine n_eq (W1 := (h0, .inr (0, [.ref q1, .null, .int 0, .int 0, .int 0, .int 0])) :: ([] ++ [(q1, .inl (T 0, 50, .inl (fun _ => 0)))])) rfl ?_
  refine n_aload_n hC 0 dX0_init_12 rfl rfl ?_
  refine n_bipush hC 24 dX0_init_13 (by decide) ?_
  refine n_newaI (N := 24) hC arI (by decide) (by decide) (Nat.le_of_ble_eq_true rfl) (Nat.le_of_ble_eq_true rfl) (Nat.le_of_ble_eq_true rfl) dX0_init_15 (fun q2 => ?_)
  refine n_eq (W1 := (h0, .inr (0, [.ref q1, .null, .int 0, .int 0, .int 0, .int 0])) :: (([] ++ [(q1, .inl (T 0, 50, .inl (fun _ => 0)))]) ++ [(q2, .inl (T 0, 24, .inl (fun _ => 0)))])) rfl ?_
  refine n_put hC fl0_15 (fun _ _ _ h => by cases h; rfl) rfl rfl (Nat.le_of_ble_eq_true rfl) dX0_init_17 ?_
  refine n_eq (W1 := (h0, .inr (0, [.ref q1, .ref q2, .int 0, .int 0, .int 0, .int 0])) :: (([] ++ [(q1, .inl (T 0, 50, .inl (fun _ => 0)))]) ++ [(q2, .inl (T 0, 24, .inl (fun _ => 0)))])) rfl ?_
  exact n_ret (S := Nat → Nat) (ow := fun α => α 0) (blk := bActs T) hC (fun k => match k with | 0 => h0 | 1 => q1 | _ => q2) rfl dX0_init_20 (Nat.le_of_ble_eq_true rfl) (Nat.le_of_ble_eq_true rfl) (fun H h => h) (fun B h => h)
set_option maxHeartbeats 4000000 in
set_option maxRecDepth 20000 in
theorem I6 {l : Launch} {D : va_G} {T : Nat → ClassId} : nM (S := Nat → Nat) l D T yX6_init cX6_init 1 1 12 11 390 [] 6 [.null, .null, .null, .null, .null] (fun α => α 0) (bShel T) := by
  refine n_enter RX6 (fun h0 => [(0, .ref h0)]) (by decide) rfl rfl (fun _ => Nat.le_of_ble_eq_true rfl) (fun _ => rfl) ?_
  intro p e s m args below meth c h0 hC
  refine n_aload_n hC 0 dX6_init_0 rfl rfl ?_
  refine n_objInit hC oi6_3 (Nat.le_of_ble_eq_true rfl) (Nat.le_of_ble_eq_true rfl) dX6_init_1 ?_
  refine n_aload_n hC 0 dX6_init_4 rfl rfl ?_
  refine n_bipush hC 6 dX6_init_5 (by decide) ?_
  refine n_newaI (N := 6) hC arI (by decide) (by decide) (Nat.le_of_ble_eq_true rfl) (Nat.le_of_ble_eq_true rfl) (Nat.le_of_ble_eq_true rfl) dX6_init_7 (fun q1 => ?_)
  refine n_eq (W1 := (h0, .inr (6, [.null, .null, .null, .null, .null])) :: ([] ++ [(q1, .inl (T 0, 6, .inl (fun _ => 0)))])) rfl ?_
  refine n_put hC fl6_11 (fun _ _ _ h => by cases h; rfl) rfl rfl (Nat.le_of_ble_eq_true rfl) dX6_init_9 ?_
  refine n_eq (W1 := (h0, .inr (6, [.ref q1, .null, .null, .null, .null])) :: ([] ++ [(q1, .inl (T 0, 6, .inl (fun _ => 0)))])) rfl ?_
  refine n_aload_n hC 0 dX6_init_12 rfl rfl ?_
  refine n_bipush hC 6 dX6_init_13 (by decide) ?_
  refine n_newaI (N := 6) hC arI (by decide) (by decide) (Nat.le_of_ble_eq_true rfl) (Nat.le_of_ble_eq_true rfl) (Nat.le_of_ble_eq_true rfl) dX6_init_15 (fun q2 => ?_)
  refine n_eq (W1 := (h0, .inr (6, [.ref q1, .null, .null, .null, .null])) :: (([] ++ [(q1, .inl (T 0, 6, .inl (fun _ => 0)))]) ++ [(q2, .inl (T 0, 6, .inl (fun _ => 0)))])) rfl ?_
  refine n_put hC fl6_15 (fun _ _ _ h => by cases h; rfl) rfl rfl (Nat.le_of_ble_eq_true rfl) dX6_init_17 ?_
  refine n_eq (W1 := (h0, .inr (6, [.ref q1, .ref q2, .null, .null, .null])) :: (([] ++ [(q1, .inl (T 0, 6, .inl (fun _ => 0)))]) ++ [(q2, .inl (T 0, 6, .inl (fun _ => 0)))])) rfl ?_
  refine n_aload_n hC 0 dX6_init_20 rfl rfl ?_
  refine n_bipush hC 6 dX6_init_21 (by decide) ?_
  refine n_newaI (N := 6) hC arI (by decide) (by decide) (Nat.le_of_ble_eq_true rfl) (Nat.le_of_ble_eq_true rfl) (Nat.le_of_ble_eq_true rfl) dX6_init_23 (fun q3 => ?_)
  refine n_eq (W1 := (h0, .inr (6, [.ref q1, .ref q2, .null, .null, .null])) :: ((([] ++ [(q1, .inl (T 0, 6, .inl (fun _ => 0)))]) ++ [(q2, .inl (T 0, 6, .inl (fun _ => 0)))]) ++ [(q3, .inl (T 0, 6, .inl (fun _ => 0)))])) rfl ?_
  refine n_put hC fl6_18 (fun _ _ _ h => by cases h; rfl) rfl rfl (Nat.le_of_ble_eq_true rfl) dX6_init_25 ?_
  refine n_eq (W1 := (h0, .inr (6, [.ref q1, .ref q2, .ref q3, .null, .null])) :: ((([] ++ [(q1, .inl (T 0, 6, .inl (fun _ => 0)))]) ++ [(q2, .inl (T 0, 6, .inl (fun _ => 0)))]) ++ [(q3, .inl (T 0, 6, .inl (fun _ => 0)))])) rfl ?_
  refine n_aload_n hC 0 dX6_init_28 rfl rfl ?_
  refine n_bipush hC 6 dX6_init_29 (by decide) ?_
  refine n_newaI (N := 6) hC arI (by decide) (by decide) (Nat.le_of_ble_eq_true rfl) (Nat.le_of_ble_eq_true rfl) (Nat.le_of_ble_eq_true rfl) dX6_init_31 (fun q4 => ?_)
  refine n_eq (W1 := (h0, .inr (6, [.ref q1, .ref q2, .ref q3, .null, .null])) :: (((([] ++ [(q1, .inl (T 0, 6, .inl (fun _ => 0)))]) ++ [(q2, .inl (T 0, 6, .inl (fun _ => 0)))]) ++ [(q3, .inl (T 0, 6, .inl (fun _ => 0)))]) ++ [(q4, .inl (T 0, 6, .inl (fun _ => 0)))])) rfl ?_
  refine n_put hC fl6_21 (fun _ _ _ h => by cases h; rfl) rfl rfl (Nat.le_of_ble_eq_true rfl) dX6_init_33 ?_
  refine n_eq (W1 := (h0, .inr (6, [.ref q1, .ref q2, .ref q3, .ref q4, .null])) :: (((([] ++ [(q1, .inl (T 0, 6, .inl (fun _ => 0)))]) ++ [(q2, .inl (T 0, 6, .inl (fun _ => 0)))]) ++ [(q3, .inl (T 0, 6, .inl (fun _ => 0)))]) ++ [(q4, .inl (T 0, 6, .inl (fun _ => 0)))])) rfl ?_
  refine n_aload_n hC 0 dX6_init_36 rfl rfl ?_
  refine n_bipush hC 6 dX6_init_37 (by decide) ?_
  refine n_bipush hC 60 dX6_init_39 (by decide) ?_
  refine n_mna (N := 6) (M := 60) (ty := .long) (z := (60, .inr (.inl (fun _ => 0)))) (t := 1) hC rfl rfl (hC.2.1.1.2 1 _ rfl).2 hC.2.1.2.2.2 cq6_24 arL (by decide) (by decide) (by decide) (by decide) (Nat.le_of_ble_eq_true rfl) (Nat.le_of_ble_eq_true rfl) (Nat.le_of_ble_eq_true rfl) rfl rfl (fun c => innerC_arr c _ _) (Nat.le_of_ble_eq_true rfl) (Nat.le_of_ble_eq_true rfl) dX6_init_41 (fun q5 r5 => ?_)
  refine n_eq (W1 := (h0, .inr (6, [.ref q1, .ref q2, .ref q3, .ref q4, .null])) :: (((((([] ++ [(q1, .inl (T 0, 6, .inl (fun _ => 0)))]) ++ [(q2, .inl (T 0, 6, .inl (fun _ => 0)))]) ++ [(q3, .inl (T 0, 6, .inl (fun _ => 0)))]) ++ [(q4, .inl (T 0, 6, .inl (fun _ => 0)))]) ++ [(q5, .inl (T 4, 6, .inr (.inr (.inr (.inr (fun i => if i < 6 then some (r5 i) else none))))))]) ++ [(r5 0, .inl (T 1, 60, .inr (.inl (fun _ => 0)))), (r5 1, .inl (T 1, 60, .inr (.inl (fun _ => 0)))), (r5 2, .inl (T 1, 60, .inr (.inl (fun _ => 0)))), (r5 3, .inl (T 1, 60, .inr (.inl (fun _ => 0)))), (r5 4, .inl (T 1, 60, .inr (.inl (fun _ => 0)))), (r5 5, .inl (T 1, 60, .inr (.inl (fun _ => 0))))])) rfl ?_
  refine n_put hC fl6_26 (fun _ _ _ h => by cases h; rfl) rfl rfl (Nat.le_of_ble_eq_true rfl) dX6_init_45 ?_
  refine n_eq (W1 := (h0, .inr (6, [.ref q1, .ref q2, .ref q3, .ref q4, .ref q5])) :: (((((([] ++ [(q1, .inl (T 0, 6, .inl (fun _ => 0)))]) ++ [(q2, .inl (T 0, 6, .inl (fun _ => 0)))]) ++ [(q3, .inl (T 0, 6, .inl (fun _ => 0)))]) ++ [(q4, .inl (T 0, 6, .inl (fun _ => 0)))]) ++ [(q5, .inl (T 4, 6, .inr (.inr (.inr (.inr (fun i => if i < 6 then some (r5 i) else none))))))]) ++ [(r5 0, .inl (T 1, 60, .inr (.inl (fun _ => 0)))), (r5 1, .inl (T 1, 60, .inr (.inl (fun _ => 0)))), (r5 2, .inl (T 1, 60, .inr (.inl (fun _ => 0)))), (r5 3, .inl (T 1, 60, .inr (.inl (fun _ => 0)))), (r5 4, .inl (T 1, 60, .inr (.inl (fun _ => 0)))), (r5 5, .inl (T 1, 60, .inr (.inl (fun _ => 0))))])) rfl ?_
  exact n_ret (S := Nat → Nat) (ow := fun α => α 0) (blk := bShel T) hC (fun k => match k with | 0 => h0 | 1 => q1 | 2 => q2 | 3 => q3 | 4 => q4 | 5 => q5 | i + 6 => r5 i) rfl dX6_init_48 (Nat.le_of_ble_eq_true rfl) (Nat.le_of_ble_eq_true rfl) (fun H h => h) (fun B h => h)
