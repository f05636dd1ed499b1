/-! the constructors -/
def bDrum (T : Nat → ClassId) (α : Nat → Nat) : va_W := [(α 0, .inr (2, [.ref (α 1), .ref (α 2), .ref (α 3), .ref (α 4), .int 0, .int 0])), (α 1, .inl (T 0, 12, .inl (fun _ => 0))), (α 2, .inl (T 0, 12, .inl (fun _ => 0))), (α 3, .inl (T 0, 12, .inl (fun _ => 0))), (α 4, .inl (T 0, 12, .inl (fun _ => 0)))]
def bChg (T : Nat → ClassId) (a1 : Nat) (α : Nat → Nat) : va_W := [(α 0, .inr (1, [.ref a1, .ref (α 1), .ref (α 2), .ref (α 3), .ref (α 4), .int 0, .int 0])), (α 1, .inl (T 0, 40, .inl (fun _ => 0))), (α 2, .inl (T 0, 40, .inl (fun _ => 0))), (α 3, .inl (T 0, 40, .inl (fun _ => 0))), (α 4, .inl (T 0, 40, .inl (fun _ => 0)))]
def bMach (T : Nat → ClassId) (α : Nat → Nat) : va_W := [(α 0, .inr (5, [.int 310, .int 100, .int 0, .int 0, .int 9999, .ref (α 1), .ref (α 2), .ref (α 3), .int 0])), (α 1, .inl (T 0, 4, .inl (fun _ => 0))), (α 2, .inl (T 0, 4, .inl (fun _ => 0))), (α 3, .inl (T 0, 4, .inl (fun _ => 0)))]
def bTape (T : Nat → ClassId) (α : Nat → Nat) : va_W := [(α 0, .inr (7, [.ref (α 1), .int 0, .int 0, .null])), (α 1, .inl (T 0, 120, .inl (fun _ => 0)))]
def bLaw (T : Nat → ClassId) (α : Nat → Nat) : va_W := [(α 0, .inr (3, [.ref (α 1), .ref (α 2), .int 0, .int 0])), (α 1, .inl (T 0, 120, .inl (fun _ => 0))), (α 2, .inl (T 0, 120, .inl (fun _ => 0)))]
def bLaws (T : Nat → ClassId) (α : Nat → Nat) : va_W := [(α 0, .inr (4, [.ref (α 1), .ref (α 3), .ref (α 4), .int 0, .int (-1)])), (α 1, .inr (7, [.ref (α 2), .int 0, .int 0, .null])), (α 2, .inl (T 0, 120, .inl (fun _ => 0))), (α 3, .inl (T 2, 4, .inr (.inr (.inr (.inr (va_up (va_up (va_up (va_up (fun _ => none) 0 (some (α 5))) 1 (some (α 8))) 2 (some (α 11))) 3 (some (α 14)))))))), (α 4, .inl (T 0, 9, .inl (fun _ => 0))), (α 5, .inr (3, [.ref (α 6), .ref (α 7), .int 0, .int 0])), (α 6, .inl (T 0, 120, .inl (fun _ => 0))), (α 7, .inl (T 0, 120, .inl (fun _ => 0))), (α 8, .inr (3, [.ref (α 9), .ref (α 10), .int 0, .int 0])), (α 9, .inl (T 0, 120, .inl (fun _ => 0))), (α 10, .inl (T 0, 120, .inl (fun _ => 0))), (α 11, .inr (3, [.ref (α 12), .ref (α 13), .int 0, .int 0])), (α 12, .inl (T 0, 120, .inl (fun _ => 0))), (α 13, .inl (T 0, 120, .inl (fun _ => 0))), (α 14, .inr (3, [.ref (α 15), .ref (α 16), .int 0, .int 0])), (α 15, .inl (T 0, 120, .inl (fun _ => 0))), (α 16, .inl (T 0, 120, .inl (fun _ => 0)))]
def bWalk (T : Nat → ClassId) (a1 a2 : Nat) (α : Nat → Nat) : va_W := [(α 0, .inr (9, [.ref a1, .ref a2, .ref (α 1), .ref (α 6), .int 0, .int 0, .int 0, .int 0, .int 0, .int 0, .int 0, .int 0, .int 0, .int 0, .int 0, .int 0, .int 0])), (α 1, .inr (2, [.ref (α 2), .ref (α 3), .ref (α 4), .ref (α 5), .int 0, .int 0])), (α 2, .inl (T 0, 12, .inl (fun _ => 0))), (α 3, .inl (T 0, 12, .inl (fun _ => 0))), (α 4, .inl (T 0, 12, .inl (fun _ => 0))), (α 5, .inl (T 0, 12, .inl (fun _ => 0))), (α 6, .inl (T 3, 5, .inr (.inr (.inr (.inr (fun i => if i < 5 then some (α (i + 7)) else none)))))), (α 7, .inl (T 0, 200, .inl (fun _ => 0))), (α 8, .inl (T 0, 200, .inl (fun _ => 0))), (α 9, .inl (T 0, 200, .inl (fun _ => 0))), (α 10, .inl (T 0, 200, .inl (fun _ => 0))), (α 11, .inl (T 0, 200, .inl (fun _ => 0)))]
def bThink (T : Nat → ClassId) (a1 a2 a3 : Nat) (α : Nat × (Nat → Nat) × (Nat → Nat)) : va_W := (α.1, .inr (8, [.ref a1, .ref a2, .ref a3, .ref (α.2.1 0), .ref (α.2.2 0), .int 0, .int 0, .int 0, .int 0, .int 0])) :: (bDrum T α.2.1 ++ bWalk T a2 a3 α.2.2)
def bActs (T : Nat → ClassId) (α : Nat → Nat) : va_W := [(α 0, .inr (0, [.ref (α 1), .ref (α 2), .int 0, .int 0, .int 0, .int 0])), (α 1, .inl (T 0, 50, .inl (fun _ => 0))), (α 2, .inl (T 0, 24, .inl (fun _ => 0)))]
def bShel (T : Nat → ClassId) (α : Nat → Nat) : va_W := [(α 0, .inr (6, [.ref (α 1), .ref (α 2), .ref (α 3), .ref (α 4), .ref (α 5)])), (α 1, .inl (T 0, 6, .inl (fun _ => 0))), (α 2, .inl (T 0, 6, .inl (fun _ => 0))), (α 3, .inl (T 0, 6, .inl (fun _ => 0))), (α 4, .inl (T 0, 6, .inl (fun _ => 0))), (α 5, .inl (T 4, 6, .inr (.inr (.inr (.inr (fun i => if i < 6 then some (α (i + 6)) else none)))))), (α 6, .inl (T 1, 60, .inr (.inl (fun _ => 0)))), (α 7, .inl (T 1, 60, .inr (.inl (fun _ => 0)))), (α 8, .inl (T 1, 60, .inr (.inl (fun _ => 0)))), (α 9, .inl (T 1, 60, .inr (.inl (fun _ => 0)))), (α 10, .inl (T 1, 60, .inr (.inl (fun _ => 0)))), (α 11, .inl (T 1, 60, .inr (.inl (fun _ => 0))))]
abbrev SMW : Type := Nat × (Nat → Nat) × (Nat → Nat) × (Nat → Nat) × (Nat → Nat) × (Nat → Nat) × (Nat × (Nat → Nat) × (Nat → Nat)) × (Nat → Nat) × (Nat → Nat)
def bMW (T : Nat → ClassId) (α : SMW) : va_W := (α.1, .inr (10, [.ref (α.2.1 0), .ref (α.2.2.1 0), .ref (α.2.2.2.1 0), .ref (α.2.2.2.2.1 0), .ref (α.2.2.2.2.2.1 0), .ref α.2.2.2.2.2.2.1.1, .ref (α.2.2.2.2.2.2.2.1 0), .ref (α.2.2.2.2.2.2.2.2 0)])) :: ((((((((([] ++ bDrum T (α.2.1)) ++ bChg T (α.2.1 0) (α.2.2.1)) ++ bMach T (α.2.2.2.1)) ++ bLaws T (α.2.2.2.2.1)) ++ bWalk T (α.2.2.2.1 0) (α.2.2.2.2.1 0) (α.2.2.2.2.2.1)) ++ bThink T (α.2.1 0) (α.2.2.2.1 0) (α.2.2.2.2.1 0) (α.2.2.2.2.2.2.1)) ++ bActs T (α.2.2.2.2.2.2.2.1)) ++ bShel T (α.2.2.2.2.2.2.2.2)))
def bMod (T : Nat → ClassId) (α : Nat → Nat) : va_W := [(α 0, .inr (11, [.ref (α 1), .ref (α 2), .ref (α 3), .ref (α 4), .int 0, .int 0, .int 0, .ref (α 5), .ref (α 6), .int 0, .ref (α 7), .ref (α 8), .ref (α 9), .ref (α 10), .int 0, .int 0, .int (-1), .ref (α 11), .ref (α 12), .int 0, .int 0, .int 0, .int 0, .int 0, .ref (α 13), .int 0, .ref (α 14), .ref (α 15), .ref (α 16), .ref (α 17), .ref (α 18), .ref (α 19), .ref (α 20), .int 0, .int 0, .int 0, .int 0, .int 0, .int 0, .int 0, .int 0, .int 0, .int 0, .int 0, .int 0, .int 0, .int 0, .int 0, .int 0, .int 0, .int 0, .int 0, .int 0, .int 0, .ref (α 21), .ref (α 22), .int 0, .int 0, .int 0, .ref (α 23), .ref (α 24), .ref (α 25), .ref (α 26)])), (α 1, .inl (T 0, 37, .inl (fun _ => 0))), (α 2, .inl (T 0, 40, .inl (fun _ => 0))), (α 3, .inl (T 0, 40, .inl (fun _ => 0))), (α 4, .inl (T 0, 40, .inl (fun _ => 0))), (α 5, .inl (T 0, 12, .inl (fun _ => 0))), (α 6, .inl (T 0, 5, .inl (upd (upd (upd (fun _ => 0) 0 310) 1 100) 4 9999))), (α 7, .inl (T 0, 4, .inl (fun _ => 0))), (α 8, .inl (T 0, 4, .inl (fun _ => 0))), (α 9, .inl (T 0, 4, .inl (fun _ => 0))), (α 10, .inl (T 0, 120, .inl (fun _ => 0))), (α 11, .inl (T 0, 480, .inl (fun _ => 0))), (α 12, .inl (T 0, 4, .inl (fun _ => 0))), (α 13, .inl (T 0, 9, .inl (fun _ => 0))), (α 14, .inl (T 0, 37, .inl (fun _ => 0))), (α 15, .inl (T 0, 200, .inl (fun _ => 0))), (α 16, .inl (T 0, 200, .inl (fun _ => 0))), (α 17, .inl (T 0, 200, .inl (fun _ => 0))), (α 18, .inl (T 0, 200, .inl (fun _ => 0))), (α 19, .inl (T 0, 200, .inl (fun _ => 0))), (α 20, .inl (T 0, 200, .inl (fun _ => 0))), (α 21, .inl (T 0, 50, .inl (fun _ => 0))), (α 22, .inl (T 0, 24, .inl (fun _ => 0))), (α 23, .inl (T 0, 6, .inl (upd (upd (upd (upd (upd (upd (fun _ => 0) 0 (-1)) 1 (-1)) 2 (-1)) 3 (-1)) 4 (-1)) 5 (-1)))), (α 24, .inl (T 0, 6, .inl (fun _ => 0))), (α 25, .inl (T 1, 360, .inr (.inl (fun _ => 0)))), (α 26, .inl (T 1, 60, .inr (.inl (fun _ => 0))))]
theorem innerC_arr (c : ClassId) (M : Nat) (v : Value) : Jvm.Free.Multi.innerC c M v = arrV c M (fun _ => v) := arrV_new c M v
set_option maxHeartbeats 4000000 in
set_option maxRecDepth 20000 in
theorem I2 {l : Launch} {D : va_G} {T : Nat → ClassId} : nM (S := Nat → Nat) l D T yX2_init cX2_init 1 1 12 4 48 [] 2 [.null, .null, .null, .null, .int 0, .int 0] (fun α => α 0) (bDrum T) := by
  refine n_enter RX2 (fun h0 => [(0, .ref h0)]) (by decide) rfl rfl (fun _ => Nat.le_of_ble_eq_true rfl) (fun _ => rfl) ?_
  intro p e s m args below meth c h0 hC
  refine n_aload_n hC 0 dX2_init_0 rfl rfl ?_
  refine n_objInit hC oi2_3 (Nat.le_of_ble_eq_true rfl) (Nat.le_of_ble_eq_true rfl) dX2_init_1 ?_
  refine n_aload_n hC 0 dX2_init_4 rfl rfl ?_
  refine n_bipush hC 12 dX2_init_5 (by decide) ?_
  refine n_newaI (N := 12) hC arI (by decide) (by decide) (Nat.le_of_ble_eq_true rfl) (Nat.le_of_ble_eq_true rfl) (Nat.le_of_ble_eq_true rfl) dX2_init_7 (fun q1 => ?_)
  refine n_eq (W1 := (h0, .inr (2, [.null, .null, .null, .null, .int 0, .int 0])) :: ([] ++ [(q1, .inl (T 0, 12, .inl (fun _ => 0)))])) rfl ?_
  refine n_put hC fl2_11 (fun _ _ _ h => by cases h; rfl) rfl rfl (Nat.le_of_ble_eq_true rfl) dX2_init_9 ?_
  refine n_eq (W1 := (h0, .inr (2, [.ref q1, .null, .null, .null, .int 0, .int 0])) :: ([] ++ [(q1, .inl (T 0, 12, .inl (fun _ => 0)))])) rfl ?_
  refine n_aload_n hC 0 dX2_init_12 rfl rfl ?_
  refine n_bipush hC 12 dX2_init_13 (by decide) ?_
  refine n_newaI (N := 12) hC arI (by decide) (by decide) (Nat.le_of_ble_eq_true rfl) (Nat.le_of_ble_eq_true rfl) (Nat.le_of_ble_eq_true rfl) dX2_init_15 (fun q2 => ?_)
  refine n_eq (W1 := (h0, .inr (2, [.ref q1, .null, .null, .null, .int 0, .int 0])) :: (([] ++ [(q1, .inl (T 0, 12, .inl (fun _ => 0)))]) ++ [(q2, .inl (T 0, 12, .inl (fun _ => 0)))])) rfl ?_
  refine n_put hC fl2_15 (fun _ _ _ h => by cases h; rfl) rfl rfl (Nat.le_of_ble_eq_true rfl) dX2_init_17 ?_
  refine n_eq (W1 := (h0, .inr (2, [.ref q1, .ref q2, .null, .null, .int 0, .int 0])) :: (([] ++ [(q1, .inl (T 0, 12, .inl (fun _ => 0)))]) ++ [(q2, .inl (T 0, 12, .inl (fun _ => 0)))])) rfl ?_
  refine n_aload_n hC 0 dX2_init_20 rfl rfl ?_
  refine n_bipush hC 12 dX2_init_21 (by decide) ?_
  refine n_newaI (N := 12) hC arI (by decide) (by decide) (Nat.le_of_ble_eq_true rfl) (Nat.le_of_ble_eq_true rfl) (Nat.le_of_ble_eq_true rfl) dX2_init_23 (fun q3 => ?_)
  refine n_eq (W1 := (h0, .inr (2, [.ref q1, .ref q2, .null, .null, .int 0, .int 0])) :: ((([] ++ [(q1, .inl (T 0, 12, .inl (fun _ => 0)))]) ++ [(q2, .inl (T 0, 12, .inl (fun _ => 0)))]) ++ [(q3, .inl (T 0, 12, .inl (fun _ => 0)))])) rfl ?_
  refine n_put hC fl2_18 (fun _ _ _ h => by cases h; rfl) rfl rfl (Nat.le_of_ble_eq_true rfl) dX2_init_25 ?_
  refine n_eq (W1 := (h0, .inr (2, [.ref q1, .ref q2, .ref q3, .null, .int 0, .int 0])) :: ((([] ++ [(q1, .inl (T 0, 12, .inl (fun _ => 0)))]) ++ [(q2, .inl (T 0, 12, .inl (fun _ => 0)))]) ++ [(q3, .inl (T 0, 12, .inl (fun _ => 0)))])) rfl ?_
  refine n_aload_n hC 0 dX2_init_28 rfl rfl ?_
  refine n_bipush hC 12 dX2_init_29 (by decide) ?_
  refine n_newaI (N := 12) hC arI (by decide) (by decide) (Nat.le_of_ble_eq_true rfl) (Nat.le_of_ble_eq_true rfl) (Nat.le_of_ble_eq_true rfl) dX2_init_31 (fun q4 => ?_)
  refine n_eq (W1 := (h0, .inr (2, [.ref q1, .ref q2, .ref q3, .null, .int 0, .int 0])) :: (((([] ++ [(q1, .inl (T 0, 12, .inl (fun _ => 0)))]) ++ [(q2, .inl (T 0, 12, .inl (fun _ => 0)))]) ++ [(q3, .inl (T 0, 12, .inl (fun _ => 0)))]) ++ [(q4, .inl (T 0, 12, .inl (fun _ => 0)))])) rfl ?_
  refine n_put hC fl2_21 (fun _ _ _ h => by cases h; rfl) rfl rfl (Nat.le_of_ble_eq_true rfl) dX2_init_33 ?_
  refine n_eq (W1 := (h0, .inr (2, [.ref q1, .ref q2, .ref q3, .ref q4, .int 0, .int 0])) :: (((([] ++ [(q1, .inl (T 0, 12, .inl (fun _ => 0)))]) ++ [(q2, .inl (T 0, 12, .inl (fun _ => 0)))]) ++ [(q3, .inl (T 0, 12, .inl (fun _ => 0)))]) ++ [(q4, .inl (T 0, 12, .inl (fun _ => 0)))])) rfl ?_
  exact n_ret (S := Nat → Nat) (ow := fun α => α 0) (blk := bDrum T) hC (fun k => match k with | 0 => h0 | 1 => q1 | 2 => q2 | 3 => q3 | _ => q4) rfl dX2_init_36 (Nat.le_of_ble_eq_true rfl) (Nat.le_of_ble_eq_true rfl) (fun H h => h) (fun B h => h)
set_option maxHeartbeats 4000000 in
set_option maxRecDepth 20000 in
theorem I1 {l : Launch} {D : va_G} {T : Nat → ClassId} {a1 : Nat} : nM (S := Nat → Nat) l D T yX1_init cX1_init 2 1 12 4 160 [.ref a1] 1 [.null, .null, .null, .null, .null, .int 0, .int 0] (fun α => α 0) (bChg T a1) := by
  refine n_enter RX1 (fun h0 => [(0, .ref h0), (1, .ref a1)]) (by decide) rfl rfl (fun _ => Nat.le_of_ble_eq_true rfl) (fun _ => rfl) ?_
  intro p e s m args below meth c h0 hC
  refine n_aload_n hC 0 dX1_init_0 rfl rfl ?_
  refine n_objInit hC oi1_3 (Nat.le_of_ble_eq_true rfl) (Nat.le_of_ble_eq_true rfl) dX1_init_1 ?_
  refine n_aload_n hC 0 dX1_init_4 rfl rfl ?_
  refine n_aload_n hC 1 dX1_init_5 rfl rfl ?_
  refine n_put hC fl1_9 (fun _ _ _ h => by cases h; rfl) rfl rfl (Nat.le_of_ble_eq_true rfl) dX1_init_6 ?_
  refine n_eq (W1 := (h0, .inr (1, [.ref a1, .null, .null, .null, .null, .int 0, .int 0])) :: []) rfl ?_
  refine n_aload_n hC 0 dX1_init_9 rfl rfl ?_
  refine n_bipush hC 40 dX1_init_10 (by decide) ?_
  refine n_newaI (N := 40) hC arI (by decide) (by decide) (Nat.le_of_ble_eq_true rfl) (Nat.le_of_ble_eq_true rfl) (Nat.le_of_ble_eq_true rfl) dX1_init_12 (fun q1 => ?_)
  refine n_eq (W1 := (h0, .inr (1, [.ref a1, .null, .null, .null, .null, .int 0, .int 0])) :: ([] ++ [(q1, .inl (T 0, 40, .inl (fun _ => 0)))])) rfl ?_
  refine n_put hC fl1_15 (fun _ _ _ h => by cases h; rfl) rfl rfl (Nat.le_of_ble_eq_true rfl) dX1_init_14 ?_
  refine n_eq (W1 := (h0, .inr (1, [.ref a1, .ref q1, .null, .null, .null, .int 0, .int 0])) :: ([] ++ [(q1, .inl (T 0, 40, .inl (fun _ => 0)))])) rfl ?_
  refine n_aload_n hC 0 dX1_init_17 rfl rfl ?_
  refine n_bipush hC 40 dX1_init_18 (by decide) ?_
  refine n_newaI (N := 40) hC arI (by decide) (by decide) (Nat.le_of_ble_eq_true rfl) (Nat.le_of_ble_eq_true rfl) (Nat.le_of_ble_eq_true rfl) dX1_init_20 (fun q2 => ?_)
  refine n_eq (W1 := (h0, .inr (1, [.ref a1, .ref q1, .null, .null, .null, .int 0, .int 0])) :: (([] ++ [(q1, .inl (T 0, 40, .inl (fun _ => 0)))]) ++ [(q2, .inl (T 0, 40, .inl (fun _ => 0)))])) rfl ?_
  refine n_put hC fl1_19 (fun _ _ _ h => by cases h; rfl) rfl rfl (Nat.le_of_ble_eq_true rfl) dX1_init_22 ?_
  refine n_eq (W1 := (h0, .inr (1, [.ref a1, .ref q1, .ref q2, .null, .null, .int 0, .int 0])) :: (([] ++ [(q1, .inl (T 0, 40, .inl (fun _ => 0)))]) ++ [(q2, .inl (T 0, 40, .inl (fun _ => 0)))])) rfl ?_
  refine n_aload_n hC 0 dX1_init_25 rfl rfl ?_
  refine n_bipush hC 40 dX1_init_26 (by decide) ?_
  refine n_newaI (N := 40) hC arI (by decide) (by decide) (Nat.le_of_ble_eq_true rfl) (Nat.le_of_ble_eq_true rfl) (Nat.le_of_ble_eq_true rfl) dX1_init_28 (fun q3 => ?_)
  refine n_eq (W1 := (h0, .inr (1, [.ref a1, .ref q1, .ref q2, .null, .null, .int 0, .int 0])) :: ((([] ++ [(q1, .inl (T 0, 40, .inl (fun _ => 0)))]) ++ [(q2, .inl (T 0, 40, .inl (fun _ => 0)))]) ++ [(q3, .inl (T 0, 40, .inl (fun _ => 0)))])) rfl ?_
  refine n_put hC fl1_22 (fun _ _ _ h => by cases h; rfl) rfl rfl (Nat.le_of_ble_eq_true rfl) dX1_init_30 ?_
  refine n_eq (W1 := (h0, .inr (1, [.ref a1, .ref q1, .ref q2, .ref q3, .null, .int 0, .int 0])) :: ((([] ++ [(q1, .inl (T 0, 40, .inl (fun _ => 0)))]) ++ [(q2, .inl (T 0, 40, .inl (fun _ => 0)))]) ++ [(q3, .inl (T 0, 40, .inl (fun _ => 0)))])) rfl ?_
  refine n_aload_n hC 0 dX1_init_33 rfl rfl ?_
  refine n_bipush hC 40 dX1_init_34 (by decide) ?_
  refine n_newaI (N := 40) hC arI (by decide) (by decide) (Nat.le_of_ble_eq_true rfl) (Nat.le_of_ble_eq_true rfl) (Nat.le_of_ble_eq_true rfl) dX1_init_36 (fun q4 => ?_)
  refine n_eq (W1 := (h0, .inr (1, [.ref a1, .ref q1, .ref q2, .ref q3, .null, .int 0, .int 0])) :: (((([] ++ [(q1, .inl (T 0, 40, .inl (fun _ => 0)))]) ++ [(q2, .inl (T 0, 40, .inl (fun _ => 0)))]) ++ [(q3, .inl (T 0, 40, .inl (fun _ => 0)))]) ++ [(q4, .inl (T 0, 40, .inl (fun _ => 0)))])) rfl ?_
  refine n_put hC fl1_25 (fun _ _ _ h => by cases h; rfl) rfl rfl (Nat.le_of_ble_eq_true rfl) dX1_init_38 ?_
  refine n_eq (W1 := (h0, .inr (1, [.ref a1, .ref q1, .ref q2, .ref q3, .ref q4, .int 0, .int 0])) :: (((([] ++ [(q1, .inl (T 0, 40, .inl (fun _ => 0)))]) ++ [(q2, .inl (T 0, 40, .inl (fun _ => 0)))]) ++ [(q3, .inl (T 0, 40, .inl (fun _ => 0)))]) ++ [(q4, .inl (T 0, 40, .inl (fun _ => 0)))])) rfl ?_
  exact n_ret (S := Nat → Nat) (ow := fun α => α 0) (blk := bChg T a1) hC (fun k => match k with | 0 => h0 | 1 => q1 | 2 => q2 | 3 => q3 | _ => q4) rfl dX1_init_41 (Nat.le_of_ble_eq_true rfl) (Nat.le_of_ble_eq_true rfl) (fun H h => h) (fun B h => h)
set_option maxHeartbeats 4000000 in
set_option maxRecDepth 20000 in
theorem I5 {l : Launch} {D : va_G} {T : Nat → ClassId} : nM (S := Nat → Nat) l D T yX5_init cX5_init 1 1 12 3 12 [] 5 [.int 0, .int 0, .int 0, .int 0, .int 0, .null, .null, .null, .int 0] (fun α => α 0) (bMach T) := by
  refine n_enter RX5 (fun h0 => [(0, .ref h0)]) (by decide) rfl rfl (fun _ => Nat.le_of_ble_eq_true rfl) (fun _ => rfl) ?_
  intro p e s m args below meth c h0 hC
  refine n_aload_n hC 0 dX5_init_0 rfl rfl ?_
  refine n_objInit hC oi5_3 (Nat.le_of_ble_eq_true rfl) (Nat.le_of_ble_eq_true rfl) dX5_init_1 ?_
  refine n_aload_n hC 0 dX5_init_4 rfl rfl ?_
  refine n_sipush hC 310 dX5_init_5 (by decide) ?_
  refine n_put hC fl5_9 (fun _ _ _ h => by cases h; rfl) rfl rfl (Nat.le_of_ble_eq_true rfl) dX5_init_8 ?_
  refine n_eq (W1 := (h0, .inr (5, [.int 310, .int 0, .int 0, .int 0, .int 0, .null, .null, .null, .int 0])) :: []) rfl ?_
  refine n_aload_n hC 0 dX5_init_11 rfl rfl ?_
  refine n_bipush hC 100 dX5_init_12 (by decide) ?_
  refine n_put hC fl5_15 (fun _ _ _ h => by cases h; rfl) rfl rfl (Nat.le_of_ble_eq_true rfl) dX5_init_14 ?_
  refine n_eq (W1 := (h0, .inr (5, [.int 310, .int 100, .int 0, .int 0, .int 0, .null, .null, .null, .int 0])) :: []) rfl ?_
  refine n_aload_n hC 0 dX5_init_17 rfl rfl ?_
  refine n_sipush hC 9999 dX5_init_18 (by decide) ?_
  refine n_put hC fl5_18 (fun _ _ _ h => by cases h; rfl) rfl rfl (Nat.le_of_ble_eq_true rfl) dX5_init_21 ?_
  refine n_eq (W1 := (h0, .inr (5, [.int 310, .int 100, .int 0, .int 0, .int 9999, .null, .null, .null, .int 0])) :: []) rfl ?_
  refine n_aload_n hC 0 dX5_init_24 rfl rfl ?_
  refine n_iconst hC 4 dX5_init_25 (by decide) ?_
  refine n_newaI (N := 4) hC arI (by decide) (by decide) (Nat.le_of_ble_eq_true rfl) (Nat.le_of_ble_eq_true rfl) (Nat.le_of_ble_eq_true rfl) dX5_init_26 (fun q1 => ?_)
  refine n_eq (W1 := (h0, .inr (5, [.int 310, .int 100, .int 0, .int 0, .int 9999, .null, .null, .null, .int 0])) :: ([] ++ [(q1, .inl (T 0, 4, .inl (fun _ => 0)))])) rfl ?_
  refine n_put hC fl5_21 (fun _ _ _ h => by cases h; rfl) rfl rfl (Nat.le_of_ble_eq_true rfl) dX5_init_28 ?_
  refine n_eq (W1 := (h0, .inr (5, [.int 310, .int 100, .int 0, .int 0, .int 9999, .ref q1, .null, .null, .int 0])) :: ([] ++ [(q1, .inl (T 0, 4, .inl (fun _ => 0)))])) rfl ?_
  refine n_aload_n hC 0 dX5_init_31 rfl rfl ?_
  refine n_iconst hC 4 dX5_init_32 (by decide) ?_
  refine n_newaI (N := 4) hC arI (by decide) (by decide) (Nat.le_of_ble_eq_true rfl) (Nat.le_of_ble_eq_true rfl) (Nat.le_of_ble_eq_true rfl) dX5_init_33 (fun q2 => ?_)
  refine n_eq (W1 := (h0, .inr (5, [.int 310, .int 100, .int 0, .int 0, .int 9999, .ref q1, .null, .null, .int 0])) :: (([] ++ [(q1, .inl (T 0, 4, .inl (fun _ => 0)))]) ++ [(q2, .inl (T 0, 4, .inl (fun _ => 0)))])) rfl ?_
  refine n_put hC fl5_25 (fun _ _ _ h => by cases h; rfl) rfl rfl (Nat.le_of_ble_eq_true rfl) dX5_init_35 ?_
  refine n_eq (W1 := (h0, .inr (5, [.int 310, .int 100, .int 0, .int 0, .int 9999, .ref q1, .ref q2, .null, .int 0])) :: (([] ++ [(q1, .inl (T 0, 4, .inl (fun _ => 0)))]) ++ [(q2, .inl (T 0, 4, .inl (fun _ => 0)))])) rfl ?_
  refine n_aload_n hC 0 dX5_init_38 rfl rfl ?_
  refine n_iconst hC 4 dX5_init_39 (by decide) ?_
  refine n_newaI (N := 4) hC arI (by decide) (by decide) (Nat.le_of_ble_eq_true rfl) (Nat.le_of_ble_eq_true rfl) (Nat.le_of_ble_eq_true rfl) dX5_init_40 (fun q3 => ?_)
  refine n_eq (W1 := (h0, .inr (5, [.int 310, .int 100, .int 0, .int 0, .int 9999, .ref q1, .ref q2, .null, .int 0])) :: ((([] ++ [(q1, .inl (T 0, 4, .inl (fun _ => 0)))]) ++ [(q2, .inl (T 0, 4, .inl (fun _ => 0)))]) ++ [(q3, .inl (T 0, 4, .inl (fun _ => 0)))])) rfl ?_
  refine n_put hC fl5_28 (fun _ _ _ h => by cases h; rfl) rfl rfl (Nat.le_of_ble_eq_true rfl) dX5_init_42 ?_
  refine n_eq (W1 := (h0, .inr (5, [.int 310, .int 100, .int 0, .int 0, .int 9999, .ref q1, .ref q2, .ref q3, .int 0])) :: ((([] ++ [(q1, .inl (T 0, 4, .inl (fun _ => 0)))]) ++ [(q2, .inl (T 0, 4, .inl (fun _ => 0)))]) ++ [(q3, .inl (T 0, 4, .inl (fun _ => 0)))])) rfl ?_
  exact n_ret (S := Nat → Nat) (ow := fun α => α 0) (blk := bMach T) hC (fun k => match k with | 0 => h0 | 1 => q1 | 2 => q2 | _ => q3) rfl dX5_init_45 (Nat.le_of_ble_eq_true rfl) (Nat.le_of_ble_eq_true rfl) (fun H h => h) (fun B h => h)
set_option maxHeartbeats 4000000 in
set_option maxRecDepth 20000 in
theorem I7 {l : Launch} {D : va_G} {T : Nat → ClassId} : nM (S := Nat → Nat) l D T yX7_init cX7_init 1 1 12 1 120 [] 7 [.null, .int 0, .int 0, .null] (fun α => α 0) (bTape T) := by
  refine n_enter RX7 (fun h0 => [(0, .ref h0)]) (by decide) rfl rfl (fun _ => Nat.le_of_ble_eq_true rfl) (fun _ => rfl) ?_
  intro p e s m args below meth c h0 hC
  refine n_aload_n hC 0 dX7_init_0 rfl rfl ?_
  refine n_objInit hC oi7_1 (Nat.le_of_ble_eq_true rfl) (Nat.le_of_ble_eq_true rfl) dX7_init_1 ?_
  refine n_aload_n hC 0 dX7_init_4 rfl rfl ?_
  refine n_bipush hC 120 dX7_init_5 (by decide) ?_
  refine n_newaI (N := 120) hC arI (by decide) (by decide) (Nat.le_of_ble_eq_true rfl) (Nat.le_of_ble_eq_true rfl) (Nat.le_of_ble_eq_true rfl) dX7_init_7 (fun q1 => ?_)
  refine n_eq (W1 := (h0, .inr (7, [.null, .int 0, .int 0, .null])) :: ([] ++ [(q1, .inl (T 0, 120, .inl (fun _ => 0)))])) rfl ?_
  refine n_put hC fl7_9 (fun _ _ _ h => by cases h; rfl) rfl rfl (Nat.le_of_ble_eq_true rfl) dX7_init_9 ?_
  refine n_eq (W1 := (h0, .inr (7, [.ref q1, .int 0, .int 0, .null])) :: ([] ++ [(q1, .inl (T 0, 120, .inl (fun _ => 0)))])) rfl ?_
  exact n_ret (S := Nat → Nat) (ow := fun α => α 0) (blk := bTape T) hC (fun k => match k with | 0 => h0  | _ => q1) rfl dX7_init_12 (Nat.le_of_ble_eq_true rfl) (Nat.le_of_ble_eq_true rfl) (fun H h => h) (fun B h => h)
set_option maxHeartbeats 4000000 in
set_option maxRecDepth 20000 in
theorem I3 {l : Launch} {D : va_G} {T : Nat → ClassId} : nM (S := Nat → Nat) l D T yX3_init cX3_init 1 1 12 2 240 [] 3 [.null, .null, .int 0, .int 0] (fun α => α 0) (bLaw T) := by
  refine n_enter RX3 (fun h0 => [(0, .ref h0)]) (by decide) rfl rfl (fun _ => Nat.le_of_ble_eq_true rfl) (fun _ => rfl) ?_
  intro p e s m args below meth c h0 hC
  refine n_aload_n hC 0 dX3_init_0 rfl rfl ?_
  refine n_objInit hC oi3_3 (Nat.le_of_ble_eq_true rfl) (Nat.le_of_ble_eq_true rfl) dX3_init_1 ?_
  refine n_aload_n hC 0 dX3_init_4 rfl rfl ?_
  refine n_bipush hC 120 dX3_init_5 (by decide) ?_
  refine n_newaI (N := 120) hC arI (by decide) (by decide) (Nat.le_of_ble_eq_true rfl) (Nat.le_of_ble_eq_true rfl) (Nat.le_of_ble_eq_true rfl) dX3_init_7 (fun q1 => ?_)
  refine n_eq (W1 := (h0, .inr (3, [.null, .null, .int 0, .int 0])) :: ([] ++ [(q1, .inl (T 0, 120, .inl (fun _ => 0)))])) rfl ?_
  refine n_put hC fl3_11 (fun _ _ _ h => by cases h; rfl) rfl rfl (Nat.le_of_ble_eq_true rfl) dX3_init_9 ?_
  refine n_eq (W1 := (h0, .inr (3, [.ref q1, .null, .int 0, .int 0])) :: ([] ++ [(q1, .inl (T 0, 120, .inl (fun _ => 0)))])) rfl ?_
  refine n_aload_n hC 0 dX3_init_12 rfl rfl ?_
  refine n_bipush hC 120 dX3_init_13 (by decide) ?_
  refine n_newaI (N := 120) hC arI (by decide) (by decide) (Nat.le_of_ble_eq_true rfl) (Nat.le_of_ble_eq_true rfl) (Nat.le_of_ble_eq_true rfl) dX3_init_15 (fun q2 => ?_)
  refine n_eq (W1 := (h0, .inr (3, [.ref q1, .null, .int 0, .int 0])) :: (([] ++ [(q1, .inl (T 0, 120, .inl (fun _ => 0)))]) ++ [(q2, .inl (T 0, 120, .inl (fun _ => 0)))])) rfl ?_
  refine n_put hC fl3_15 (fun _ _ _ h => by cases h; rfl) rfl rfl (Nat.le_of_ble_eq_true rfl) dX3_init_17 ?_
  refine n_eq (W1 := (h0, .inr (3, [.ref q1, .ref q2, .int 0, .int 0])) :: (([] ++ [(q1, .inl (T 0, 120, .inl (fun _ => 0)))]) ++ [(q2, .inl (T 0, 120, .inl (fun _ => 0)))])) rfl ?_
  exact n_ret (S := Nat → Nat) (ow := fun α => α 0) (blk := bLaw T) hC (fun k => match k with | 0 => h0 | 1 => q1 | _ => q2) rfl dX3_init_20 (Nat.le_of_ble_eq_true rfl) (Nat.le_of_ble_eq_true rfl) (fun H h => h) (fun B h => h)
