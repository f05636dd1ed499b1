/-! the constructor of the reference -/
section NUR2
variable {p : Program} {l : Launch} {e : Env} {R : Room} {s : State} {m : MethodId} {args : Array Value} {below : List Frame} {meth : Method} {c : Code} {D : va_G} {T : Nat → ClassId} {A : Nat → Prop} {cc : ByteArray} {nL : Nat} {own : String} {Q : State → Prop} {pc : Nat} {lv : List (Nat × Value)} {st : List Value} {cs ss : Nat} {ws : va_W} {x : Nat × va_E}
theorem n_back {y : Nat × va_E} (K : nW p l e R s m args below meth c D A nL Q pc lv st cs ss (x :: y :: ws)) : nW p l e R s m args below meth c D A nL Q pc lv st cs ss ((x :: ws) ++ [y]) := fun ls H locs hl hP hD hS => K ls H locs hl (va_P.swap (a := [x]) (b := ws) (c := [y]) hP) (va_D.swap (a := [x]) (b := ws) (c := [y]) hD) hS
theorem n_newaI3 (hC : nC p s m args meth c D T A cc nL own) {N : Nat} {n : Int32} (harr : Cond.arrayClass .int ∈ mw_T) (hn : ¬ n < 0) (hN : n.toNatClampNeg = N) (hby : N * 4 ≤ 536870912) (hc : cs + 1 ≤ R.cells) (hs : ss + N ≤ R.slots) (hdg : decode cc pc = .ok (.newarray .int, 2)) (K : ∀ q, nW p l e R s m args below meth c D A nL Q (pc + 2) lv (.ref q :: st) (cs + 1) (ss + N) (x :: (q, .inl (T 0, N, .inl (fun _ => 0))) :: ws)) : nW p l e R s m args below meth c D A nL Q pc lv (.int n :: st) cs ss (x :: ws) := n_newaI hC harr hn hN hby hc hs hdg (fun q => n_back (K q))
theorem n_newaL3 (hC : nC p s m args meth c D T A cc nL own) {N : Nat} {n : Int32} (harr : Cond.arrayClass .long ∈ mw_T) (hn : ¬ n < 0) (hN : n.toNatClampNeg = N) (hby : N * 8 ≤ 536870912) (hc : cs + 1 ≤ R.cells) (hs : ss + N ≤ R.slots) (hdg : decode cc pc = .ok (.newarray .long, 2)) (K : ∀ q, nW p l e R s m args below meth c D A nL Q (pc + 2) lv (.ref q :: st) (cs + 1) (ss + N) (x :: (q, .inl (T 1, N, .inr (.inl (fun _ => 0)))) :: ws)) : nW p l e R s m args below meth c D A nL Q pc lv (.int n :: st) cs ss (x :: ws) := n_newaL hC harr hn hN hby hc hs hdg (fun q => n_back (K q))
theorem n_put2 (hC : nC p s m args meth c D T A cc nL own) {idx ci j h0 : Nat} {ty : FieldType} {fin : Bool} {v : Value} {fs : List Value} (hf : mw_fl own idx ci j ty fin) (ho : ∀ C T N, vwCl[ci]? = some (C, T, N) → C = own) (hn : narrow ty v = v) (hfit : fits ty v = true) (hl0 : j < fs.length) (hdg : decode cc pc = .ok (.putfield idx, 3)) (fs' : List Value) (he : fs.set j v = fs') (K : nW p l e R s m args below meth c D A nL Q (pc + 3) lv st cs ss ((h0, .inr (ci, fs')) :: ws)) : nW p l e R s m args below meth c D A nL Q pc lv (v :: .ref h0 :: st) cs ss ((h0, .inr (ci, fs)) :: ws) := n_put hC hf ho hn hfit hl0 hdg (by rw [he]; exact K)
theorem n_iast2 (hC : nC p s m args meth c D T A cc nL own) {a n : Nat} {f : Nat → Int32} {i v : Int32} (q0 : Nat) (ha : ws[q0]? = some (a, .inl (T 0, n, .inl f))) (hin : vp_in i n) (hdg : decode cc pc = .ok (.iastore, 1)) (K : nW p l e R s m args below meth c D A nL Q (pc + 1) lv st cs ss (x :: ws.set q0 (a, .inl (T 0, n, .inl (upd f i.toNatClampNeg v))))) : nW p l e R s m args below meth c D A nL Q pc lv (.int v :: .int i :: .ref a :: st) cs ss (x :: ws) := n_iast hC (q0 + 1) ha hin hdg (n_eq rfl K)
end NUR2
set_option maxHeartbeats 4000000 in
set_option maxRecDepth 20000 in
theorem I11 {l : Launch} {D : va_G} {T : Nat → ClassId} : nM (S := Nat → Nat) l D T yX11_init cX11_init 2 1 12 26 2542 [] 11 [.null, .null, .null, .null, .int 0, .int 0, .int 0, .null, .null, .int 0, .null, .null, .null, .null, .int 0, .int 0, .int 0, .null, .null, .int 0, .int 0, .int 0, .int 0, .int 0, .null, .int 0, .null, .null, .null, .null, .null, .null, .null, .int 0, .int 0, .int 0, .int 0, .int 0, .int 0, .int 0, .int 0, .int 0, .int 0, .int 0, .int 0, .int 0, .int 0, .int 0, .int 0, .int 0, .int 0, .int 0, .int 0, .int 0, .null, .null, .int 0, .int 0, .int 0, .null, .null, .null, .null] (fun α => α 0) (bMod T) := by
  refine n_enter RX11 (fun h0 => [(0, .ref h0)]) (by decide) rfl rfl (fun _ => Nat.le_of_ble_eq_true rfl) (fun _ => rfl) ?_
  intro p e s m args below meth c h0 hC
  refine n_aload_n hC 0 dX11_init_0 rfl rfl ?_
  refine n_objInit hC oi11_3 (Nat.le_of_ble_eq_true rfl) (Nat.le_of_ble_eq_true rfl) dX11_init_1 ?_
  refine n_aload_n hC 0 dX11_init_4 rfl rfl ?_
  refine n_bipush hC 37 dX11_init_5 (by decide) ?_
  refine n_newaI3 (N := 37) hC arI (by decide) (by decide) (Nat.le_of_ble_eq_true rfl) (Nat.le_of_ble_eq_true rfl) (Nat.le_of_ble_eq_true rfl) dX11_init_7 (fun q1 => ?_)
  refine n_put2 hC fl11_9 (fun _ _ _ h => by cases h; rfl) rfl rfl (Nat.le_of_ble_eq_true rfl) dX11_init_9 [.ref q1, .null, .null, .null, .int 0, .int 0, .int 0, .null, .null, .int 0, .null, .null, .null, .null, .int 0, .int 0, .int 0, .null, .null, .int 0, .int 0, .int 0, .int 0, .int 0, .null, .int 0, .null, .null, .null, .null, .null, .null, .null, .int 0, .int 0, .int 0, .int 0, .int 0, .int 0, .int 0, .int 0, .int 0, .int 0, .int 0, .int 0, .int 0, .int 0, .int 0, .int 0, .int 0, .int 0, .int 0, .int 0, .int 0, .null, .null, .int 0, .int 0, .int 0, .null, .null, .null, .null] rfl ?_
  refine n_aload_n hC 0 dX11_init_12 rfl rfl ?_
  refine n_bipush hC 40 dX11_init_13 (by decide) ?_
  refine n_newaI3 (N := 40) hC arI (by decide) (by decide) (Nat.le_of_ble_eq_true rfl) (Nat.le_of_ble_eq_true rfl) (Nat.le_of_ble_eq_true rfl) dX11_init_15 (fun q2 => ?_)
  refine n_put2 hC fl11_13 (fun _ _ _ h => by cases h; rfl) rfl rfl (Nat.le_of_ble_eq_true rfl) dX11_init_17 [.ref q1, .ref q2, .null, .null, .int 0, .int 0, .int 0, .null, .null, .int 0, .null, .null, .null, .null, .int 0, .int 0, .int 0, .null, .null, .int 0, .int 0, .int 0, .int 0, .int 0, .null, .int 0, .null, .null, .null, .null, .null, .null, .null, .int 0, .int 0, .int 0, .int 0, .int 0, .int 0, .int 0, .int 0, .int 0, .int 0, .int 0, .int 0, .int 0, .int 0, .int 0, .int 0, .int 0, .int 0, .int 0, .int 0, .int 0, .null, .null, .int 0, .int 0, .int 0, .null, .null, .null, .null] rfl ?_
  refine n_aload_n hC 0 dX11_init_20 rfl rfl ?_
  refine n_bipush hC 40 dX11_init_21 (by decide) ?_
  refine n_newaI3 (N := 40) hC arI (by decide) (by decide) (Nat.le_of_ble_eq_true rfl) (Nat.le_of_ble_eq_true rfl) (Nat.le_of_ble_eq_true rfl) dX11_init_23 (fun q3 => ?_)
  refine n_put2 hC fl11_16 (fun _ _ _ h => by cases h; rfl) rfl rfl (Nat.le_of_ble_eq_true rfl) dX11_init_25 [.ref q1, .ref q2, .ref q3, .null, .int 0, .int 0, .int 0, .null, .null, .int 0, .null, .null, .null, .null, .int 0, .int 0, .int 0, .null, .null, .int 0, .int 0, .int 0, .int 0, .int 0, .null, .int 0, .null, .null, .null, .null, .null, .null, .null, .int 0, .int 0, .int 0, .int 0, .int 0, .int 0, .int 0, .int 0, .int 0, .int 0, .int 0, .int 0, .int 0, .int 0, .int 0, .int 0, .int 0, .int 0, .int 0, .int 0, .int 0, .null, .null, .int 0, .int 0, .int 0, .null, .null, .null, .null] rfl ?_
  refine n_aload_n hC 0 dX11_init_28 rfl rfl ?_
  refine n_bipush hC 40 dX11_init_29 (by decide) ?_
  refine n_newaI3 (N := 40) hC arI (by decide) (by decide) (Nat.le_of_ble_eq_true rfl) (Nat.le_of_ble_eq_true rfl) (Nat.le_of_ble_eq_true rfl) dX11_init_31 (fun q4 => ?_)
  refine n_put2 hC fl11_19 (fun _ _ _ h => by cases h; rfl) rfl rfl (Nat.le_of_ble_eq_true rfl) dX11_init_33 [.ref q1, .ref q2, .ref q3, .ref q4, .int 0, .int 0, .int 0, .null, .null, .int 0, .null, .null, .null, .null, .int 0, .int 0, .int 0, .null, .null, .int 0, .int 0, .int 0, .int 0, .int 0, .null, .int 0, .null, .null, .null, .null, .null, .null, .null, .int 0, .int 0, .int 0, .int 0, .int 0, .int 0, .int 0, .int 0, .int 0, .int 0, .int 0, .int 0, .int 0, .int 0, .int 0, .int 0, .int 0, .int 0, .int 0, .int 0, .int 0, .null, .null, .int 0, .int 0, .int 0, .null, .null, .null, .null] rfl ?_
  refine n_aload_n hC 0 dX11_init_36 rfl rfl ?_
  refine n_bipush hC 12 dX11_init_37 (by decide) ?_
  refine n_newaI3 (N := 12) hC arI (by decide) (by decide) (Nat.le_of_ble_eq_true rfl) (Nat.le_of_ble_eq_true rfl) (Nat.le_of_ble_eq_true rfl) dX11_init_39 (fun q5 => ?_)
  refine n_put2 hC fl11_22 (fun _ _ _ h => by cases h; rfl) rfl rfl (Nat.le_of_ble_eq_true rfl) dX11_init_41 [.ref q1, .ref q2, .ref q3, .ref q4, .int 0, .int 0, .int 0, .ref q5, .null, .int 0, .null, .null, .null, .null, .int 0, .int 0, .int 0, .null, .null, .int 0, .int 0, .int 0, .int 0, .int 0, .null, .int 0, .null, .null, .null, .null, .null, .null, .null, .int 0, .int 0, .int 0, .int 0, .int 0, .int 0, .int 0, .int 0, .int 0, .int 0, .int 0, .int 0, .int 0, .int 0, .int 0, .int 0, .int 0, .int 0, .int 0, .int 0, .int 0, .null, .null, .int 0, .int 0, .int 0, .null, .null, .null, .null] rfl ?_
  refine n_aload_n hC 0 dX11_init_44 rfl rfl ?_
  refine n_iconst hC 5 dX11_init_45 (by decide) ?_
  refine n_newaI3 (N := 5) hC arI (by decide) (by decide) (Nat.le_of_ble_eq_true rfl) (Nat.le_of_ble_eq_true rfl) (Nat.le_of_ble_eq_true rfl) dX11_init_46 (fun q6 => ?_)
  refine n_put2 hC fl11_25 (fun _ _ _ h => by cases h; rfl) rfl rfl (Nat.le_of_ble_eq_true rfl) dX11_init_48 [.ref q1, .ref q2, .ref q3, .ref q4, .int 0, .int 0, .int 0, .ref q5, .ref q6, .int 0, .null, .null, .null, .null, .int 0, .int 0, .int 0, .null, .null, .int 0, .int 0, .int 0, .int 0, .int 0, .null, .int 0, .null, .null, .null, .null, .null, .null, .null, .int 0, .int 0, .int 0, .int 0, .int 0, .int 0, .int 0, .int 0, .int 0, .int 0, .int 0, .int 0, .int 0, .int 0, .int 0, .int 0, .int 0, .int 0, .int 0, .int 0, .int 0, .null, .null, .int 0, .int 0, .int 0, .null, .null, .null, .null] rfl ?_
  refine n_aload_n hC 0 dX11_init_51 rfl rfl ?_
  refine n_iconst hC 4 dX11_init_52 (by decide) ?_
  refine n_newaI3 (N := 4) hC arI (by decide) (by decide) (Nat.le_of_ble_eq_true rfl) (Nat.le_of_ble_eq_true rfl) (Nat.le_of_ble_eq_true rfl) dX11_init_53 (fun q7 => ?_)
  refine n_put2 hC fl11_28 (fun _ _ _ h => by cases h; rfl) rfl rfl (Nat.le_of_ble_eq_true rfl) dX11_init_55 [.ref q1, .ref q2, .ref q3, .ref q4, .int 0, .int 0, .int 0, .ref q5, .ref q6, .int 0, .ref q7, .null, .null, .null, .int 0, .int 0, .int 0, .null, .null, .int 0, .int 0, .int 0, .int 0, .int 0, .null, .int 0, .null, .null, .null, .null, .null, .null, .null, .int 0, .int 0, .int 0, .int 0, .int 0, .int 0, .int 0, .int 0, .int 0, .int 0, .int 0, .int 0, .int 0, .int 0, .int 0, .int 0, .int 0, .int 0, .int 0, .int 0, .int 0, .null, .null, .int 0, .int 0, .int 0, .null, .null, .null, .null] rfl ?_
  refine n_aload_n hC 0 dX11_init_58 rfl rfl ?_
  refine n_iconst hC 4 dX11_init_59 (by decide) ?_
  refine n_newaI3 (N := 4) hC arI (by decide) (by decide) (Nat.le_of_ble_eq_true rfl) (Nat.le_of_ble_eq_true rfl) (Nat.le_of_ble_eq_true rfl) dX11_init_60 (fun q8 => ?_)
  refine n_put2 hC fl11_31 (fun _ _ _ h => by cases h; rfl) rfl rfl (Nat.le_of_ble_eq_true rfl) dX11_init_62 [.ref q1, .ref q2, .ref q3, .ref q4, .int 0, .int 0, .int 0, .ref q5, .ref q6, .int 0, .ref q7, .ref q8, .null, .null, .int 0, .int 0, .int 0, .null, .null, .int 0, .int 0, .int 0, .int 0, .int 0, .null, .int 0, .null, .null, .null, .null, .null, .null, .null, .int 0, .int 0, .int 0, .int 0, .int 0, .int 0, .int 0, .int 0, .int 0, .int 0, .int 0, .int 0, .int 0, .int 0, .int 0, .int 0, .int 0, .int 0, .int 0, .int 0, .int 0, .null, .null, .int 0, .int 0, .int 0, .null, .null, .null, .null] rfl ?_
  refine n_aload_n hC 0 dX11_init_65 rfl rfl ?_
  refine n_iconst hC 4 dX11_init_66 (by decide) ?_
  refine n_newaI3 (N := 4) hC arI (by decide) (by decide) (Nat.le_of_ble_eq_true rfl) (Nat.le_of_ble_eq_true rfl) (Nat.le_of_ble_eq_true rfl) dX11_init_67 (fun q9 => ?_)
  refine n_put2 hC fl11_34 (fun _ _ _ h => by cases h; rfl) rfl rfl (Nat.le_of_ble_eq_true rfl) dX11_init_69 [.ref q1, .ref q2, .ref q3, .ref q4, .int 0, .int 0, .int 0, .ref q5, .ref q6, .int 0, .ref q7, .ref q8, .ref q9, .null, .int 0, .int 0, .int 0, .null, .null, .int 0, .int 0, .int 0, .int 0, .int 0, .null, .int 0, .null, .null, .null, .null, .null, .null, .null, .int 0, .int 0, .int 0, .int 0, .int 0, .int 0, .int 0, .int 0, .int 0, .int 0, .int 0, .int 0, .int 0, .int 0, .int 0, .int 0, .int 0, .int 0, .int 0, .int 0, .int 0, .null, .null, .int 0, .int 0, .int 0, .null, .null, .null, .null] rfl ?_
  refine n_aload_n hC 0 dX11_init_72 rfl rfl ?_
  refine n_bipush hC 120 dX11_init_73 (by decide) ?_
  refine n_newaI3 (N := 120) hC arI (by decide) (by decide) (Nat.le_of_ble_eq_true rfl) (Nat.le_of_ble_eq_true rfl) (Nat.le_of_ble_eq_true rfl) dX11_init_75 (fun q10 => ?_)
  refine n_put2 hC fl11_37 (fun _ _ _ h => by cases h; rfl) rfl rfl (Nat.le_of_ble_eq_true rfl) dX11_init_77 [.ref q1, .ref q2, .ref q3, .ref q4, .int 0, .int 0, .int 0, .ref q5, .ref q6, .int 0, .ref q7, .ref q8, .ref q9, .ref q10, .int 0, .int 0, .int 0, .null, .null, .int 0, .int 0, .int 0, .int 0, .int 0, .null, .int 0, .null, .null, .null, .null, .null, .null, .null, .int 0, .int 0, .int 0, .int 0, .int 0, .int 0, .int 0, .int 0, .int 0, .int 0, .int 0, .int 0, .int 0, .int 0, .int 0, .int 0, .int 0, .int 0, .int 0, .int 0, .int 0, .null, .null, .int 0, .int 0, .int 0, .null, .null, .null, .null] rfl ?_
  refine n_aload_n hC 0 dX11_init_80 rfl rfl ?_
  refine n_sipush hC 480 dX11_init_81 (by decide) ?_
  refine n_newaI3 (N := 480) hC arI (by decide) (by decide) (Nat.le_of_ble_eq_true rfl) (Nat.le_of_ble_eq_true rfl) (Nat.le_of_ble_eq_true rfl) dX11_init_84 (fun q11 => ?_)
  refine n_put2 hC fl11_40 (fun _ _ _ h => by cases h; rfl) rfl rfl (Nat.le_of_ble_eq_true rfl) dX11_init_86 [.ref q1, .ref q2, .ref q3, .ref q4, .int 0, .int 0, .int 0, .ref q5, .ref q6, .int 0, .ref q7, .ref q8, .ref q9, .ref q10, .int 0, .int 0, .int 0, .ref q11, .null, .int 0, .int 0, .int 0, .int 0, .int 0, .null, .int 0, .null, .null, .null, .null, .null, .null, .null, .int 0, .int 0, .int 0, .int 0, .int 0, .int 0, .int 0, .int 0, .int 0, .int 0, .int 0, .int 0, .int 0, .int 0, .int 0, .int 0, .int 0, .int 0, .int 0, .int 0, .int 0, .null, .null, .int 0, .int 0, .int 0, .null, .null, .null, .null] rfl ?_
  refine n_aload_n hC 0 dX11_init_89 rfl rfl ?_
  refine n_iconst hC 4 dX11_init_90 (by decide) ?_
  refine n_newaI3 (N := 4) hC arI (by decide) (by decide) (Nat.le_of_ble_eq_true rfl) (Nat.le_of_ble_eq_true rfl) (Nat.le_of_ble_eq_true rfl) dX11_init_91 (fun q12 => ?_)
  refine n_put2 hC fl11_43 (fun _ _ _ h => by cases h; rfl) rfl rfl (Nat.le_of_ble_eq_true rfl) dX11_init_93 [.ref q1, .ref q2, .ref q3, .ref q4, .int 0, .int 0, .int 0, .ref q5, .ref q6, .int 0, .ref q7, .ref q8, .ref q9, .ref q10, .int 0, .int 0, .int 0, .ref q11, .ref q12, .int 0, .int 0, .int 0, .int 0, .int 0, .null, .int 0, .null, .null, .null, .null, .null, .null, .null, .int 0, .int 0, .int 0, .int 0, .int 0, .int 0, .int 0, .int 0, .int 0, .int 0, .int 0, .int 0, .int 0, .int 0, .int 0, .int 0, .int 0, .int 0, .int 0, .int 0, .int 0, .null, .null, .int 0, .int 0, .int 0, .null, .null, .null, .null] rfl ?_
  refine n_aload_n hC 0 dX11_init_96 rfl rfl ?_
  refine n_bipush hC 9 dX11_init_97 (by decide) ?_
  refine n_newaI3 (N := 9) hC arI (by decide) (by decide) (Nat.le_of_ble_eq_true rfl) (Nat.le_of_ble_eq_true rfl) (Nat.le_of_ble_eq_true rfl) dX11_init_99 (fun q13 => ?_)
  refine n_put2 hC fl11_46 (fun _ _ _ h => by cases h; rfl) rfl rfl (Nat.le_of_ble_eq_true rfl) dX11_init_101 [.ref q1, .ref q2, .ref q3, .ref q4, .int 0, .int 0, .int 0, .ref q5, .ref q6, .int 0, .ref q7, .ref q8, .ref q9, .ref q10, .int 0, .int 0, .int 0, .ref q11, .ref q12, .int 0, .int 0, .int 0, .int 0, .int 0, .ref q13, .int 0, .null, .null, .null, .null, .null, .null, .null, .int 0, .int 0, .int 0, .int 0, .int 0, .int 0, .int 0, .int 0, .int 0, .int 0, .int 0, .int 0, .int 0, .int 0, .int 0, .int 0, .int 0, .int 0, .int 0, .int 0, .int 0, .null, .null, .int 0, .int 0, .int 0, .null, .null, .null, .null] rfl ?_
  refine n_aload_n hC 0 dX11_init_104 rfl rfl ?_
  refine n_bipush hC 37 dX11_init_105 (by decide) ?_
  refine n_newaI3 (N := 37) hC arI (by decide) (by decide) (Nat.le_of_ble_eq_true rfl) (Nat.le_of_ble_eq_true rfl) (Nat.le_of_ble_eq_true rfl) dX11_init_107 (fun q14 => ?_)
  refine n_put2 hC fl11_49 (fun _ _ _ h => by cases h; rfl) rfl rfl (Nat.le_of_ble_eq_true rfl) dX11_init_109 [.ref q1, .ref q2, .ref q3, .ref q4, .int 0, .int 0, .int 0, .ref q5, .ref q6, .int 0, .ref q7, .ref q8, .ref q9, .ref q10, .int 0, .int 0, .int 0, .ref q11, .ref q12, .int 0, .int 0, .int 0, .int 0, .int 0, .ref q13, .int 0, .ref q14, .null, .null, .null, .null, .null, .null, .int 0, .int 0, .int 0, .int 0, .int 0, .int 0, .int 0, .int 0, .int 0, .int 0, .int 0, .int 0, .int 0, .int 0, .int 0, .int 0, .int 0, .int 0, .int 0, .int 0, .int 0, .null, .null, .int 0, .int 0, .int 0, .null, .null, .null, .null] rfl ?_
  refine n_aload_n hC 0 dX11_init_112 rfl rfl ?_
  refine n_sipush hC 200 dX11_init_113 (by decide) ?_
  refine n_newaI3 (N := 200) hC arI (by decide) (by decide) (Nat.le_of_ble_eq_true rfl) (Nat.le_of_ble_eq_true rfl) (Nat.le_of_ble_eq_true rfl) dX11_init_116 (fun q15 => ?_)
  refine n_put2 hC fl11_52 (fun _ _ _ h => by cases h; rfl) rfl rfl (Nat.le_of_ble_eq_true rfl) dX11_init_118 [.ref q1, .ref q2, .ref q3, .ref q4, .int 0, .int 0, .int 0, .ref q5, .ref q6, .int 0, .ref q7, .ref q8, .ref q9, .ref q10, .int 0, .int 0, .int 0, .ref q11, .ref q12, .int 0, .int 0, .int 0, .int 0, .int 0, .ref q13, .int 0, .ref q14, .ref q15, .null, .null, .null, .null, .null, .int 0, .int 0, .int 0, .int 0, .int 0, .int 0, .int 0, .int 0, .int 0, .int 0, .int 0, .int 0, .int 0, .int 0, .int 0, .int 0, .int 0, .int 0, .int 0, .int 0, .int 0, .null, .null, .int 0, .int 0, .int 0, .null, .null, .null, .null] rfl ?_
  refine n_aload_n hC 0 dX11_init_121 rfl rfl ?_
  refine n_sipush hC 200 dX11_init_122 (by decide) ?_
  refine n_newaI3 (N := 200) hC arI (by decide) (by decide) (Nat.le_of_ble_eq_true rfl) (Nat.le_of_ble_eq_true rfl) (Nat.le_of_ble_eq_true rfl) dX11_init_125 (fun q16 => ?_)
  refine n_put2 hC fl11_55 (fun _ _ _ h => by cases h; rfl) rfl rfl (Nat.le_of_ble_eq_true rfl) dX11_init_127 [.ref q1, .ref q2, .ref q3, .ref q4, .int 0, .int 0, .int 0, .ref q5, .ref q6, .int 0, .ref q7, .ref q8, .ref q9, .ref q10, .int 0, .int 0, .int 0, .ref q11, .ref q12, .int 0, .int 0, .int 0, .int 0, .int 0, .ref q13, .int 0, .ref q14, .ref q15, .ref q16, .null, .null, .null, .null, .int 0, .int 0, .int 0, .int 0, .int 0, .int 0, .int 0, .int 0, .int 0, .int 0, .int 0, .int 0, .int 0, .int 0, .int 0, .int 0, .int 0, .int 0, .int 0, .int 0, .int 0, .null, .null, .int 0, .int 0, .int 0, .null, .null, .null, .null] rfl ?_
  refine n_aload_n hC 0 dX11_init_130 rfl rfl ?_
  refine n_sipush hC 200 dX11_init_131 (by decide) ?_
  refine n_newaI3 (N := 200) hC arI (by decide) (by decide) (Nat.le_of_ble_eq_true rfl) (Nat.le_of_ble_eq_true rfl) (Nat.le_of_ble_eq_true rfl) dX11_init_134 (fun q17 => ?_)
  refine n_put2 hC fl11_58 (fun _ _ _ h => by cases h; rfl) rfl rfl (Nat.le_of_ble_eq_true rfl) dX11_init_136 [.ref q1, .ref q2, .ref q3, .ref q4, .int 0, .int 0, .int 0, .ref q5, .ref q6, .int 0, .ref q7, .ref q8, .ref q9, .ref q10, .int 0, .int 0, .int 0, .ref q11, .ref q12, .int 0, .int 0, .int 0, .int 0, .int 0, .ref q13, .int 0, .ref q14, .ref q15, .ref q16, .ref q17, .null, .null, .null, .int 0, .int 0, .int 0, .int 0, .int 0, .int 0, .int 0, .int 0, .int 0, .int 0, .int 0, .int 0, .int 0, .int 0, .int 0, .int 0, .int 0, .int 0, .int 0, .int 0, .int 0, .null, .null, .int 0, .int 0, .int 0, .null, .null, .null, .null] rfl ?_
  refine n_aload_n hC 0 dX11_init_139 rfl rfl ?_
  refine n_sipush hC 200 dX11_init_140 (by decide) ?_
  refine n_newaI3 (N := 200) hC arI (by decide) (by decide) (Nat.le_of_ble_eq_true rfl) (Nat.le_of_ble_eq_true rfl) (Nat.le_of_ble_eq_true rfl) dX11_init_143 (fun q18 => ?_)
  refine n_put2 hC fl11_61 (fun _ _ _ h => by cases h; rfl) rfl rfl (Nat.le_of_ble_eq_true rfl) dX11_init_145 [.ref q1, .ref q2, .ref q3, .ref q4, .int 0, .int 0, .int 0, .ref q5, .ref q6, .int 0, .ref q7, .ref q8, .ref q9, .ref q10, .int 0, .int 0, .int 0, .ref q11, .ref q12, .int 0, .int 0, .int 0, .int 0, .int 0, .ref q13, .int 0, .ref q14, .ref q15, .ref q16, .ref q17, .ref q18, .null, .null, .int 0, .int 0, .int 0, .int 0, .int 0, .int 0, .int 0, .int 0, .int 0, .int 0, .int 0, .int 0, .int 0, .int 0, .int 0, .int 0, .int 0, .int 0, .int 0, .int 0, .int 0, .null, .null, .int 0, .int 0, .int 0, .null, .null, .null, .null] rfl ?_
  refine n_aload_n hC 0 dX11_init_148 rfl rfl ?_
  refine n_sipush hC 200 dX11_init_149 (by decide) ?_
  refine n_newaI3 (N := 200) hC arI (by decide) (by decide) (Nat.le_of_ble_eq_true rfl) (Nat.le_of_ble_eq_true rfl) (Nat.le_of_ble_eq_true rfl) dX11_init_152 (fun q19 => ?_)
  refine n_put2 hC fl11_64 (fun _ _ _ h => by cases h; rfl) rfl rfl (Nat.le_of_ble_eq_true rfl) dX11_init_154 [.ref q1, .ref q2, .ref q3, .ref q4, .int 0, .int 0, .int 0, .ref q5, .ref q6, .int 0, .ref q7, .ref q8, .ref q9, .ref q10, .int 0, .int 0, .int 0, .ref q11, .ref q12, .int 0, .int 0, .int 0, .int 0, .int 0, .ref q13, .int 0, .ref q14, .ref q15, .ref q16, .ref q17, .ref q18, .ref q19, .null, .int 0, .int 0, .int 0, .int 0, .int 0, .int 0, .int 0, .int 0, .int 0, .int 0, .int 0, .int 0, .int 0, .int 0, .int 0, .int 0, .int 0, .int 0, .int 0, .int 0, .int 0, .null, .null, .int 0, .int 0, .int 0, .null, .null, .null, .null] rfl ?_
  refine n_aload_n hC 0 dX11_init_157 rfl rfl ?_
  refine n_sipush hC 200 dX11_init_158 (by decide) ?_
  refine n_newaI3 (N := 200) hC arI (by decide) (by decide) (Nat.le_of_ble_eq_true rfl) (Nat.le_of_ble_eq_true rfl) (Nat.le_of_ble_eq_true rfl) dX11_init_161 (fun q20 => ?_)
  refine n_put2 hC fl11_67 (fun _ _ _ h => by cases h; rfl) rfl rfl (Nat.le_of_ble_eq_true rfl) dX11_init_163 [.ref q1, .ref q2, .ref q3, .ref q4, .int 0, .int 0, .int 0, .ref q5, .ref q6, .int 0, .ref q7, .ref q8, .ref q9, .ref q10, .int 0, .int 0, .int 0, .ref q11, .ref q12, .int 0, .int 0, .int 0, .int 0, .int 0, .ref q13, .int 0, .ref q14, .ref q15, .ref q16, .ref q17, .ref q18, .ref q19, .ref q20, .int 0, .int 0, .int 0, .int 0, .int 0, .int 0, .int 0, .int 0, .int 0, .int 0, .int 0, .int 0, .int 0, .int 0, .int 0, .int 0, .int 0, .int 0, .int 0, .int 0, .int 0, .null, .null, .int 0, .int 0, .int 0, .null, .null, .null, .null] rfl ?_
  refine n_aload_n hC 0 dX11_init_166 rfl rfl ?_
  refine n_bipush hC 50 dX11_init_167 (by decide) ?_
  refine n_newaI3 (N := 50) hC arI (by decide) (by decide) (Nat.le_of_ble_eq_true rfl) (Nat.le_of_ble_eq_true rfl) (Nat.le_of_ble_eq_true rfl) dX11_init_169 (fun q21 => ?_)
  refine n_put2 hC fl11_70 (fun _ _ _ h => by cases h; rfl) rfl rfl (Nat.le_of_ble_eq_true rfl) dX11_init_171 [.ref q1, .ref q2, .ref q3, .ref q4, .int 0, .int 0, .int 0, .ref q5, .ref q6, .int 0, .ref q7, .ref q8, .ref q9, .ref q10, .int 0, .int 0, .int 0, .ref q11, .ref q12, .int 0, .int 0, .int 0, .int 0, .int 0, .ref q13, .int 0, .ref q14, .ref q15, .ref q16, .ref q17, .ref q18, .ref q19, .ref q20, .int 0, .int 0, .int 0, .int 0, .int 0, .int 0, .int 0, .int 0, .int 0, .int 0, .int 0, .int 0, .int 0, .int 0, .int 0, .int 0, .int 0, .int 0, .int 0, .int 0, .int 0, .ref q21, .null, .int 0, .int 0, .int 0, .null, .null, .null, .null] rfl ?_
  refine n_aload_n hC 0 dX11_init_174 rfl rfl ?_
  refine n_bipush hC 24 dX11_init_175 (by decide) ?_
  refine n_newaI3 (N := 24) hC arI (by decide) (by decide) (Nat.le_of_ble_eq_true rfl) (Nat.le_of_ble_eq_true rfl) (Nat.le_of_ble_eq_true rfl) dX11_init_177 (fun q22 => ?_)
  refine n_put2 hC fl11_73 (fun _ _ _ h => by cases h; rfl) rfl rfl (Nat.le_of_ble_eq_true rfl) dX11_init_179 [.ref q1, .ref q2, .ref q3, .ref q4, .int 0, .int 0, .int 0, .ref q5, .ref q6, .int 0, .ref q7, .ref q8, .ref q9, .ref q10, .int 0, .int 0, .int 0, .ref q11, .ref q12, .int 0, .int 0, .int 0, .int 0, .int 0, .ref q13, .int 0, .ref q14, .ref q15, .ref q16, .ref q17, .ref q18, .ref q19, .ref q20, .int 0, .int 0, .int 0, .int 0, .int 0, .int 0, .int 0, .int 0, .int 0, .int 0, .int 0, .int 0, .int 0, .int 0, .int 0, .int 0, .int 0, .int 0, .int 0, .int 0, .int 0, .ref q21, .ref q22, .int 0, .int 0, .int 0, .null, .null, .null, .null] rfl ?_
  refine n_aload_n hC 0 dX11_init_182 rfl rfl ?_
  refine n_bipush hC 6 dX11_init_183 (by decide) ?_
  refine n_newaI3 (N := 6) hC arI (by decide) (by decide) (Nat.le_of_ble_eq_true rfl) (Nat.le_of_ble_eq_true rfl) (Nat.le_of_ble_eq_true rfl) dX11_init_185 (fun q23 => ?_)
  refine n_put2 hC fl11_76 (fun _ _ _ h => by cases h; rfl) rfl rfl (Nat.le_of_ble_eq_true rfl) dX11_init_187 [.ref q1, .ref q2, .ref q3, .ref q4, .int 0, .int 0, .int 0, .ref q5, .ref q6, .int 0, .ref q7, .ref q8, .ref q9, .ref q10, .int 0, .int 0, .int 0, .ref q11, .ref q12, .int 0, .int 0, .int 0, .int 0, .int 0, .ref q13, .int 0, .ref q14, .ref q15, .ref q16, .ref q17, .ref q18, .ref q19, .ref q20, .int 0, .int 0, .int 0, .int 0, .int 0, .int 0, .int 0, .int 0, .int 0, .int 0, .int 0, .int 0, .int 0, .int 0, .int 0, .int 0, .int 0, .int 0, .int 0, .int 0, .int 0, .ref q21, .ref q22, .int 0, .int 0, .int 0, .ref q23, .null, .null, .null] rfl ?_
  refine n_aload_n hC 0 dX11_init_190 rfl rfl ?_
  refine n_bipush hC 6 dX11_init_191 (by decide) ?_
  refine n_newaI3 (N := 6) hC arI (by decide) (by decide) (Nat.le_of_ble_eq_true rfl) (Nat.le_of_ble_eq_true rfl) (Nat.le_of_ble_eq_true rfl) dX11_init_193 (fun q24 => ?_)
  refine n_put2 hC fl11_79 (fun _ _ _ h => by cases h; rfl) rfl rfl (Nat.le_of_ble_eq_true rfl) dX11_init_195 [.ref q1, .ref q2, .ref q3, .ref q4, .int 0, .int 0, .int 0, .ref q5, .ref q6, .int 0, .ref q7, .ref q8, .ref q9, .ref q10, .int 0, .int 0, .int 0, .ref q11, .ref q12, .int 0, .int 0, .int 0, .int 0, .int 0, .ref q13, .int 0, .ref q14, .ref q15, .ref q16, .ref q17, .ref q18, .ref q19, .ref q20, .int 0, .int 0, .int 0, .int 0, .int 0, .int 0, .int 0, .int 0, .int 0, .int 0, .int 0, .int 0, .int 0, .int 0, .int 0, .int 0, .int 0, .int 0, .int 0, .int 0, .int 0, .ref q21, .ref q22, .int 0, .int 0, .int 0, .ref q23, .ref q24, .null, .null] rfl ?_
  refine n_aload_n hC 0 dX11_init_198 rfl rfl ?_
  refine n_sipush hC 360 dX11_init_199 (by decide) ?_
  refine n_newaL3 (N := 360) hC arL (by decide) (by decide) (Nat.le_of_ble_eq_true rfl) (Nat.le_of_ble_eq_true rfl) (Nat.le_of_ble_eq_true rfl) dX11_init_202 (fun q25 => ?_)
  refine n_put2 hC fl11_82 (fun _ _ _ h => by cases h; rfl) rfl rfl (Nat.le_of_ble_eq_true rfl) dX11_init_204 [.ref q1, .ref q2, .ref q3, .ref q4, .int 0, .int 0, .int 0, .ref q5, .ref q6, .int 0, .ref q7, .ref q8, .ref q9, .ref q10, .int 0, .int 0, .int 0, .ref q11, .ref q12, .int 0, .int 0, .int 0, .int 0, .int 0, .ref q13, .int 0, .ref q14, .ref q15, .ref q16, .ref q17, .ref q18, .ref q19, .ref q20, .int 0, .int 0, .int 0, .int 0, .int 0, .int 0, .int 0, .int 0, .int 0, .int 0, .int 0, .int 0, .int 0, .int 0, .int 0, .int 0, .int 0, .int 0, .int 0, .int 0, .int 0, .ref q21, .ref q22, .int 0, .int 0, .int 0, .ref q23, .ref q24, .ref q25, .null] rfl ?_
  refine n_aload_n hC 0 dX11_init_207 rfl rfl ?_
  refine n_bipush hC 60 dX11_init_208 (by decide) ?_
  refine n_newaL3 (N := 60) hC arL (by decide) (by decide) (Nat.le_of_ble_eq_true rfl) (Nat.le_of_ble_eq_true rfl) (Nat.le_of_ble_eq_true rfl) dX11_init_210 (fun q26 => ?_)
  refine n_put2 hC fl11_86 (fun _ _ _ h => by cases h; rfl) rfl rfl (Nat.le_of_ble_eq_true rfl) dX11_init_212 [.ref q1, .ref q2, .ref q3, .ref q4, .int 0, .int 0, .int 0, .ref q5, .ref q6, .int 0, .ref q7, .ref q8, .ref q9, .ref q10, .int 0, .int 0, .int 0, .ref q11, .ref q12, .int 0, .int 0, .int 0, .int 0, .int 0, .ref q13, .int 0, .ref q14, .ref q15, .ref q16, .ref q17, .ref q18, .ref q19, .ref q20, .int 0, .int 0, .int 0, .int 0, .int 0, .int 0, .int 0, .int 0, .int 0, .int 0, .int 0, .int 0, .int 0, .int 0, .int 0, .int 0, .int 0, .int 0, .int 0, .int 0, .int 0, .ref q21, .ref q22, .int 0, .int 0, .int 0, .ref q23, .ref q24, .ref q25, .ref q26] rfl ?_
  refine n_iconst hC 0 dX11_init_215 (by decide) ?_
  refine n_istore_n hC [(1, .int 0), (0, .ref h0)] dX11_init_216 rfl (by decide) rfl ?_
  refine n_iload_n hC 0 dX11_init_217 rfl rfl ?_
  refine n_bipush hC 6 dX11_init_218 (by decide) ?_
  refine n_icmp_geF hC 236 dX11_init_220 (by decide) (by decide) ?_
  refine n_aload_n hC 1 dX11_init_223 rfl rfl ?_
  refine n_get (v := .ref q23) hC fl11_76 rfl dX11_init_224 ?_
  refine n_iload_n hC 0 dX11_init_227 rfl rfl ?_
  refine n_iconst hC (-1) dX11_init_228 (by decide) ?_
  refine n_iast2 hC 3 rfl (vpc (by decide)) dX11_init_229 ?_; simp only [List.set_cons_succ, List.set_cons_zero]
  refine n_iinc (k := 0) hC 1 [(1, .int 1), (0, .ref h0)] dX11_init_230 rfl (by decide) (by decide) rfl ?_
  refine n_goto hC 217 dX11_init_233 (by decide) ?_
  refine n_iload_n hC 0 dX11_init_217 rfl rfl ?_
  refine n_bipush hC 6 dX11_init_218 (by decide) ?_
  refine n_icmp_geF hC 236 dX11_init_220 (by decide) (by decide) ?_
  refine n_aload_n hC 1 dX11_init_223 rfl rfl ?_
  refine n_get (v := .ref q23) hC fl11_76 rfl dX11_init_224 ?_
  refine n_iload_n hC 0 dX11_init_227 rfl rfl ?_
  refine n_iconst hC (-1) dX11_init_228 (by decide) ?_
  refine n_iast2 hC 3 rfl (vpc (by decide)) dX11_init_229 ?_; simp only [List.set_cons_succ, List.set_cons_zero]
  refine n_iinc (k := 0) hC 2 [(1, .int 2), (0, .ref h0)] dX11_init_230 rfl (by decide) (by decide) rfl ?_
  refine n_goto hC 217 dX11_init_233 (by decide) ?_
  refine n_iload_n hC 0 dX11_init_217 rfl rfl ?_
  refine n_bipush hC 6 dX11_init_218 (by decide) ?_
  refine n_icmp_geF hC 236 dX11_init_220 (by decide) (by decide) ?_
  refine n_aload_n hC 1 dX11_init_223 rfl rfl ?_
  refine n_get (v := .ref q23) hC fl11_76 rfl dX11_init_224 ?_
  refine n_iload_n hC 0 dX11_init_227 rfl rfl ?_
  refine n_iconst hC (-1) dX11_init_228 (by decide) ?_
  refine n_iast2 hC 3 rfl (vpc (by decide)) dX11_init_229 ?_; simp only [List.set_cons_succ, List.set_cons_zero]
  refine n_iinc (k := 0) hC 3 [(1, .int 3), (0, .ref h0)] dX11_init_230 rfl (by decide) (by decide) rfl ?_
  refine n_goto hC 217 dX11_init_233 (by decide) ?_
  refine n_iload_n hC 0 dX11_init_217 rfl rfl ?_
  refine n_bipush hC 6 dX11_init_218 (by decide) ?_
  refine n_icmp_geF hC 236 dX11_init_220 (by decide) (by decide) ?_
  refine n_aload_n hC 1 dX11_init_223 rfl rfl ?_
  refine n_get (v := .ref q23) hC fl11_76 rfl dX11_init_224 ?_
  refine n_iload_n hC 0 dX11_init_227 rfl rfl ?_
  refine n_iconst hC (-1) dX11_init_228 (by decide) ?_
  refine n_iast2 hC 3 rfl (vpc (by decide)) dX11_init_229 ?_; simp only [List.set_cons_succ, List.set_cons_zero]
  refine n_iinc (k := 0) hC 4 [(1, .int 4), (0, .ref h0)] dX11_init_230 rfl (by decide) (by decide) rfl ?_
  refine n_goto hC 217 dX11_init_233 (by decide) ?_
  refine n_iload_n hC 0 dX11_init_217 rfl rfl ?_
  refine n_bipush hC 6 dX11_init_218 (by decide) ?_
  refine n_icmp_geF hC 236 dX11_init_220 (by decide) (by decide) ?_
  refine n_aload_n hC 1 dX11_init_223 rfl rfl ?_
  refine n_get (v := .ref q23) hC fl11_76 rfl dX11_init_224 ?_
  refine n_iload_n hC 0 dX11_init_227 rfl rfl ?_
  refine n_iconst hC (-1) dX11_init_228 (by decide) ?_
  refine n_iast2 hC 3 rfl (vpc (by decide)) dX11_init_229 ?_; simp only [List.set_cons_succ, List.set_cons_zero]
  refine n_iinc (k := 0) hC 5 [(1, .int 5), (0, .ref h0)] dX11_init_230 rfl (by decide) (by decide) rfl ?_
  refine n_goto hC 217 dX11_init_233 (by decide) ?_
  refine n_iload_n hC 0 dX11_init_217 rfl rfl ?_
  refine n_bipush hC 6 dX11_init_218 (by decide) ?_
  refine n_icmp_geF hC 236 dX11_init_220 (by decide) (by decide) ?_
  refine n_aload_n hC 1 dX11_init_223 rfl rfl ?_
  refine n_get (v := .ref q23) hC fl11_76 rfl dX11_init_224 ?_
  refine n_iload_n hC 0 dX11_init_227 rfl rfl ?_
  refine n_iconst hC (-1) dX11_init_228 (by decide) ?_
  refine n_iast2 hC 3 rfl (vpc (by decide)) dX11_init_229 ?_; simp only [List.set_cons_succ, List.set_cons_zero]
  refine n_iinc (k := 0) hC 6 [(1, .int 6), (0, .ref h0)] dX11_init_230 rfl (by decide) (by decide) rfl ?_
  refine n_goto hC 217 dX11_init_233 (by decide) ?_
  refine n_iload_n hC 0 dX11_init_217 rfl rfl ?_
  refine n_bipush hC 6 dX11_init_218 (by decide) ?_
  refine n_icmp_geT hC 236 dX11_init_220 (by decide) (by decide) ?_
  refine n_aload_n hC 1 dX11_init_236 rfl rfl ?_
  refine n_get (v := .ref q6) hC fl11_25 rfl dX11_init_237 ?_
  refine n_iconst hC 0 dX11_init_240 (by decide) ?_
  refine n_sipush hC 310 dX11_init_241 (by decide) ?_
  refine n_iast2 hC 20 rfl (vpc (by decide)) dX11_init_244 ?_; simp only [List.set_cons_succ, List.set_cons_zero]
  refine n_aload_n hC 1 dX11_init_245 rfl rfl ?_
  refine n_get (v := .ref q6) hC fl11_25 rfl dX11_init_246 ?_
  refine n_iconst hC 1 dX11_init_249 (by decide) ?_
  refine n_bipush hC 100 dX11_init_250 (by decide) ?_
  refine n_iast2 hC 20 rfl (vpc (by decide)) dX11_init_252 ?_; simp only [List.set_cons_succ, List.set_cons_zero]
  refine n_aload_n hC 1 dX11_init_253 rfl rfl ?_
  refine n_get (v := .ref q6) hC fl11_25 rfl dX11_init_254 ?_
  refine n_iconst hC 4 dX11_init_257 (by decide) ?_
  refine n_sipush hC 9999 dX11_init_258 (by decide) ?_
  refine n_iast2 hC 20 rfl (vpc (by decide)) dX11_init_261 ?_; simp only [List.set_cons_succ, List.set_cons_zero]
  refine n_aload_n hC 1 dX11_init_262 rfl rfl ?_
  refine n_iconst hC (-1) dX11_init_263 (by decide) ?_
  refine n_put2 hC fl11_89 (fun _ _ _ h => by cases h; rfl) rfl rfl (Nat.le_of_ble_eq_true rfl) dX11_init_264 [.ref q1, .ref q2, .ref q3, .ref q4, .int 0, .int 0, .int 0, .ref q5, .ref q6, .int 0, .ref q7, .ref q8, .ref q9, .ref q10, .int 0, .int 0, .int (-1), .ref q11, .ref q12, .int 0, .int 0, .int 0, .int 0, .int 0, .ref q13, .int 0, .ref q14, .ref q15, .ref q16, .ref q17, .ref q18, .ref q19, .ref q20, .int 0, .int 0, .int 0, .int 0, .int 0, .int 0, .int 0, .int 0, .int 0, .int 0, .int 0, .int 0, .int 0, .int 0, .int 0, .int 0, .int 0, .int 0, .int 0, .int 0, .int 0, .ref q21, .ref q22, .int 0, .int 0, .int 0, .ref q23, .ref q24, .ref q25, .ref q26] rfl ?_
  exact n_ret (S := Nat → Nat) (ow := fun α => α 0) (blk := bMod T) hC (fun k => match k with | 0 => h0 | 1 => q1 | 2 => q2 | 3 => q3 | 4 => q4 | 5 => q5 | 6 => q6 | 7 => q7 | 8 => q8 | 9 => q9 | 10 => q10 | 11 => q11 | 12 => q12 | 13 => q13 | 14 => q14 | 15 => q15 | 16 => q16 | 17 => q17 | 18 => q18 | 19 => q19 | 20 => q20 | 21 => q21 | 22 => q22 | 23 => q23 | 24 => q24 | 25 => q25 | _ => q26) rfl dX11_init_267 (Nat.le_of_ble_eq_true rfl) (Nat.le_of_ble_eq_true rfl) (fun H h => h.sub [0, 26, 25, 24, 23, 22, 21, 20, 19, 18, 17, 16, 15, 14, 13, 12, 11, 10, 9, 8, 7, 6, 5, 4, 3, 2, 1] rfl) (fun B h => h.sub [0, 26, 25, 24, 23, 22, 21, 20, 19, 18, 17, 16, 15, 14, 13, 12, 11, 10, 9, 8, 7, 6, 5, 4, 3, 2, 1] (by decide) rfl)
