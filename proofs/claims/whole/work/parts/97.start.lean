/-! the start of the law -/
theorem mq_in1 {w : Cond} (i : Nat) (h : tables_1_1[i]? = some w) : w ∈ lw_tbl := List.mem_append_right _ (List.mem_append_left _ (List.mem_of_getElem? h))
theorem mq_in2 {w : Cond} (i : Nat) (h : tables_1_2[i]? = some w) : w ∈ lw_tbl := List.mem_append_right _ (List.mem_append_right _ (List.mem_append_left _ (List.mem_of_getElem? h)))
theorem mq_in3 {w : Cond} (i : Nat) (h : tables_1_3[i]? = some w) : w ∈ lw_tbl := List.mem_append_right _ (List.mem_append_right _ (List.mem_append_right _ (List.mem_append_left _ (List.mem_of_getElem? h))))
theorem mq_in4 {w : Cond} (i : Nat) (h : tables_1_4[i]? = some w) : w ∈ lw_tbl := List.mem_append_right _ (List.mem_append_right _ (List.mem_append_right _ (List.mem_append_right _ (List.mem_append_left _ (List.mem_of_getElem? h)))))
theorem mq_in5 {w : Cond} (i : Nat) (h : tables_1_5[i]? = some w) : w ∈ lw_tbl := List.mem_append_right _ (List.mem_append_right _ (List.mem_append_right _ (List.mem_append_right _ (List.mem_append_right _ (List.mem_append_left _ (List.mem_of_getElem? h))))))
theorem mq_in6 {w : Cond} (i : Nat) (h : tables_1_6[i]? = some w) : w ∈ lw_tbl := List.mem_append_right _ (List.mem_append_right _ (List.mem_append_right _ (List.mem_append_right _ (List.mem_append_right _ (List.mem_append_right _ (List.mem_append_left _ (List.mem_of_getElem? h)))))))
theorem mq_in7 {w : Cond} (i : Nat) (h : tables_1_7[i]? = some w) : w ∈ lw_tbl := List.mem_append_right _ (List.mem_append_right _ (List.mem_append_right _ (List.mem_append_right _ (List.mem_append_right _ (List.mem_append_right _ (List.mem_append_right _ (List.mem_of_getElem? h)))))))
theorem inst0 : Cond.instantiable RX0 6 ∈ mw_T := mw_in2 54 (by decide +kernel) rfl
theorem inst1 : Cond.instantiable RX1 7 ∈ mw_T := mw_in1 52 (by decide +kernel) rfl
theorem inst2 : Cond.instantiable RX2 6 ∈ mw_T := mw_in1 24 (by decide +kernel) rfl
theorem inst3 : Cond.instantiable RX3 4 ∈ mw_T := mw_in1 145 (by decide +kernel) rfl
theorem inst4 : Cond.instantiable RX4 5 ∈ mw_T := mw_in1 118 (by decide +kernel) rfl
theorem inst5 : Cond.instantiable RX5 9 ∈ mw_T := mw_in1 80 (by decide +kernel) rfl
theorem inst6 : Cond.instantiable RX6 5 ∈ mw_T := mw_in2 81 (by decide +kernel) rfl
theorem inst7 : Cond.instantiable RX7 4 ∈ mw_T := mw_in1 124 (by decide +kernel) rfl
theorem inst8 : Cond.instantiable RX8 10 ∈ mw_T := mw_in2 13 (by decide +kernel) rfl
theorem inst9 : Cond.instantiable RX9 17 ∈ mw_T := mw_in1 183 (by decide +kernel) rfl
theorem inst10 : Cond.instantiable RX10 8 ∈ mw_T := mw_in1 16 (by decide +kernel) rfl
theorem inst11 : Cond.instantiable RX11 63 ∈ mw_T := mw_in5 95 (by decide +kernel) rfl
theorem nst_delay : Cond.fieldLinkNest "MachineWalks$Walk" 113 "MachineWalks$Machine" "delay" "I" "MachineWalks" ∈ lw_tbl := mq_in1 87 (by decide +kernel)
theorem nst_noise : Cond.fieldLinkNest "MachineWalks$Walk" 116 "MachineWalks$Machine" "noise" "I" "MachineWalks" ∈ lw_tbl := mq_in1 89 (by decide +kernel)
theorem nst_wall : Cond.fieldLinkNest "MachineWalks$Walk" 87 "MachineWalks$Machine" "wall" "I" "MachineWalks" ∈ lw_tbl := mq_in1 92 (by decide +kernel)
theorem ovL : Cond.arrayOver (.object "MachineWalks$Law") ∈ lw_tbl := mq_in1 144 (by decide +kernel)
theorem ovI : Cond.arrayOver (.array .int) ∈ lw_tbl := mq_in1 191 (by decide +kernel)
theorem ovJ : Cond.arrayOver (.array .long) ∈ lw_tbl := mq_in2 87 (by decide +kernel)
theorem lst0 : Cond.laysStatic "MachineWalks$Drum" "C" "[I" ∈ lw_tbl := mq_in3 27 (by decide +kernel)
theorem lsi0 : Cond.initialized "MachineWalks$Drum" ∈ mw_T := mw_in1 2 (by decide +kernel) rfl
theorem lsA0 : Cond.arrayOf (.static "MachineWalks$Drum" "C" "[I") .int ∈ flatC (Cond.and given_1 narrow_1) := by decide +kernel
theorem lsN0 : Cond.eq (.length (.static "MachineWalks$Drum" "C" "[I")) (.int (Int32.ofNat 12)) ∈ flatC (Cond.and given_1 narrow_1) := by decide +kernel
theorem lsE0 : ∀ j, j < 12 → Cond.eq (.elem (.static "MachineWalks$Drum" "C" "[I") (.int (Int32.ofNat j))) (.int (mw_sv 0 j)) ∈ flatC (Cond.and given_1 narrow_1) := by decide +kernel
theorem lsT0 {args : Array Value} {s : State} (hts : ∀ w ∈ lw_tbl, w.before args s = true) (hg : (Cond.and given_1 narrow_1).before args s = true) : ∃ t : Nat, va_Z "MachineWalks$Drum" "C" "[I" (.ref t) (lAt s) s s.heap ∧ va_T .int t 12 (fun j => .int (mw_sv 0 j)) (lAt s) s s.heap := by
  have hs := flat_of_before _ hg
  obtain ⟨t, h1, h2⟩ := va_Tof (tm := (.static "MachineWalks$Drum" "C" "[I")) (N := 12) (f := fun j => .int (mw_sv 0 j)) (A := lAt s) (by decide) (hs _ lsA0) (va_eqt (hs _ lsN0)) (fun j hj => va_eqt (hs _ (lsE0 j hj))) (fun a ha => Nat.not_le.mpr ha)
  exact ⟨t, va_Zref (hts _ lst0) (hts _ (List.mem_filter.mp lsi0).1) h1 (fun a ha => Nat.not_le.mpr ha), h2⟩
theorem lst1 : Cond.laysStatic "MachineWalks$Drum" "S" "[I" ∈ lw_tbl := mq_in3 36 (by decide +kernel)
theorem lsi1 : Cond.initialized "MachineWalks$Drum" ∈ mw_T := mw_in1 2 (by decide +kernel) rfl
theorem lsA1 : Cond.arrayOf (.static "MachineWalks$Drum" "S" "[I") .int ∈ flatC (Cond.and given_1 narrow_1) := by decide +kernel
theorem lsN1 : Cond.eq (.length (.static "MachineWalks$Drum" "S" "[I")) (.int (Int32.ofNat 12)) ∈ flatC (Cond.and given_1 narrow_1) := by decide +kernel
theorem lsE1 : ∀ j, j < 12 → Cond.eq (.elem (.static "MachineWalks$Drum" "S" "[I") (.int (Int32.ofNat j))) (.int (mw_sv 1 j)) ∈ flatC (Cond.and given_1 narrow_1) := by decide +kernel
theorem lsT1 {args : Array Value} {s : State} (hts : ∀ w ∈ lw_tbl, w.before args s = true) (hg : (Cond.and given_1 narrow_1).before args s = true) : ∃ t : Nat, va_Z "MachineWalks$Drum" "S" "[I" (.ref t) (lAt s) s s.heap ∧ va_T .int t 12 (fun j => .int (mw_sv 1 j)) (lAt s) s s.heap := by
  have hs := flat_of_before _ hg
  obtain ⟨t, h1, h2⟩ := va_Tof (tm := (.static "MachineWalks$Drum" "S" "[I")) (N := 12) (f := fun j => .int (mw_sv 1 j)) (A := lAt s) (by decide) (hs _ lsA1) (va_eqt (hs _ lsN1)) (fun j hj => va_eqt (hs _ (lsE1 j hj))) (fun a ha => Nat.not_le.mpr ha)
  exact ⟨t, va_Zref (hts _ lst1) (hts _ (List.mem_filter.mp lsi1).1) h1 (fun a ha => Nat.not_le.mpr ha), h2⟩
theorem lst2 : Cond.laysStatic "MachineWalks$Acts" "ABOVE" "[I" ∈ lw_tbl := mq_in5 1 (by decide +kernel)
theorem lsi2 : Cond.initialized "MachineWalks$Acts" ∈ mw_T := mw_in1 10 (by decide +kernel) rfl
theorem lsA2 : Cond.arrayOf (.static "MachineWalks$Acts" "ABOVE" "[I") .int ∈ flatC (Cond.and given_1 narrow_1) := by decide +kernel
theorem lsN2 : Cond.eq (.length (.static "MachineWalks$Acts" "ABOVE" "[I")) (.int (Int32.ofNat 8)) ∈ flatC (Cond.and given_1 narrow_1) := by decide +kernel
theorem lsE2 : ∀ j, j < 8 → Cond.eq (.elem (.static "MachineWalks$Acts" "ABOVE" "[I") (.int (Int32.ofNat j))) (.int (mw_sv 2 j)) ∈ flatC (Cond.and given_1 narrow_1) := by decide +kernel
theorem lsT2 {args : Array Value} {s : State} (hts : ∀ w ∈ lw_tbl, w.before args s = true) (hg : (Cond.and given_1 narrow_1).before args s = true) : ∃ t : Nat, va_Z "MachineWalks$Acts" "ABOVE" "[I" (.ref t) (lAt s) s s.heap ∧ va_T .int t 8 (fun j => .int (mw_sv 2 j)) (lAt s) s s.heap := by
  have hs := flat_of_before _ hg
  obtain ⟨t, h1, h2⟩ := va_Tof (tm := (.static "MachineWalks$Acts" "ABOVE" "[I")) (N := 8) (f := fun j => .int (mw_sv 2 j)) (A := lAt s) (by decide) (hs _ lsA2) (va_eqt (hs _ lsN2)) (fun j hj => va_eqt (hs _ (lsE2 j hj))) (fun a ha => Nat.not_le.mpr ha)
  exact ⟨t, va_Zref (hts _ lst2) (hts _ (List.mem_filter.mp lsi2).1) h1 (fun a ha => Nat.not_le.mpr ha), h2⟩
theorem lst3 : Cond.laysStatic "MachineWalks$Acts" "BODIES" "[I" ∈ lw_tbl := mq_in4 239 (by decide +kernel)
theorem lsi3 : Cond.initialized "MachineWalks$Acts" ∈ mw_T := mw_in1 10 (by decide +kernel) rfl
theorem lsA3 : Cond.arrayOf (.static "MachineWalks$Acts" "BODIES" "[I") .int ∈ flatC (Cond.and given_1 narrow_1) := by decide +kernel
theorem lsN3 : Cond.eq (.length (.static "MachineWalks$Acts" "BODIES" "[I")) (.int (Int32.ofNat 32)) ∈ flatC (Cond.and given_1 narrow_1) := by decide +kernel
theorem lsE3 : ∀ j, j < 32 → Cond.eq (.elem (.static "MachineWalks$Acts" "BODIES" "[I") (.int (Int32.ofNat j))) (.int (mw_sv 3 j)) ∈ flatC (Cond.and given_1 narrow_1) := by decide +kernel
theorem lsT3 {args : Array Value} {s : State} (hts : ∀ w ∈ lw_tbl, w.before args s = true) (hg : (Cond.and given_1 narrow_1).before args s = true) : ∃ t : Nat, va_Z "MachineWalks$Acts" "BODIES" "[I" (.ref t) (lAt s) s s.heap ∧ va_T .int t 32 (fun j => .int (mw_sv 3 j)) (lAt s) s s.heap := by
  have hs := flat_of_before _ hg
  obtain ⟨t, h1, h2⟩ := va_Tof (tm := (.static "MachineWalks$Acts" "BODIES" "[I")) (N := 32) (f := fun j => .int (mw_sv 3 j)) (A := lAt s) (by decide) (hs _ lsA3) (va_eqt (hs _ lsN3)) (fun j hj => va_eqt (hs _ (lsE3 j hj))) (fun a ha => Nat.not_le.mpr ha)
  exact ⟨t, va_Zref (hts _ lst3) (hts _ (List.mem_filter.mp lsi3).1) h1 (fun a ha => Nat.not_le.mpr ha), h2⟩
theorem lw_facts {args : Array Value} {s : State} (hts : ∀ w ∈ lw_tbl, w.before args s = true) (hg : (Cond.and given_1 narrow_1).before args s = true) : ∃ (D : va_G) (T : Nat → ClassId) (tS : Nat → Nat), nV D T s ∧ lF D T tS s := by
  have ht : ∀ w ∈ mw_T, w.before args s = true := fun w hw => hts w (List.mem_filter.mp hw).1
  obtain ⟨c0, i0, k0⟩ := u_known (ws := mw_T) (C := RX0) (T := TX0) (N := 6) (n := 6) ht inX0 (ht _ inst0) 
  obtain ⟨c1, i1, k1⟩ := u_known (ws := mw_T) (C := RX1) (T := TX1) (N := 7) (n := 7) ht inX1 (ht _ inst1) 
  obtain ⟨c2, i2, k2⟩ := u_known (ws := mw_T) (C := RX2) (T := TX2) (N := 6) (n := 6) ht inX2 (ht _ inst2) 
  obtain ⟨c3, i3, k3⟩ := u_known (ws := mw_T) (C := RX3) (T := TX3) (N := 4) (n := 4) ht inX3 (ht _ inst3) 
  obtain ⟨c4, i4, k4⟩ := u_known (ws := mw_T) (C := RX4) (T := TX4) (N := 5) (n := 5) ht inX4 (ht _ inst4) 
  obtain ⟨c5, i5, k5⟩ := u_known (ws := mw_T) (C := RX5) (T := TX5) (N := 9) (n := 9) ht inX5 (ht _ inst5) 
  obtain ⟨c6, i6, k6⟩ := u_known (ws := mw_T) (C := RX6) (T := TX6) (N := 5) (n := 5) ht inX6 (ht _ inst6) 
  obtain ⟨c7, i7, k7⟩ := u_known (ws := mw_T) (C := RX7) (T := TX7) (N := 4) (n := 4) ht inX7 (ht _ inst7) 
  obtain ⟨c8, i8, k8⟩ := u_known (ws := mw_T) (C := RX8) (T := TX8) (N := 10) (n := 10) ht inX8 (ht _ inst8) 
  obtain ⟨c9, i9, k9⟩ := u_known (ws := mw_T) (C := RX9) (T := TX9) (N := 17) (n := 17) ht inX9 (ht _ inst9) 
  obtain ⟨c10, i10, k10⟩ := u_known (ws := mw_T) (C := RX10) (T := TX10) (N := 8) (n := 8) ht inX10 (ht _ inst10) 
  obtain ⟨c11, i11, k11⟩ := u_known (ws := mw_T) (C := RX11) (T := TX11) (N := 63) (n := 63) ht inX11 (ht _ inst11)
  obtain ⟨t0, s0⟩ := lsT0 hts hg
  obtain ⟨t1, s1⟩ := lsT1 hts hg
  obtain ⟨t2, s2⟩ := lsT2 hts hg
  obtain ⟨t3, s3⟩ := lsT3 hts hg
  obtain ⟨cI, kI, mI, fI, gI, hI⟩ := Cond.arrayClass_spec (ht _ arI)
  obtain ⟨cJ, kJ, mJ, fJ, gJ, hJ⟩ := Cond.arrayClass_spec (ht _ arL)
  obtain ⟨mL, cL, kL, f1, -, gL, hL, fL⟩ := Cond.arrayOver_spec (hts _ ovL)
  obtain ⟨mA, cA, kA, f2, gA, hA, fA⟩ := Cond.arrayOver_specA (hts _ ovI)
  obtain ⟨mB, cB, kB, f3, gB, hB, fB⟩ := Cond.arrayOver_specA (hts _ ovJ)
  have hK : va_K ((fun k => match k with | 0 => c0 | 1 => c1 | 2 => c2 | 3 => c3 | 4 => c4 | 5 => c5 | 6 => c6 | 7 => c7 | 8 => c8 | 9 => c9 | 10 => c10 | _ => c11), (fun k => match k with | 0 => i0 | 1 => i1 | 2 => i2 | 3 => i3 | 4 => i4 | 5 => i5 | 6 => i6 | 7 => i7 | 8 => i8 | 9 => i9 | 10 => i10 | _ => i11)) vwCl (nt (fun k => match k with | 0 => cI | 1 => cJ | 2 => cL | 3 => cA | _ => cB)) s := by
    refine ⟨fun c q hq => ?_, fun k q hq => ?_⟩
    · have hc : c < 12 := (List.getElem?_eq_some_iff.mp hq).1
      rcases (show c = 0 ∨ c = 1 ∨ c = 2 ∨ c = 3 ∨ c = 4 ∨ c = 5 ∨ c = 6 ∨ c = 7 ∨ c = 8 ∨ c = 9 ∨ c = 10 ∨ c = 11 by omega) with rfl | rfl | rfl | rfl | rfl | rfl | rfl | rfl | rfl | rfl | rfl | rfl
      · cases hq; exact k0
      · cases hq; exact k1
      · cases hq; exact k2
      · cases hq; exact k3
      · cases hq; exact k4
      · cases hq; exact k5
      · cases hq; exact k6
      · cases hq; exact k7
      · cases hq; exact k8
      · cases hq; exact k9
      · cases hq; exact k10
      · cases hq; exact k11
    · have hc : k < 5 := (List.getElem?_eq_some_iff.mp hq).1
      rcases (show k = 0 ∨ k = 1 ∨ k = 2 ∨ k = 3 ∨ k = 4 by omega) with rfl | rfl | rfl | rfl | rfl
      · cases hq; exact ⟨fun n z => ⟨fun k h => (by cases h), kI, gI, mI, hI⟩, fI⟩
      · cases hq; exact ⟨fun n z => ⟨fun k h => (by cases h), kJ, gJ, mJ, hJ⟩, fJ⟩
      · cases hq; exact ⟨fun n z => ⟨fun k h => (by cases h), kL, gL, mL, hL⟩, kL, mL, gL, hL, f1, fL⟩
      · cases hq; exact ⟨fun n z => ⟨fun k h => (by cases h), kA, gA, mA, hA⟩, fA⟩
      · cases hq; exact ⟨fun n z => ⟨fun k h => (by cases h), kB, gB, mB, hB⟩, fB⟩
  refine ⟨((fun k => match k with | 0 => c0 | 1 => c1 | 2 => c2 | 3 => c3 | 4 => c4 | 5 => c5 | 6 => c6 | 7 => c7 | 8 => c8 | 9 => c9 | 10 => c10 | _ => c11), (fun k => match k with | 0 => i0 | 1 => i1 | 2 => i2 | 3 => i3 | 4 => i4 | 5 => i5 | 6 => i6 | 7 => i7 | 8 => i8 | 9 => i9 | 10 => i10 | _ => i11)), (fun k => match k with | 0 => cI | 1 => cJ | 2 => cL | 3 => cA | _ => cB), (fun k => match k with | 0 => t0 | 1 => t1 | 2 => t2 | _ => t3), ⟨hK, va_AO.of (hts _ ovL), hts _ ovI, hts _ ovJ⟩, hK, ⟨va_Nw.of rfl (hts _ nst_delay), va_Nw.of rfl (hts _ nst_noise), va_Nw.of rfl (hts _ nst_wall)⟩, fun i hi => ?_⟩
  rcases (show i = 0 ∨ i = 1 ∨ i = 2 ∨ i = 3 by omega) with rfl | rfl | rfl | rfl
  · exact s0
  · exact s1
  · exact s2
  · exact s3
section LAWN
variable {p : Program} {l : Launch} {e : Env} {R : Room} {s : State} {m : MethodId} {args : Array Value} {below : List Frame} {meth : Method} {c : Code} {D : va_G} {T : Nat → ClassId} {A : Nat → Prop} {cc : ByteArray} {nL : Nat} {own : String} {Q : State → Prop} {pc : Nat} {lv : List (Nat × Value)} {st : List Value} {cs ss : Nat} {W0 : va_W}
def kC (p : Program) (s : State) (m : MethodId) (args : Array Value) (c : Code) (D : va_G) (T : Nat → ClassId) (A : Nat → Prop) (cc : ByteArray) (nL : Nat) (own : String) : Prop := CallFix p m c cc nL s args mw_T own ∧ nV D T s ∧ True ∧ True ∧ True ∧ ∀ q, s.heap.size ≤ q → A q
theorem k_new (hC : kC p s m args c D T A cc nL own) {idx ci N : Nat} {C : String} {T0 : u_T} {ty : Nat → FieldType} {fs : List Value} (hcl : vwCl[ci]? = some (C, T0, N)) (hin : ∀ w ∈ u_ws C T0 N, w ∈ mw_T) (hty : ∀ k, k < N → parseFieldDescriptor (T0 k).2.2.1 = some (ty k)) (hw : Cond.classLink own idx C ∈ mw_T ∧ Cond.instantiable C N ∈ mw_T ∧ Cond.initialized C ∈ mw_T) (hfs : ∀ j, j < N → defaultValue (ty j) = vp_V fs j) (hc : cs + 1 ≤ R.cells) (hs : ss + N ≤ R.slots) (hdg : decode cc pc = .ok (.new idx, 3)) (K : ∀ q, nW p l e R s m args below meth c D A nL Q (pc + 3) lv (.ref q :: st) (cs + 1) (ss + N) (W0 ++ [(q, .inr (ci, fs))])) : nW p l e R s m args below meth c D A nL Q pc lv st cs ss W0 := fun ls H locs hl hP hD hS =>
  va_new (C := C) (T := T0) (N := N) hC.1.1 hC.1.2.1 hC.1.2.2.2.2 hin ty hty hC.1.2.2.2.1 (hC.1.2.2.2.2 _ hw.1) (hC.1.2.2.2.2 _ hw.2.1) (hC.1.2.2.2.2 _ hw.2.2) hC.2.1.1 hP hD hS hC.2.2.2.2.2 hcl hfs hc hs hdg (fun q H1 hP1 hD1 hS1 => K q ls H1 locs hl hP1 hD1 hS1)
theorem k_dup (hC : kC p s m args c D T A cc nL own) {v : Value} (hdg : decode cc pc = .ok (.dup, 1)) (hv : v.category = 1) (K : nW p l e R s m args below meth c D A nL Q (pc + 1) lv (v :: v :: st) cs ss W0) : nW p l e R s m args below meth c D A nL Q pc lv (v :: st) cs ss W0 := fun ls H locs hl hP hD hS => lv_dup hC.1.1 hC.1.2.1 hdg hv (K ls H locs hl hP hD hS)
theorem k_call {S : Type} {ow : S → Nat} (hC : kC p s m args c D T A cc nL own) {y : MethodName} {C : String} {bytes : ByteArray} {maxL fr lo mc ms ci n idx q : Nat} {vs : List Value} {fs0 : List Value} {blk : S → va_W} (hM : nM l D T y bytes maxL fr lo mc ms vs ci fs0 ow blk) (hy : y.cls = C ∧ y.name = "<init>" ∧ Cond.instanceMethod y ∈ mw_T ∧ Cond.initialized C ∈ mw_T ∧ Cond.code y bytes maxL none ∈ mw_T ∧ (C ≠ "java/lang/invoke/MethodHandle" ∧ C ≠ "java/lang/invoke/VarHandle") ∧ (parseMethodDescriptor y.desc).map (fun d => d.parameters.length) = some n) (hlk : Cond.methodLink own idx y ∈ mw_T) (hR : fr + 1 ≤ R.frames ∧ 8 + (maxL + 11) + lo ≤ R.locals) (hn : vs.length = n) {st0 : List Value} (hst : st0 = vs.reverse ++ .ref q :: st) (hcat : (st.map fun v => v.category).sum ≤ 8) (hdg : decode cc pc = .ok (.invokespecial idx, 3)) (hf : cs + mc ≤ R.cells ∧ ss + ms ≤ R.slots)
    (K : ∀ α : S, ow α = q → nW p l e R s m args below meth c D A nL Q (pc + 3) lv st (cs + mc) (ss + ms) (W0 ++ blk α)) : nW p l e R s m args below meth c D A nL Q pc lv st0 cs ss (W0 ++ [(q, .inr (ci, fs0))]) := fun ls H locs hl hP hD hS => by
  obtain ⟨y1, y2, y3, y4, y5, y6, y7⟩ := hy
  subst y1
  have hq : (W0 ++ [(q, (.inr (ci, fs0) : va_E))])[W0.length]? = some (q, .inr (ci, fs0)) := by rw [List.getElem?_append_right (Nat.le_refl _)]; simp
  have hsz : ∀ z, H.size ≤ z → A z := fun z h => hC.2.2.2.2.2 z (Nat.le_trans hS.1 h)
  have hA : ∀ z, nA q H.size z → A z := fun z h => by
    rcases h with rfl | h
    · exact hD.2 _ _ hq
    · exact hsz z h
  have hPq : va_P D vwCl [(q, .inr (ci, fs0))] H := fun k z hz => by
    have h1 : k < 1 := (List.getElem?_eq_some_iff.mp hz).1
    rw [show k = 0 by omega] at hz
    cases hz
    exact hP _ _ hq
  refine va_callv (va_runI (Ts := mw_T) (As := vs) (rest := st) hC.1 (hM q H.size) ⟨⟨rfl, rfl, hR.1, hR.2, pay_in hC.1.2.2.2.2 (mw_goodIn y5), List.mem_cons_self, hC.1.2.2.2.2 _ y5, hC.1.2.2.2.2 _ y4, y6, fun sig h => ?_, hC.1.2.2.2.2 _ hlk⟩, y2, hC.1.2.2.2.2 _ y3⟩ ⟨fun a U g mk h => ?_, fun U hU hW => ⟨rfl, by rw [hU], by rw [hU]; exact hPq, nV.moved hW.alike hC.2.1⟩⟩ rfl hn hl.1 hst (lv_room hcat) hdg hf) hS (fun z _ h => hA z h) hA (fun α t H1 locs1 ht hvm hα hB hz hk hS1 => ?_)
  · rw [h] at y7
    exact (Option.some.inj y7).symm
  · obtain ⟨q0, q1, qP, qV⟩ := h
    exact ⟨q0, q1, qP, nV.moved (u := U) (U := U.calling g mk a) (Vm.Alike.refl U.vm) qV⟩
  · have hB1 : va_P D vwCl (blk α) H1 := by rw [← ht]; exact hB.1
    obtain ⟨j1, j2⟩ := n_join hP hD hsz hk hB1 hB.2
    exact K α hα ls H1 locs1 hl j1 j2 hS1
theorem k_astore_n (hC : kC p s m args c D T A cc nL own) {k : Fin 4} {i : Nat} {x : Nat} (lv' : List (Nat × Value)) (hdg : decode cc pc = .ok (.astore_n k, 1)) (hi : (k : Nat) = i) (hn : i < nL) (he : (i, Value.ref x) :: lv.filter (fun q => !(q.1 == i) && !(q.1 + 1 == i && q.2.category == 2)) = lv') (K : nW p l e R s m args below meth c D A nL Q (pc + 1) lv' st cs ss W0) : nW p l e R s m args below meth c D A nL Q pc lv (.ref x :: st) cs ss W0 := fun ls H locs hl hP hD hS => lv_astore_n hC.1.1 hC.1.2.1 hdg hi hl hn he (fun ls h => K ls H locs h hP hD hS)
theorem k_istore_n (hC : kC p s m args c D T A cc nL own) {k : Fin 4} {i : Nat} {x : Int32} (lv' : List (Nat × Value)) (hdg : decode cc pc = .ok (.istore_n k, 1)) (hi : (k : Nat) = i) (hn : i < nL) (he : (i, Value.int x) :: lv.filter (fun q => !(q.1 == i) && !(q.1 + 1 == i && q.2.category == 2)) = lv') (K : nW p l e R s m args below meth c D A nL Q (pc + 1) lv' st cs ss W0) : nW p l e R s m args below meth c D A nL Q pc lv (.int x :: st) cs ss W0 := fun ls H locs hl hP hD hS => lv_istore_n hC.1.1 hC.1.2.1 hdg hi hl hn he (fun ls h => K ls H locs h hP hD hS)
theorem k_iconst (hC : kC p s m args c D T A cc nL own) {n : Int} (v : Int32) (hdg : decode cc pc = .ok (.iconst n, 1)) (hv : Int32.ofInt n = v) (K : nW p l e R s m args below meth c D A nL Q (pc + 1) lv (.int v :: st) cs ss W0) : nW p l e R s m args below meth c D A nL Q pc lv st cs ss W0 := fun ls H locs hl hP hD hS => lv_iconst hC.1.1 hC.1.2.1 hdg hv (K ls H locs hl hP hD hS)
end LAWN
theorem va_P.left {D : va_G} {cl : List vw_C} {w1 w2 : va_W} {H : Heap} (h : va_P D cl (w1 ++ w2) H) : va_P D cl w1 H := fun k q hq => h k q (by rw [List.getElem?_append_left (List.getElem?_eq_some_iff.mp hq).1]; exact hq)
theorem va_P.right {D : va_G} {cl : List vw_C} {w1 w2 : va_W} {H : Heap} (h : va_P D cl (w1 ++ w2) H) : va_P D cl w2 H := fun k q hq => h (w1.length + k) q (by rw [List.getElem?_append_right (Nat.le_add_right _ _), Nat.add_sub_cancel_left]; exact hq)
theorem va_D.left {A : Nat → Prop} {w1 w2 : va_W} (h : va_D A (w1 ++ w2)) : va_D A w1 := ⟨fun i j p q hp hq e => h.1 i j p q (by rw [List.getElem?_append_left (List.getElem?_eq_some_iff.mp hp).1]; exact hp) (by rw [List.getElem?_append_left (List.getElem?_eq_some_iff.mp hq).1]; exact hq) e, fun k q hq => h.2 k q (by rw [List.getElem?_append_left (List.getElem?_eq_some_iff.mp hq).1]; exact hq)⟩
theorem va_D.right {A : Nat → Prop} {w1 w2 : va_W} (h : va_D A (w1 ++ w2)) : va_D A w2 := by
  have f : ∀ (k : Nat) (q : Nat × va_E), w2[k]? = some q → (w1 ++ w2)[w1.length + k]? = some q := fun k q hq => by rw [List.getElem?_append_right (Nat.le_add_right _ _), Nat.add_sub_cancel_left]; exact hq
  exact ⟨fun i j p q hp hq e => Nat.add_left_cancel (h.1 _ _ p q (f i p hp) (f j q hq) e), fun k q hq => h.2 _ q (f k q hq)⟩
theorem va_D.apart {A : Nat → Prop} {w1 w2 : va_W} (h : va_D A (w1 ++ w2)) {i j : Nat} {p q : Nat × va_E} (hp : w1[i]? = some p) (hq : w2[j]? = some q) : p.1 ≠ q.1 := by
  intro e
  have hi := (List.getElem?_eq_some_iff.mp hp).1
  have h1 := h.1 i (w1.length + j) p q (by rw [List.getElem?_append_left hi]; exact hp) (by rw [List.getElem?_append_right (Nat.le_add_right _ _), Nat.add_sub_cancel_left]; exact hq) e
  omega
/-- YOUR PART: from the entry, for every script of at most 3072 ints, the law comes to its end with true -/
theorem whole_start {p : Program} {e : Env} {s : State} {m : MethodId} {below : List Frame} {meth : Method} {c : Code} (l : Launch) (hflags : l.flags = flags0) {b L : Nat} {xs : Nat → Int32} (hL : L ≤ 3072) (C0 : lw_At p s m meth c b L xs) : W p l e room_1 s m #[Value.ref b] below meth c s.heap [] 0 0 (lw_Z below #[Value.ref b] s) (entryFrame m ([Value.ref b] : List Value).toArray 4) := by
  obtain ⟨hx, hb, hr, hml, hown, hts, hX, hbl, hlk, hg⟩ := C0
  have ht : ∀ w ∈ mw_T, w.before #[Value.ref b] s = true := fun w hw => hts w (List.mem_filter.mp hw).1
  obtain ⟨D, T, tS, hV, hF⟩ := lw_facts hts hg
  have hl := lv_entry [Value.ref b] (n := 4) (Nat.le_of_ble_eq_true rfl)
  rw [show lv_args 0 [Value.ref b] = [(0, .ref b)] from rfl] at hl
  rw [lg_entry_eq]
  have hC : kC p s m #[Value.ref b] c D T (lAt s) cL_law 4 RL := ⟨⟨hx, hb, hml, hown, ht⟩, hV, trivial, trivial, trivial, fun q h => h⟩
  suffices h : nW p l e room_1 s m #[Value.ref b] below meth c D (lAt s) 4 (lw_Z below #[Value.ref b] s) 0 [(0, .ref b)] [] 0 0 [] from h _ _ _ hl (fun k q hq => by cases hq) ⟨fun i j p q hp => (by cases hp), fun k q hq => (by cases hq)⟩ va_S.rf
  refine k_new (ci := 10) (fs := [.null, .null, .null, .null, .null, .null, .null, .null]) hC rfl inX10 tyX10_ok nwL_7 (fun j hj => by rcases (show j = 0 ∨ j = 1 ∨ j = 2 ∨ j = 3 ∨ j = 4 ∨ j = 5 ∨ j = 6 ∨ j = 7 by omega) with rfl | rfl | rfl | rfl | rfl | rfl | rfl | rfl <;> rfl) (Nat.le_of_ble_eq_true rfl) (Nat.le_of_ble_eq_true rfl) dL_law_0 (fun q1 => ?_)
  refine k_dup hC dL_law_3 rfl ?_
  refine k_call hC (I10 (l := l) (D := D) (T := T)) iy10 miL_9 ⟨Nat.le_of_ble_eq_true rfl, Nat.le_of_ble_eq_true rfl⟩ rfl (vs := []) rfl (Nat.le_of_ble_eq_true rfl) dL_law_4 (by exact ⟨Nat.le_of_ble_eq_true rfl, Nat.le_of_ble_eq_true rfl⟩) (fun α eα => ?_)
  have eα : α.1 = q1 := eα
  subst eα
  refine k_astore_n hC [(1, .ref α.1), (0, .ref b)] dL_law_7 rfl (by decide) rfl ?_
  refine k_new (ci := 11) (fs := [.null, .null, .null, .null, .int 0, .int 0, .int 0, .null, .null, .int 0, .null, .null, .null, .null, .int 0, .int 0, .int 0, .null, .null, .int 0, .int 0, .int 0, .int 0, .int 0, .null, .int 0, .null, .null, .null, .null, .null, .null, .null, .int 0, .int 0, .int 0, .int 0, .int 0, .int 0, .int 0, .int 0, .int 0, .int 0, .int 0, .int 0, .int 0, .int 0, .int 0, .int 0, .int 0, .int 0, .int 0, .int 0, .int 0, .null, .null, .int 0, .int 0, .int 0, .null, .null, .null, .null]) hC rfl inX11 tyX11_ok nwL_10 (fun j hj => by rcases (show j = 0 ∨ j = 1 ∨ j = 2 ∨ j = 3 ∨ j = 4 ∨ j = 5 ∨ j = 6 ∨ j = 7 ∨ j = 8 ∨ j = 9 ∨ j = 10 ∨ j = 11 ∨ j = 12 ∨ j = 13 ∨ j = 14 ∨ j = 15 ∨ j = 16 ∨ j = 17 ∨ j = 18 ∨ j = 19 ∨ j = 20 ∨ j = 21 ∨ j = 22 ∨ j = 23 ∨ j = 24 ∨ j = 25 ∨ j = 26 ∨ j = 27 ∨ j = 28 ∨ j = 29 ∨ j = 30 ∨ j = 31 ∨ j = 32 ∨ j = 33 ∨ j = 34 ∨ j = 35 ∨ j = 36 ∨ j = 37 ∨ j = 38 ∨ j = 39 ∨ j = 40 ∨ j = 41 ∨ j = 42 ∨ j = 43 ∨ j = 44 ∨ j = 45 ∨ j = 46 ∨ j = 47 ∨ j = 48 ∨ j = 49 ∨ j = 50 ∨ j = 51 ∨ j = 52 ∨ j = 53 ∨ j = 54 ∨ j = 55 ∨ j = 56 ∨ j = 57 ∨ j = 58 ∨ j = 59 ∨ j = 60 ∨ j = 61 ∨ j = 62 by omega) with rfl | rfl | rfl | rfl | rfl | rfl | rfl | rfl | rfl | rfl | rfl | rfl | rfl | rfl | rfl | rfl | rfl | rfl | rfl | rfl | rfl | rfl | rfl | rfl | rfl | rfl | rfl | rfl | rfl | rfl | rfl | rfl | rfl | rfl | rfl | rfl | rfl | rfl | rfl | rfl | rfl | rfl | rfl | rfl | rfl | rfl | rfl | rfl | rfl | rfl | rfl | rfl | rfl | rfl | rfl | rfl | rfl | rfl | rfl | rfl | rfl | rfl | rfl <;> rfl) (Nat.le_of_ble_eq_true rfl) (Nat.le_of_ble_eq_true rfl) dL_law_8 (fun q2 => ?_)
  refine k_dup hC dL_law_11 rfl ?_
  refine k_call hC (I11 (l := l) (D := D) (T := T)) iy11 miL_12 ⟨Nat.le_of_ble_eq_true rfl, Nat.le_of_ble_eq_true rfl⟩ rfl (vs := []) rfl (Nat.le_of_ble_eq_true rfl) dL_law_12 (by exact ⟨Nat.le_of_ble_eq_true rfl, Nat.le_of_ble_eq_true rfl⟩) (fun β eβ => ?_)
  have eβ : β 0 = q2 := eβ
  subst eβ
  refine k_astore_n hC [(2, .ref (β 0)), (1, .ref α.1), (0, .ref b)] dL_law_15 rfl (by decide) rfl ?_
  refine k_iconst hC 0 dL_law_16 (by decide) ?_
  refine k_istore_n hC [(3, .int (nI 0)), (2, .ref (β 0)), (1, .ref α.1), (0, .ref b)] dL_law_17 rfl (by decide) rfl ?_
  intro ls H locs hl hP hD hS
  have hD1 : va_D (lAt s) (bMW T α) := hD.left
  have hD2 : va_D (lAt s) (mw_ws (D, T, β, tS) kdM m0) := by rw [iM]; exact hD.right
  have g1 := iXD hD1
  have hlM : ∀ i, i < kdM.length → ∃ x, (mw_ws (D, T, β, tS) kdM m0)[i]? = some (β i, x) := fun i hi => ⟨_, mw_ws_at (G := (D, T, β, tS)) (μ := m0) (List.getElem?_eq_getElem hi)⟩
  have g2 : lG s β kdM := by
    refine ⟨fun i j hi hj e => ?_, fun i hi => ?_⟩
    · obtain ⟨x, hx'⟩ := hlM i hi
      obtain ⟨y, hy'⟩ := hlM j hj
      exact hD2.1 i j _ _ hx' hy' e
    · obtain ⟨x, hx'⟩ := hlM i hi
      exact hD2.2 i _ hx'
  have g3 : ∀ i j, i < kdX.length → j < kdM.length → gX α i ≠ β j := fun i j hi hj => by
    obtain ⟨x, hx'⟩ := g1.2 i hi
    obtain ⟨y, hy'⟩ := hlM j hj
    rw [iM] at hy'
    exact hD.apart hx' hy'
  have hLC : lC p room_1 s m #[Value.ref b] c (D, T, gX α, β, tS) 104 6664 b L xs cL_law 4 RL := ⟨hC.1, hF, ⟨⟨g1.1.1, g1.1.2⟩, g2, g3⟩, ⟨Nat.le_of_ble_eq_true rfl, Nat.le_of_ble_eq_true rfl⟩, hX, hbl⟩
  refine l_loop (l := l) (e := e) (below := below) (meth := meth) (Q := lw_Z below #[Value.ref b] s) hLC hL (fun i a μ ls H locs hl hH => ?_) L 0 a0 m0 (Nat.zero_le _) (by omega) rr_start ls H locs hl ⟨iX hP.left, by show va_P D vwCl (mw_ws (D, T, β, tS) kdM m0) H; rw [iM]; exact hP.right, hS⟩
  refine lv_iconst hx hb dL_law_1370 (v := 1) rfl ?_
  refine va_forget (fun q hq => hH.2.2.2.2 q hq) ?_
  refine W.widen (k := 600000) (n := 7302250) (Nat.le_of_ble_eq_true rfl) (Nat.le_of_ble_eq_true rfl) ?_
  exact lw_ret hx hb hr hlk dL_law_1371
