/-! the nursery: a constructor's walk; its own cell stands first, what it makes behind it -/
def nt (T : Nat → ClassId) : List (ClassId × FieldType) := [(T 0, .int), (T 1, .long), (T 2, .object "MachineWalks$Law"), (T 3, .array .int), (T 4, .array .long)]
def nV (D : va_G) (T : Nat → ClassId) (U : State) : Prop := va_K D vwCl (nt T) U ∧ va_AO "MachineWalks$Law" U ∧ va_AOA .int U ∧ va_AOA .long U
theorem nV.moved {D : va_G} {T : Nat → ClassId} {u U : State} (hvm : u.vm.Alike U.vm) (h : nV D T u) : nV D T U := ⟨va_K.moved hvm h.1, h.2.1.moved hvm, h.2.2.1.moved hvm, h.2.2.2.moved hvm⟩
theorem va_RA_one {U : State} {c d : ClassId} {ty : FieldType} (h1 : va_RA U c ty) (h2 : va_RA U d ty) : c = d := by
  cases ty with
  | object C =>
    obtain ⟨_, _, _, _, _, h3⟩ := h1
    obtain ⟨_, _, _, _, _, h4⟩ := h2
    exact Option.some.inj (h3.symm.trans h4)
  | _ => exact Option.some.inj (h1.symm.trans h2)
theorem nt_one {D : va_G} {T : Nat → ClassId} {U : State} {c : ClassId} {ty : FieldType} (k : Nat) (h : va_K D vwCl (nt T ++ [(c, ty)]) U) (hk : (nt T)[k]? = some (T k, ty)) : c = T k := by
  have h1 := (h.2 5 (c, ty) rfl).2
  have h2 := (h.2 k (T k, ty) (by rw [List.getElem?_append_left (List.getElem?_eq_some_iff.mp hk).1]; exact hk)).2
  exact va_RA_one h1 h2
/-- which cells a constructor may change: its own, and those that come -/
def nA (h0 sz : Nat) : Nat → Prop := fun q => q = h0 ∨ sz ≤ q
def nB {S : Type} (D : va_G) (A : Nat → Prop) (blk : S → va_W) (α : S) (t : State) : Prop := va_P D vwCl (blk α) t.heap ∧ va_D A (blk α)
def nPre (D : va_G) (T : Nat → ClassId) (h0 sz ci : Nat) (fs0 : List Value) (U : State) : Prop := U.heap.size = sz ∧ va_P D vwCl [(h0, .inr (ci, fs0))] U.heap ∧ nV D T U
def nM {S : Type} (l : Launch) (D : va_G) (T : Nat → ClassId) (y : MethodName) (bytes : ByteArray) (maxL fr lo cs ss : Nat) (vs : List Value) (ci : Nat) (fs0 : List Value) (ow : S → Nat) (blk : S → va_W) : Prop := ∀ h0 sz : Nat, Met l y (.code y bytes maxL none :: mw_T) { frames := fr, cells := cs, slots := ss, locals := lo } (va_Pc (.ref h0 :: vs) (nPre D T h0 sz ci fs0)) (va_Qv (fun α : S => ow α = h0) (nB D (nA h0 sz) blk) (nA h0 sz)) cs ss (nA h0 sz)
def nC (p : Program) (s : State) (m : MethodId) (args : Array Value) (meth : Method) (c : Code) (D : va_G) (T : Nat → ClassId) (A : Nat → Prop) (cc : ByteArray) (nL : Nat) (own : String) : Prop := CallFix p m c cc nL s args mw_T own ∧ nV D T s ∧ meth.sig.returnType = none ∧ meth.locks = false ∧ meth.name = "<init>" ∧ ∀ q, s.heap.size ≤ q → A q
def nW (p : Program) (l : Launch) (e : Env) (R : Room) (s : State) (m : MethodId) (args : Array Value) (below : List Frame) (meth : Method) (c : Code) (D : va_G) (A : Nat → Prop) (nL : Nat) (Q : State → Prop) (pc : Nat) (lv : List (Nat × Value)) (st : List Value) (cs ss : Nat) (W0 : va_W) : Prop :=
  ∀ (ls : Array Slot) (H : Heap) (locs : List Loc), lv_has ls nL lv → va_P D vwCl W0 H → va_D A W0 → va_S A s.heap H locs → W p l e R s m args below meth c H locs cs ss Q (F0 m pc ls st)
theorem n_enter {S : Type} {ow : S → Nat} {l : Launch} {D : va_G} {T : Nat → ClassId} {y : MethodName} {bytes : ByteArray} {maxL fr lo cs ss : Nat} {vs : List Value} {ci : Nat} {fs0 : List Value} {blk : S → va_W} (own : String) (lv0 : Nat → List (Nat × Value)) (hy : plainName y.cls = true) (hC : y.cls = own) (hi : y.name = "<init>") (hlen : ∀ h0, (lg_sl (.ref h0 :: vs)).length ≤ maxL) (hlv : ∀ h0, lv_args 0 (.ref h0 :: vs) = lv0 h0)
    (body : ∀ (p : Program) (e : Env) (s : State) (m : MethodId) (args : Array Value) (below : List Frame) (meth : Method) (c : Code) (h0 : Nat), nC p s m args meth c D T (nA h0 s.heap.size) bytes maxL own → nW p l e { frames := fr, cells := cs, slots := ss, locals := lo } s m args below meth c D (nA h0 s.heap.size) maxL (MQ below (va_Qv (fun α : S => ow α = h0) (nB D (nA h0 s.heap.size) blk) (nA h0 s.heap.size)) args s cs ss (nA h0 s.heap.size)) 0 (lv0 h0) [] 0 0 [(h0, .inr (ci, fs0))]) : nM l D T y bytes maxL fr lo cs ss vs ci fs0 ow blk := by
  intro h0 sz
  refine Met.ofW (cc := bytes) (maxL := maxL) (ret := none) hy rfl ?_
  intro p e s m args below meth c s₁ B hml hv
  obtain ⟨rfl, hsz, hP, hV⟩ := hv
  subst hsz
  have hts := atoms_spec (ws := .code y bytes maxL none :: mw_T) B.pre
  have hown : s.vm.findClass own = some m.cls := by rw [← hC]; exact findClass_of_methodNamed B.named
  have hl := lv_entry (.ref h0 :: vs) (n := maxL) (hlen h0)
  rw [hlv] at hl
  rw [lg_entry_eq]
  refine body p e s m _ below meth c h0 ⟨⟨B.exec, B.bytes, hml, hown, fun w hw => hts w (List.mem_cons_of_mem _ hw)⟩, hV, B.returns, B.notSynchronized, (name_of_methodNamed B.named B.method).1.trans hi, fun q h => Or.inr h⟩ _ _ _ hl hP ⟨fun i j a b hi hj _ => ?_, fun k q hk => ?_⟩ va_S.rf
  · have h1 : i < 1 := (List.getElem?_eq_some_iff.mp hi).1
    have h2 : j < 1 := (List.getElem?_eq_some_iff.mp hj).1
    omega
  · have h1 : k < 1 := (List.getElem?_eq_some_iff.mp hk).1
    rw [show k = 0 by omega] at hk
    cases hk
    exact Or.inl rfl
section NUR
variable {p : Program} {l : Launch} {e : Env} {R : Room} {s : State} {m : MethodId} {args : Array Value} {below : List Frame} {meth : Method} {c : Code} {D : va_G} {T : Nat → ClassId} {A : Nat → Prop} {cc : ByteArray} {nL : Nat} {own : String} {Q : State → Prop} {pc : Nat} {lv : List (Nat × Value)} {st : List Value} {cs ss : Nat} {W0 : va_W}
theorem n_aload_n (hC : nC p s m args meth c D T A cc nL own) {k : Fin 4} {i x : Nat} (t : Nat) (hdg : decode cc pc = .ok (.aload_n k, 1)) (hi : (k : Nat) = i) (ht : lv[t]? = some (i, .ref x)) (K : nW p l e R s m args below meth c D A nL Q (pc + 1) lv (.ref x :: st) cs ss W0) : nW p l e R s m args below meth c D A nL Q pc lv st cs ss W0 := fun ls H locs hl hP hD hS => lv_aload_n hC.1.1 hC.1.2.1 hdg hi (lv_at hl t ht) (K ls H locs hl hP hD hS)
theorem n_iload_n (hC : nC p s m args meth c D T A cc nL own) {k : Fin 4} {i : Nat} {x : Int32} (t : Nat) (hdg : decode cc pc = .ok (.iload_n k, 1)) (hi : (k : Nat) = i) (ht : lv[t]? = some (i, .int x)) (K : nW p l e R s m args below meth c D A nL Q (pc + 1) lv (.int x :: st) cs ss W0) : nW p l e R s m args below meth c D A nL Q pc lv st cs ss W0 := fun ls H locs hl hP hD hS => lv_iload_n hC.1.1 hC.1.2.1 hdg hi (lv_at hl t ht) (K ls H locs hl hP hD hS)
theorem n_iconst (hC : nC p s m args meth c D T A cc nL own) {n : Int} (v : Int32) (hdg : decode cc pc = .ok (.iconst n, 1)) (hv : Int32.ofInt n = v) (K : nW p l e R s m args below meth c D A nL Q (pc + 1) lv (.int v :: st) cs ss W0) : nW p l e R s m args below meth c D A nL Q pc lv st cs ss W0 := fun ls H locs hl hP hD hS => lv_iconst hC.1.1 hC.1.2.1 hdg hv (K ls H locs hl hP hD hS)
theorem n_bipush (hC : nC p s m args meth c D T A cc nL own) {n : Int} (v : Int32) (hdg : decode cc pc = .ok (.bipush n, 2)) (hv : (Int8.ofInt n).toInt32 = v) (K : nW p l e R s m args below meth c D A nL Q (pc + 2) lv (.int v :: st) cs ss W0) : nW p l e R s m args below meth c D A nL Q pc lv st cs ss W0 := fun ls H locs hl hP hD hS => lv_bipush hC.1.1 hC.1.2.1 hdg hv (K ls H locs hl hP hD hS)
theorem n_sipush (hC : nC p s m args meth c D T A cc nL own) {n : Int} (v : Int32) (hdg : decode cc pc = .ok (.sipush n, 3)) (hv : (Int16.ofInt n).toInt32 = v) (K : nW p l e R s m args below meth c D A nL Q (pc + 3) lv (.int v :: st) cs ss W0) : nW p l e R s m args below meth c D A nL Q pc lv st cs ss W0 := fun ls H locs hl hP hD hS => lv_sipush hC.1.1 hC.1.2.1 hdg hv (K ls H locs hl hP hD hS)
theorem n_dup (hC : nC p s m args meth c D T A cc nL own) {v : Value} (hdg : decode cc pc = .ok (.dup, 1)) (hv : v.category = 1) (K : nW p l e R s m args below meth c D A nL Q (pc + 1) lv (v :: v :: st) cs ss W0) : nW p l e R s m args below meth c D A nL Q pc lv (v :: st) cs ss W0 := fun ls H locs hl hP hD hS => lv_dup hC.1.1 hC.1.2.1 hdg hv (K ls H locs hl hP hD hS)
theorem n_istore_n (hC : nC p s m args meth c D T A cc nL own) {k : Fin 4} {i : Nat} {x : Int32} (lv' : List (Nat × Value)) (hdg : decode cc pc = .ok (.istore_n k, 1)) (hi : (k : Nat) = i) (hn : i < nL) (he : (i, Value.int x) :: lv.filter (fun q => !(q.1 == i) && !(q.1 + 1 == i && q.2.category == 2)) = lv') (K : nW p l e R s m args below meth c D A nL Q (pc + 1) lv' st cs ss W0) : nW p l e R s m args below meth c D A nL Q pc lv (.int x :: st) cs ss W0 := fun ls H locs hl hP hD hS => lv_istore_n hC.1.1 hC.1.2.1 hdg hi hl hn he (fun ls h => K ls H locs h hP hD hS)
theorem n_iinc (hC : nC p s m args meth c D T A cc nL own) {i k : Nat} {n : Int} {x : Int32} (v : Int32) (lv' : List (Nat × Value)) (hdg : decode cc pc = .ok (.iinc i n, 3)) (hk : lv[k]? = some (i, .int x)) (hv : x + Int32.ofInt n = v) (hn : i < nL) (he : (i, Value.int v) :: lv.filter (fun q => !(q.1 == i) && !(q.1 + 1 == i && q.2.category == 2)) = lv') (K : nW p l e R s m args below meth c D A nL Q (pc + 3) lv' st cs ss W0) : nW p l e R s m args below meth c D A nL Q pc lv st cs ss W0 := fun ls H locs hl hP hD hS => lv_iinc hC.1.1 hC.1.2.1 hdg hl hk hv hn he (fun ls h => K ls H locs h hP hD hS)
theorem n_icmp_geT (hC : nC p s m args meth c D T A cc nL own) {x y : Int32} {off : Int} (tgt : Nat) (hdg : decode cc pc = .ok (.if_icmp .ge off, 3)) (ht : (pc : Int) + off = (tgt : Int)) (h : y ≤ x) (K : nW p l e R s m args below meth c D A nL Q tgt lv st cs ss W0) : nW p l e R s m args below meth c D A nL Q pc lv (.int y :: .int x :: st) cs ss W0 := fun ls H locs hl hP hD hS => lv_icmp_ge hC.1.1 hC.1.2.1 hdg ht (fun _ => K ls H locs hl hP hD hS) (fun q => absurd h q)
theorem n_icmp_geF (hC : nC p s m args meth c D T A cc nL own) {x y : Int32} {off : Int} (tgt : Nat) (hdg : decode cc pc = .ok (.if_icmp .ge off, 3)) (ht : (pc : Int) + off = (tgt : Int)) (h : ¬ y ≤ x) (K : nW p l e R s m args below meth c D A nL Q (pc + 3) lv st cs ss W0) : nW p l e R s m args below meth c D A nL Q pc lv (.int y :: .int x :: st) cs ss W0 := fun ls H locs hl hP hD hS => lv_icmp_ge hC.1.1 hC.1.2.1 hdg ht (fun q => absurd q h) (fun _ => K ls H locs hl hP hD hS)
theorem n_goto (hC : nC p s m args meth c D T A cc nL own) {off : Int} (tgt : Nat) (hdg : decode cc pc = .ok (.goto off, 3)) (ht : (pc : Int) + off = (tgt : Int)) (K : nW p l e R s m args below meth c D A nL Q tgt lv st cs ss W0) : nW p l e R s m args below meth c D A nL Q pc lv st cs ss W0 := fun ls H locs hl hP hD hS => lv_goto hC.1.1 hC.1.2.1 hdg ht (K ls H locs hl hP hD hS)
theorem n_objInit (hC : nC p s m args meth c D T A cc nL own) {idx a : Nat} (hw : Cond.methodLink own idx objectInit ∈ mw_T ∧ Cond.instanceMethod objectInit ∈ mw_T ∧ Cond.code objectInit ⟨#[0xb1]⟩ 1 none ∈ mw_T) (h1 : 1 ≤ R.frames) (h2 : 12 ≤ R.locals) (hdg : decode cc pc = .ok (.invokespecial idx, 3)) (K : nW p l e R s m args below meth c D A nL Q (pc + 3) lv [] cs ss W0) : nW p l e R s m args below meth c D A nL Q pc lv [.ref a] cs ss W0 := fun ls H locs hl hP hD hS => by
  refine W.objInit hC.1.1 hC.1.2.1 hC.1.2.2.2.1 (hC.1.2.2.2.2 _ hw.1) (hC.1.2.2.2.2 _ hw.2.1) (hC.1.2.2.2.2 _ hw.2.2) rfl (by rw [hC.1.2.2.1]; exact hl.1) rfl hdg h1 h2 ?_
  exact W.eq (g2 := F0 m (pc + 3) ls []) rfl (K ls H locs hl hP hD hS)
theorem n_newaI (hC : nC p s m args meth c D T A cc nL own) {N : Nat} {n : Int32} (harr : Cond.arrayClass .int ∈ mw_T) (hn : ¬ n < 0) (hN : n.toNatClampNeg = N) (hby : N * 4 ≤ 536870912) (hc : cs + 1 ≤ R.cells) (hs : ss + N ≤ R.slots) (hdg : decode cc pc = .ok (.newarray .int, 2)) (K : ∀ q, nW p l e R s m args below meth c D A nL Q (pc + 2) lv (.ref q :: st) (cs + 1) (ss + N) (W0 ++ [(q, .inl (T 0, N, .inl (fun _ => 0)))])) : nW p l e R s m args below meth c D A nL Q pc lv (.int n :: st) cs ss W0 := fun ls H locs hl hP hD hS => by
  refine va_newa (atype := .int) (ty := .int) (a0 := (N, .inl (fun _ => 0))) hC.1.1 hC.1.2.1 (hC.1.2.2.2.2 _ harr) rfl hC.2.1.1 hP hD hS hC.2.2.2.2.2 (fun _ => rfl) hn hN hby hc hs hdg (fun q cA H1 hK1 hP1 hD1 hS1 => ?_)
  have e := nt_one 0 hK1 rfl
  subst e
  exact K q ls H1 locs hl hP1 hD1 hS1
theorem n_newaL (hC : nC p s m args meth c D T A cc nL own) {N : Nat} {n : Int32} (harr : Cond.arrayClass .long ∈ mw_T) (hn : ¬ n < 0) (hN : n.toNatClampNeg = N) (hby : N * 8 ≤ 536870912) (hc : cs + 1 ≤ R.cells) (hs : ss + N ≤ R.slots) (hdg : decode cc pc = .ok (.newarray .long, 2)) (K : ∀ q, nW p l e R s m args below meth c D A nL Q (pc + 2) lv (.ref q :: st) (cs + 1) (ss + N) (W0 ++ [(q, .inl (T 1, N, .inr (.inl (fun _ => 0))))])) : nW p l e R s m args below meth c D A nL Q pc lv (.int n :: st) cs ss W0 := fun ls H locs hl hP hD hS => by
  refine va_newa (atype := .long) (ty := .long) (a0 := (N, .inr (.inl (fun _ => 0)))) hC.1.1 hC.1.2.1 (hC.1.2.2.2.2 _ harr) rfl hC.2.1.1 hP hD hS hC.2.2.2.2.2 (fun _ => rfl) hn hN hby hc hs hdg (fun q cA H1 hK1 hP1 hD1 hS1 => ?_)
  have e := nt_one 1 hK1 rfl
  subst e
  exact K q ls H1 locs hl hP1 hD1 hS1
theorem n_newq (hC : nC p s m args meth c D T A cc nL own) {idx N : Nat} {n : Int32} (hlk : Cond.classLink own idx "MachineWalks$Law" ∈ mw_T) (hn : ¬ n < 0) (hN : n.toNatClampNeg = N) (hby : N * 4 ≤ 536870912) (hc : cs + 1 ≤ R.cells) (hs : ss + N ≤ R.slots) (hdg : decode cc pc = .ok (.anewarray idx, 3)) (K : ∀ q, nW p l e R s m args below meth c D A nL Q (pc + 3) lv (.ref q :: st) (cs + 1) (ss + N) (W0 ++ [(q, .inl (T 2, N, .inr (.inr (.inr (.inr (fun _ => none))))))])) : nW p l e R s m args below meth c D A nL Q pc lv (.int n :: st) cs ss W0 := fun ls H locs hl hP hD hS => by
  refine va_newq (C := "MachineWalks$Law") hC.1.1 hC.1.2.1 hC.1.2.2.2.1 (hC.1.2.2.2.2 _ hlk) hC.2.1.2.1 hC.2.1.1 hP hD hS hC.2.2.2.2.2 hn hN hby hc hs hdg (fun q cA H1 hK1 hP1 hD1 hS1 => ?_)
  have e := nt_one 2 hK1 rfl
  subst e
  exact K q ls H1 locs hl hP1 hD1 hS1
theorem n_rows {L : List Nat} {f : Nat → va_E} {e : va_E} : va_pl ([] ++ L) (vr_up f L e) = L.map (fun a => (a, e)) := by
  unfold va_pl
  rw [List.nil_append]
  exact List.map_congr_left (fun a ha => by rw [vr_up_in ha])
theorem n_mna (hC : nC p s m args meth c D T A cc nL own) {idx N M : Nat} {ty : FieldType} {n k : Int32} {z : vp_A} {t : Nat} (hty : (nt T)[t]? = some (T t, ty)) (hta : (nt T)[t + 3]? = some (T (t + 3), .array ty)) (hnm : s.vm.findClass (FieldType.array ty).toString = some (T t)) (hover : va_AOA ty s) (hlk : Cond.classLink own idx ("[" ++ (FieldType.array ty).toString) ∈ mw_T) (harr : Cond.arrayClass ty ∈ mw_T) (hn : ¬ n < 0) (hk : ¬ k < 0) (hN : n.toNatClampNeg = N) (hM : k.toNatClampNeg = M) (hb1 : N * 4 ≤ 536870912) (hb2 : M * componentBytes ty ≤ 536870912) (hb3 : M ≤ 536870912) (hdf : fits ty (defaultValue ty) = true) (hdd : (defaultValue ty).isDefault = true) (hz : ∀ c : ClassId, Jvm.Free.Multi.innerC c M (defaultValue ty) = vp_cell c z) (hc : cs + (1 + N) ≤ R.cells) (hs : ss + (N + N * M) ≤ R.slots) (hdg : decode cc pc = .ok (.multianewarray idx 2, 4))
    (K : ∀ (q : Nat) (r : Nat → Nat), nW p l e R s m args below meth c D A nL Q (pc + 4) lv (.ref q :: st) (cs + 1 + N) (ss + N + N * M) ((W0 ++ [(q, .inl (T (t + 3), N, .inr (.inr (.inr (.inr (fun i => if i < N then some (r i) else none))))))]) ++ (List.range N).map (fun i => (r i, .inl (T t, z))))) : nW p l e R s m args below meth c D A nL Q pc lv (.int k :: .int n :: st) cs ss W0 := fun ls H locs hl hP hD hS => by
  refine va_mna (X := W0) (L := []) (f := fun _ => .inl (T t, z)) (z := z) hC.1.1 hC.1.2.1 hC.1.2.2.2.1 (hC.1.2.2.2.2 _ hlk) hover (hC.1.2.2.2.2 _ harr) hnm hC.2.1.1 (by rw [show va_pl [] (fun _ => (.inl (T t, z) : va_E)) = [] from rfl, List.append_nil]; exact hP) (by rw [show va_pl [] (fun _ => (.inl (T t, z) : va_E)) = [] from rfl, List.append_nil]; exact hD) hS hC.2.2.2.2.2 hn hk hN hM hb1 hb2 hb3 hdf hdd hc hs hz hdg (fun q r cA H1 _ _ hK1 hP1 hD1 hS1 => ?_)
  have e := nt_one (t + 3) hK1 hta
  subst e
  rw [n_rows, List.map_map] at hP1 hD1
  exact K q r ls H1 locs hl hP1 hD1 hS1
theorem n_new (hC : nC p s m args meth c D T A cc nL own) {idx ci N : Nat} {C : String} {T0 : u_T} {ty : Nat → FieldType} {fs : List Value} (hcl : vwCl[ci]? = some (C, T0, N)) (hin : ∀ w ∈ u_ws C T0 N, w ∈ mw_T) (hty : ∀ k, k < N → parseFieldDescriptor (T0 k).2.2.1 = some (ty k)) (hw : Cond.classLink own idx C ∈ mw_T ∧ Cond.instantiable C N ∈ mw_T ∧ Cond.initialized C ∈ mw_T) (hfs : ∀ j, j < N → defaultValue (ty j) = vp_V fs j) (hc : cs + 1 ≤ R.cells) (hs : ss + N ≤ R.slots) (hdg : decode cc pc = .ok (.new idx, 3)) (K : ∀ q, nW p l e R s m args below meth c D A nL Q (pc + 3) lv (.ref q :: st) (cs + 1) (ss + N) (W0 ++ [(q, .inr (ci, fs))])) : nW p l e R s m args below meth c D A nL Q pc lv st cs ss W0 := fun ls H locs hl hP hD hS =>
  va_new (C := C) (T := T0) (N := N) hC.1.1 hC.1.2.1 hC.1.2.2.2.2 hin ty hty hC.1.2.2.2.1 (hC.1.2.2.2.2 _ hw.1) (hC.1.2.2.2.2 _ hw.2.1) (hC.1.2.2.2.2 _ hw.2.2) hC.2.1.1 hP hD hS hC.2.2.2.2.2 hcl hfs hc hs hdg (fun q H1 hP1 hD1 hS1 => K q ls H1 locs hl hP1 hD1 hS1)
theorem n_put (hC : nC p s m args meth c D T A cc nL own) {idx ci j h0 : Nat} {ty : FieldType} {fin : Bool} {v : Value} {fs : List Value} {ws : va_W} (hf : mw_fl own idx ci j ty fin) (ho : ∀ C T N, vwCl[ci]? = some (C, T, N) → C = own) (hn : narrow ty v = v) (hfit : fits ty v = true) (hl0 : j < fs.length) (hdg : decode cc pc = .ok (.putfield idx, 3)) (K : nW p l e R s m args below meth c D A nL Q (pc + 3) lv st cs ss ((h0, .inr (ci, fs.set j v)) :: ws)) : nW p l e R s m args below meth c D A nL Q pc lv (v :: .ref h0 :: st) cs ss ((h0, .inr (ci, fs)) :: ws) := fun ls H locs hl hP hD hS => by
  obtain ⟨C, T0, N, t0, h1, h2, h3, h4, h5, h6, h7, h8, h9⟩ := hf
  cases fin with
  | true => exact va_putF (C := C) (T := T0) (N := N) (ref := C) (ty := ty) (v := v) hC.1.1 hC.1.2.1 hC.1.2.2.2.2 h2 t0 h6 h7 hC.1.2.2.2.1 hC.2.1.1 hP hD hS 0 rfl h1 j h3 (hC.1.2.2.2.2 _ h4) (fun x h => by rw [h5] at h; exact h) h9 hC.2.2.2.2.1 (h5.trans (ho C T0 N h1)) (by rw [h6 j h3, h8]) hn hfit hl0 hdg (fun H1 locs1 hP1 hD1 hS1 => K ls H1 locs1 hl hP1 hD1 hS1)
  | false => exact va_put (C := C) (T := T0) (N := N) (ref := C) (ty := ty) (v := v) hC.1.1 hC.1.2.1 hC.1.2.2.2.2 h2 t0 h6 h7 hC.1.2.2.2.1 hC.2.1.1 hP hD hS 0 rfl h1 j h3 (hC.1.2.2.2.2 _ h4) (fun x h => by rw [h5] at h; exact h) h9 (by rw [h6 j h3, h8]) hn hfit hl0 hdg (fun H1 locs1 hP1 hD1 hS1 => K ls H1 locs1 hl hP1 hD1 hS1)
theorem n_get (hC : nC p s m args meth c D T A cc nL own) {idx ci j h0 : Nat} {ty : FieldType} {fin : Bool} {v : Value} {fs : List Value} {ws : va_W} (hf : mw_fl own idx ci j ty fin) (hv : fs[j]? = some v) (hdg : decode cc pc = .ok (.getfield idx, 3)) (K : nW p l e R s m args below meth c D A nL Q (pc + 3) lv (v :: st) cs ss ((h0, .inr (ci, fs)) :: ws)) : nW p l e R s m args below meth c D A nL Q pc lv (.ref h0 :: st) cs ss ((h0, .inr (ci, fs)) :: ws) := fun ls H locs hl hP hD hS => by
  obtain ⟨C, T0, N, t0, h1, h2, h3, h4, h5, h6, h7, h8, h9⟩ := hf
  exact va_get (C := C) (T := T0) (N := N) (ref := C) (v := v) hC.1.1 hC.1.2.1 hC.1.2.2.2.2 h2 hC.1.2.2.2.1 hC.2.1.1 hP 0 rfl h1 j h3 (hC.1.2.2.2.2 _ h4) (fun x h => by rw [h5] at h; exact h) hv hdg (K ls H locs hl hP hD hS)
theorem n_iast (hC : nC p s m args meth c D T A cc nL own) {a n : Nat} {f : Nat → Int32} {i v : Int32} (q0 : Nat) (ha : W0[q0]? = some (a, .inl (T 0, n, .inl f))) (hin : vp_in i n) (hdg : decode cc pc = .ok (.iastore, 1)) (K : nW p l e R s m args below meth c D A nL Q (pc + 1) lv st cs ss (W0.set q0 (a, .inl (T 0, n, .inl (upd f i.toNatClampNeg v))))) : nW p l e R s m args below meth c D A nL Q pc lv (.int v :: .int i :: .ref a :: st) cs ss W0 := fun ls H locs hl hP hD hS =>
  va_iast (tys := nt T) hC.1.1 hC.1.2.1 hC.2.1.1 hP hD hS q0 0 ha rfl hin hdg (fun H1 locs1 hP1 hD1 hS1 => K ls H1 locs1 hl hP1 hD1 hS1)
theorem n_aast (hC : nC p s m args meth c D T A cc nL own) {a n v ci : Nat} {f : Nat → Option Nat} {i : Int32} {vs : List Value} {T0 : u_T} {N : Nat} (q0 qk : Nat) (ha : W0[q0]? = some (a, .inl (T 2, n, .inr (.inr (.inr (.inr f)))))) (hv : W0[qk]? = some (v, .inr (ci, vs))) (hc : vwCl[ci]? = some ("MachineWalks$Law", T0, N)) (hin : vp_in i n) (hdg : decode cc pc = .ok (.aastore, 1)) (K : nW p l e R s m args below meth c D A nL Q (pc + 1) lv st cs ss (W0.set q0 (a, .inl (T 2, n, .inr (.inr (.inr (.inr (va_up f i.toNatClampNeg (some v))))))))) : nW p l e R s m args below meth c D A nL Q pc lv (.ref v :: .int i :: .ref a :: st) cs ss W0 := fun ls H locs hl hP hD hS =>
  va_astq (tys := nt T) (r := ("MachineWalks$Law", T0, N)) hC.1.1 hC.1.2.1 hC.2.1.1 hP hD hS q0 2 qk ci ha rfl hv hc hin hdg (fun H1 locs1 hP1 hD1 hS1 => K ls H1 locs1 hl hP1 hD1 hS1)
/-- behind a call: what stood there stands, the callee's cells beside it -/
theorem n_join {q : Nat} {x : va_E} {w1 : va_W} {H H1 : Heap} (hP : va_P D vwCl (W0 ++ [(q, x)]) H) (hD : va_D A (W0 ++ [(q, x)])) (hsz : ∀ z, H.size ≤ z → A z) (hk : ∀ z : Nat, z < H.size → ¬ nA q H.size z → H1[z]? = H[z]?) (hP1 : va_P D vwCl w1 H1) (hD1 : va_D (nA q H.size) w1) : va_P D vwCl (W0 ++ w1) H1 ∧ va_D A (W0 ++ w1) := by
  have hq : (W0 ++ [(q, x)])[W0.length]? = some (q, x) := by rw [List.getElem?_append_right (Nat.le_refl _)]; simp
  have apart : ∀ (k : Nat) (z : Nat × va_E), W0[k]? = some z → z.1 < H.size ∧ ¬ nA q H.size z.1 := by
    intro k z hz
    have hkl := (List.getElem?_eq_some_iff.mp hz).1
    have hz' : (W0 ++ [(q, x)])[k]? = some z := by rw [List.getElem?_append_left hkl]; exact hz
    have hl := (hP k z hz').lt
    refine ⟨hl, fun h => ?_⟩
    rcases h with h | h
    · have := hD.1 k W0.length z (q, x) hz' hq h
      omega
    · omega
  have hA : ∀ z, nA q H.size z → A z := fun z h => by
    rcases h with rfl | h
    · exact hD.2 _ _ hq
    · exact hsz z h
  refine ⟨va_P.app (fun k z hz => ?_) hP1, va_D.app ⟨fun i j a b hi hj hab => ?_, fun k z hz => ?_⟩ (hD1.weaken (fun k z _ h => hA z.1 h)) (fun i j a b hi hj hab => ?_)⟩
  · have hkl := (List.getElem?_eq_some_iff.mp hz).1
    obtain ⟨g1, g2⟩ := apart k z hz
    exact (hP k z (by rw [List.getElem?_append_left hkl]; exact hz)).kept (hk z.1 g1 g2)
  · exact hD.1 i j a b (by rw [List.getElem?_append_left (List.getElem?_eq_some_iff.mp hi).1]; exact hi) (by rw [List.getElem?_append_left (List.getElem?_eq_some_iff.mp hj).1]; exact hj) hab
  · exact hD.2 k z (by rw [List.getElem?_append_left (List.getElem?_eq_some_iff.mp hz).1]; exact hz)
  · exact (apart i a hi).2 (by rw [hab]; exact hD1.2 j b hj)
theorem n_call {S : Type} {ow : S → Nat} (hC : nC p s m args meth c D T A cc nL own) {y : MethodName} {C : String} {bytes : ByteArray} {maxL fr lo mc ms ci n idx q : Nat} {vs : List Value} {fs0 : List Value} {blk : S → va_W} (hM : nM l D T y bytes maxL fr lo mc ms vs ci fs0 ow blk) (hy : y.cls = C ∧ y.name = "<init>" ∧ Cond.instanceMethod y ∈ mw_T ∧ Cond.initialized C ∈ mw_T ∧ Cond.code y bytes maxL none ∈ mw_T ∧ (C ≠ "java/lang/invoke/MethodHandle" ∧ C ≠ "java/lang/invoke/VarHandle") ∧ (parseMethodDescriptor y.desc).map (fun d => d.parameters.length) = some n) (hlk : Cond.methodLink own idx y ∈ mw_T) (hR : fr + 1 ≤ R.frames ∧ 8 + (maxL + 11) + lo ≤ R.locals) (hn : vs.length = n) {st0 : List Value} (hst : st0 = vs.reverse ++ .ref q :: st) (hcat : (st.map fun v => v.category).sum ≤ 8) (hdg : decode cc pc = .ok (.invokespecial idx, 3)) (hf : cs + mc ≤ R.cells ∧ ss + ms ≤ R.slots)
    (K : ∀ α : S, ow α = q → nW p l e R s m args below meth c D A nL Q (pc + 3) lv st (cs + mc) (ss + ms) (W0 ++ blk α)) : nW p l e R s m args below meth c D A nL Q pc lv st0 cs ss (W0 ++ [(q, .inr (ci, fs0))]) := fun ls H locs hl hP hD hS => by
  obtain ⟨y1, y2, y3, y4, y5, y6, y7⟩ := hy
  subst y1
  have hq : (W0 ++ [(q, (.inr (ci, fs0) : va_E))])[W0.length]? = some (q, .inr (ci, fs0)) := by rw [List.getElem?_append_right (Nat.le_refl _)]; simp
  have hsz : ∀ z, H.size ≤ z → A z := fun z h => hC.2.2.2.2.2 z (Nat.le_trans hS.1 h)
  have hA : ∀ z, nA q H.size z → A z := fun z h => by
    rcases h with rfl | h
    · exact hD.2 _ _ hq
    · exact hsz z h
  have hPq : va_P D vwCl [(q, .inr (ci, fs0))] H := fun k z hz => by
    have h1 : k < 1 := (List.getElem?_eq_some_iff.mp hz).1
    rw [show k = 0 by omega] at hz
    cases hz
    exact hP _ _ hq
  refine va_callv (va_runI (Ts := mw_T) (As := vs) (rest := st) hC.1 (hM q H.size) ⟨⟨rfl, rfl, hR.1, hR.2, pay_in hC.1.2.2.2.2 (mw_goodIn y5), List.mem_cons_self, hC.1.2.2.2.2 _ y5, hC.1.2.2.2.2 _ y4, y6, fun sig h => ?_, hC.1.2.2.2.2 _ hlk⟩, y2, hC.1.2.2.2.2 _ y3⟩ ⟨fun a U g mk h => ?_, fun U hU hW => ⟨rfl, by rw [hU], by rw [hU]; exact hPq, nV.moved hW.alike hC.2.1⟩⟩ rfl hn hl.1 hst (lv_room hcat) hdg hf) hS (fun z _ h => hA z h) hA (fun α t H1 locs1 ht hvm hα hB hz hk hS1 => ?_)
  · rw [h] at y7
    exact (Option.some.inj y7).symm
  · obtain ⟨q0, q1, qP, qV⟩ := h
    exact ⟨q0, q1, qP, nV.moved (u := U) (U := U.calling g mk a) (Vm.Alike.refl U.vm) qV⟩
  · have hB1 : va_P D vwCl (blk α) H1 := by rw [← ht]; exact hB.1
    obtain ⟨j1, j2⟩ := n_join hP hD hsz hk hB1 hB.2
    exact K α hα ls H1 locs1 hl j1 j2 hS1
theorem n_ret {S : Type} {ow : S → Nat} (hC : nC p s m args meth c D T A cc nL own) {h0 CS SS : Nat} {blk : S → va_W} (α : S) (hα : ow α = h0) (hdg : decode cc pc = .ok (.return_, 1)) (hc : cs ≤ CS) (hs : ss ≤ SS) (cP : ∀ H, va_P D vwCl W0 H → va_P D vwCl (blk α) H) (cD : ∀ B, va_D B W0 → va_D B (blk α)) : nW p l e R s m args below meth c D A nL (MQ below (va_Qv (fun α : S => ow α = h0) (nB D A blk) A) args s CS SS A) pc lv [] cs ss W0 := fun ls H locs hl hP hD hS => by
  refine W.widen (k := CS) (n := SS) hc hs ?_
  exact W.vret hC.1.1 hC.1.2.1 hC.2.2.1 (fun t ht hW => ⟨⟨α, rfl, hα, by show va_P _ _ _ t.heap; rw [ht]; exact cP H hP, cD A hD⟩, hS.F ht⟩) hS.2.2 hdg hC.2.2.2.1
theorem n_eq {W1 : va_W} (h : W0 = W1) (K : nW p l e R s m args below meth c D A nL Q pc lv st cs ss W1) : nW p l e R s m args below meth c D A nL Q pc lv st cs ss W0 := h ▸ K
end NUR
