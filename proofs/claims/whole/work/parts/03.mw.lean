/-! one flat memory for a world whose shape stays: rows over it -/
abbrev mw_M : Type := (Nat → Nat → Int32) × (Nat → Nat → Int64)
def mw_u {β : Type} (f : Nat → Nat → β) (k j : Nat) (v : β) : Nat → Nat → β := fun a b => if a = k ∧ b = j then v else f a b
def mw_I (μ : mw_M) (k j : Nat) (v : Int32) : mw_M := (mw_u μ.1 k j v, μ.2)
def mw_L (μ : mw_M) (k j : Nat) (v : Int64) : mw_M := (μ.1, mw_u μ.2 k j v)
def mw_cpy (μ : mw_M) (a b sp dp n : Nat) : mw_M := (μ.1, fun k => if k = b then va_cpy (μ.2 a) (μ.2 b) sp dp n else μ.2 k)
abbrev mw_CD : Type := (Nat × List Nat) ⊕ (Nat × Nat × Nat × Nat)
abbrev mw_G : Type := va_G × (Nat → ClassId) × (Nat → Nat) × (Nat → Nat)
def mw_a (G : mw_G) (k : Nat) : Nat := G.2.2.1 k
def mw_t (G : mw_G) (k : Nat) : Nat := G.2.2.2 k
def mw_fv (G : mw_G) (μ : mw_M) (k j : Nat) : Nat → Value
  | 0 => .int (μ.1 k j)
  | 1 => if μ.1 k j = 0 then .null else .ref (mw_a G (μ.1 k j).toNatClampNeg)
  | n + 2 => .ref (mw_a G n)
def mw_fs (G : mw_G) (μ : mw_M) (k : Nat) (ds : List Nat) : List Value := ds.mapIdx (fun j d => mw_fv G μ k j d)
def mw_ac (G : mw_G) (μ : mw_M) (k t st sp : Nat) : (Nat → Int32) ⊕ (Nat → Int64) ⊕ (Nat → UInt32) ⊕ (Nat → UInt64) ⊕ (Nat → Option Nat) := match t with
  | 0 => .inl (μ.1 k)
  | 1 => .inr (.inl (μ.2 k))
  | _ + 2 => .inr (.inr (.inr (.inr (fun i => some (mw_a G (st + sp * i))))))
def mw_e (G : mw_G) (μ : mw_M) (k : Nat) (d : mw_CD) : va_E := match d with
  | .inl o => .inr (o.1, mw_fs G μ k o.2)
  | .inr x => .inl (G.2.1 x.1, x.2.1, mw_ac G μ k x.1 x.2.2.1 x.2.2.2)
def mw_ws (G : mw_G) (kd : List mw_CD) (μ : mw_M) : va_W := kd.mapIdx (fun k d => (mw_a G k, mw_e G μ k d))
def mw_A (G : mw_G) (kd : List mw_CD) : Nat → Prop := fun q => ∃ k, k < kd.length ∧ q = mw_a G k
def mw_tys (G : mw_G) : List (ClassId × FieldType) := [(G.2.1 0, .int), (G.2.1 1, .long), (G.2.1 2, .object "MachineWalks$Law"), (G.2.1 3, .array .int), (G.2.1 4, .array .long)]
def mw_sc : Nat → String × String × List Int32
  | 0 => ("MachineWalks$Drum", "C", [1000, 866, 500, 0, -500, -866, -1000, -866, -500, 0, 500, 866])
  | 1 => ("MachineWalks$Drum", "S", [0, 500, 866, 1000, 866, 500, 0, -500, -866, -1000, -866, -500])
  | 2 => ("MachineWalks$Acts", "ABOVE", [-1, 0, 0, 2, 0, 1, 4, 0])
  | _ => ("MachineWalks$Acts", "BODIES", [1, 10, 11, 2, 20, 0, 0, 0, 0, 30, 0, 0, 0, 41, 40, 0, 0, 0, 50, 0, 0, 0, 0, 60, 70, 0, 0, 0, 0, 80, 0, 81])
def mw_sv (i j : Nat) : Int32 := (mw_sc i).2.2.getD j 0
def mw_ST (G : mw_G) (A : Nat → Prop) (U : State) (H : Heap) : Prop := ∀ i, i < 4 → va_Z (mw_sc i).1 (mw_sc i).2.1 "[I" (.ref (mw_t G i)) A U H ∧ va_T .int (mw_t G i) (mw_sc i).2.2.length (fun j => .int (mw_sv i j)) A U H
def mw_NW (s : State) : Prop := va_Nw (.fieldLinkNest "MachineWalks$Walk" 113 "MachineWalks$Machine" "delay" "I" "MachineWalks") s ∧ va_Nw (.fieldLinkNest "MachineWalks$Walk" 116 "MachineWalks$Machine" "noise" "I" "MachineWalks") s ∧ va_Nw (.fieldLinkNest "MachineWalks$Walk" 87 "MachineWalks$Machine" "wall" "I" "MachineWalks") s
def mw_F (G : mw_G) (kd : List mw_CD) (s : State) : Prop := va_K G.1 vwCl (mw_tys G) s ∧ (∀ i j, i < kd.length → j < kd.length → mw_a G i = mw_a G j → i = j) ∧ mw_ST G (mw_A G kd) s s.heap ∧ mw_NW s
def mw_H (G : mw_G) (kd : List mw_CD) (s : State) (μ : mw_M) (H : Heap) (locs : List Loc) : Prop := va_P G.1 vwCl (mw_ws G kd μ) H ∧ va_S (mw_A G kd) s.heap H locs
theorem mw_ws_len (G : mw_G) (kd : List mw_CD) (μ : mw_M) : (mw_ws G kd μ).length = kd.length := by simp [mw_ws]
theorem mw_ws_at {G : mw_G} {kd : List mw_CD} {μ : mw_M} {k : Nat} {d : mw_CD} (h : kd[k]? = some d) : (mw_ws G kd μ)[k]? = some (mw_a G k, mw_e G μ k d) := by
  unfold mw_ws
  rw [List.getElem?_mapIdx, h]
  rfl
theorem mw_ws_D {G : mw_G} {kd : List mw_CD} {μ : mw_M} (hi : ∀ i j, i < kd.length → j < kd.length → mw_a G i = mw_a G j → i = j) : va_D (mw_A G kd) (mw_ws G kd μ) := by
  have key : ∀ (k : Nat) (q : Nat × va_E), (mw_ws G kd μ)[k]? = some q → k < kd.length ∧ q.1 = mw_a G k := by
    intro k q hk
    unfold mw_ws at hk
    rw [List.getElem?_mapIdx] at hk
    cases hd : kd[k]? with
    | none => rw [hd] at hk; cases hk
    | some d =>
      rw [hd] at hk
      cases hk
      exact ⟨(List.getElem?_eq_some_iff.mp hd).1, rfl⟩
  refine ⟨fun i j x y hx hy hxy => ?_, fun k q hk => ⟨k, (key k q hk).1, (key k q hk).2⟩⟩
  obtain ⟨a1, a2⟩ := key i x hx
  obtain ⟨b1, b2⟩ := key j y hy
  exact hi i j a1 b1 (by rw [← a2, ← b2]; exact hxy)
theorem mw_ws_set {G : mw_G} {kd : List mw_CD} {μ μ' : mw_M} {k : Nat} {d : mw_CD} {e : va_E} (h : kd[k]? = some d) (he : e = mw_e G μ' k d) (ho : ∀ (j : Nat) (d' : mw_CD), j ≠ k → mw_e G μ j d' = mw_e G μ' j d') : (mw_ws G kd μ).set k (mw_a G k, e) = mw_ws G kd μ' := by
  apply List.ext_getElem?
  intro j
  by_cases hj : j = k
  · subst hj
    have hl : j < (mw_ws G kd μ).length := by rw [mw_ws_len]; exact (List.getElem?_eq_some_iff.mp h).1
    rw [List.getElem?_set_self hl, mw_ws_at h, he]
  · rw [List.getElem?_set_ne (Ne.symm hj)]
    unfold mw_ws
    rw [List.getElem?_mapIdx, List.getElem?_mapIdx]
    cases kd[j]? with
    | none => rfl
    | some d' => simp only [Option.map_some, ho j d' hj]
theorem mw_u_ne {β : Type} {f : Nat → Nat → β} {k j a : Nat} {v : β} (h : a ≠ k) : mw_u f k j v a = f a := by
  funext b
  simp [mw_u, h]
theorem mw_u_at {β : Type} (f : Nat → Nat → β) (k j : Nat) (v : β) (b : Nat) : mw_u f k j v k b = if b = j then v else f k b := by simp [mw_u]
theorem mw_fv_ne {G : mw_G} {μ : mw_M} {k j : Nat} {v : Int32} {a : Nat} (h : a ≠ k) (i d : Nat) : mw_fv G (mw_I μ k j v) a i d = mw_fv G μ a i d := by
  have e : (mw_I μ k j v).1 a = μ.1 a := mw_u_ne h
  match d with
  | 0 => show Value.int _ = Value.int _; rw [e]
  | 1 => simp only [mw_fv, e]
  | n + 2 => rfl
theorem mw_ac_ne {G : mw_G} {μ : mw_M} {k j : Nat} {v : Int32} {a : Nat} (h : a ≠ k) (t x y : Nat) : mw_ac G (mw_I μ k j v) a t x y = mw_ac G μ a t x y := by
  have e : (mw_I μ k j v).1 a = μ.1 a := mw_u_ne h
  match t with
  | 0 => show Sum.inl _ = Sum.inl _; rw [e]
  | 1 => rfl
  | n + 2 => rfl
theorem mw_e_ne {G : mw_G} {μ : mw_M} {k j : Nat} {v : Int32} {a : Nat} (h : a ≠ k) (d : mw_CD) : mw_e G μ a d = mw_e G (mw_I μ k j v) a d := by
  cases d with
  | inl o => show Sum.inr (o.1, mw_fs G μ a o.2) = Sum.inr (o.1, mw_fs G (mw_I μ k j v) a o.2); simp only [mw_fs, mw_fv_ne h]
  | inr x => show Sum.inl (_, _, mw_ac G μ a x.1 _ _) = Sum.inl (_, _, mw_ac G (mw_I μ k j v) a x.1 _ _); rw [mw_ac_ne h]
theorem mw_e_neL {G : mw_G} {μ μ' : mw_M} {a : Nat} (h1 : μ'.1 = μ.1) (h2 : μ'.2 a = μ.2 a) (d : mw_CD) : mw_e G μ a d = mw_e G μ' a d := by
  cases d with
  | inl o =>
    show Sum.inr (o.1, mw_fs G μ a o.2) = Sum.inr (o.1, mw_fs G μ' a o.2)
    have e : ∀ j d, mw_fv G μ' a j d = mw_fv G μ a j d := fun j d => by
      match d with
      | 0 => show Value.int _ = Value.int _; rw [h1]
      | 1 => simp only [mw_fv, h1]
      | n + 2 => rfl
    simp only [mw_fs, e]
  | inr x =>
    show Sum.inl (_, _, mw_ac G μ a x.1 _ _) = Sum.inl (_, _, mw_ac G μ' a x.1 _ _)
    have e : ∀ t y z, mw_ac G μ' a t y z = mw_ac G μ a t y z := fun t y z => by
      match t with
      | 0 => show Sum.inl _ = Sum.inl _; rw [h1]
      | 1 => show Sum.inr (Sum.inl _) = Sum.inr (Sum.inl _); rw [h2]
      | n + 2 => rfl
    rw [e]
theorem mw_fs_set {G : mw_G} {μ : mw_M} {k j : Nat} {v : Int32} {ds : List Nat} {w : Value} (hd : ∃ d, ds[j]? = some d ∧ mw_fv G (mw_I μ k j v) k j d = w) : (mw_fs G μ k ds).set j w = mw_fs G (mw_I μ k j v) k ds := by
  obtain ⟨d, hd, hw⟩ := hd
  apply List.ext_getElem?
  intro i
  by_cases hi : i = j
  · subst hi
    have hl : i < (mw_fs G μ k ds).length := by simp only [mw_fs, List.length_mapIdx]; exact (List.getElem?_eq_some_iff.mp hd).1
    rw [List.getElem?_set_self hl]
    unfold mw_fs
    rw [List.getElem?_mapIdx, hd]
    exact congrArg some hw.symm
  · rw [List.getElem?_set_ne (Ne.symm hi)]
    unfold mw_fs
    rw [List.getElem?_mapIdx, List.getElem?_mapIdx]
    cases ds[i]? with
    | none => rfl
    | some d' =>
      have e : (mw_I μ k j v).1 k i = μ.1 k i := by show mw_u _ _ _ _ _ _ = _; rw [mw_u_at, if_neg hi]
      refine congrArg some ?_
      match d' with
      | 0 => show Value.int _ = Value.int _; rw [e]
      | 1 => simp only [mw_fv, e]
      | n + 2 => rfl
theorem mw_fs_at {G : mw_G} {μ : mw_M} {k j d : Nat} {ds : List Nat} (h : ds[j]? = some d) : (mw_fs G μ k ds)[j]? = some (mw_fv G μ k j d) := by
  unfold mw_fs
  rw [List.getElem?_mapIdx, h]
  rfl
/-- the tables' words that may be handed on -/
def mw_T : List Cond := lw_tbl.filter goodWord
theorem mw_good : ∀ w ∈ mw_T, (w.onTables && w.keeps) = true ∨ ∃ ty, w = .arrayClass ty := fun w hw => good_of_word (List.mem_filter.mp hw).2
theorem mw_in {w : Cond} (i : Nat) (h : lw_tbl[i]? = some w) (hg : goodWord w = true) : w ∈ mw_T := List.mem_filter.mpr ⟨List.mem_of_getElem? h, hg⟩
theorem mw_goodIn {y : MethodName} {bytes : ByteArray} {maxL : Nat} {ret : Option FieldType} (h : Cond.code y bytes maxL ret ∈ mw_T) : GoodIn mw_T (Cond.code y bytes maxL ret :: mw_T) := by
  intro w hw
  rcases List.mem_cons.mp hw with rfl | hw
  · exact ⟨h, mw_good _ h⟩
  · exact ⟨hw, mw_good _ hw⟩
def mw_rm (fr lo : Nat) : Room := { frames := fr, cells := 0, slots := 0, locals := lo }
def mw_Pre (G : mw_G) (kd : List mw_CD) (μ : mw_M) (U : State) : Prop := va_P G.1 vwCl (mw_ws G kd μ) U.heap ∧ mw_F G kd U
def mw_B (G : mw_G) (kd : List mw_CD) (u : mw_M) (t : State) : Prop := va_P G.1 vwCl (mw_ws G kd u) t.heap
def mw_Mi (l : Launch) (G : mw_G) (kd : List mw_CD) (y : MethodName) (bytes : ByteArray) (maxL : Nat) (ret : Option FieldType) (fr lo : Nat) (vs : List Value) (μ : mw_M) (Q : Int32 → mw_M → Prop) : Prop :=
  Met l y (.code y bytes maxL ret :: mw_T) (mw_rm fr lo) (va_Pc vs (mw_Pre G kd μ)) (va_Qi Q (mw_B G kd) (mw_A G kd)) 0 0 (mw_A G kd)
def mw_Ml (l : Launch) (G : mw_G) (kd : List mw_CD) (y : MethodName) (bytes : ByteArray) (maxL : Nat) (ret : Option FieldType) (fr lo : Nat) (vs : List Value) (μ : mw_M) (Q : Int64 → mw_M → Prop) : Prop :=
  Met l y (.code y bytes maxL ret :: mw_T) (mw_rm fr lo) (va_Pc vs (mw_Pre G kd μ)) (va_Ql Q (mw_B G kd) (mw_A G kd)) 0 0 (mw_A G kd)
def mw_Mv (l : Launch) (G : mw_G) (kd : List mw_CD) (y : MethodName) (bytes : ByteArray) (maxL : Nat) (ret : Option FieldType) (fr lo : Nat) (vs : List Value) (μ : mw_M) (Q : mw_M → Prop) : Prop :=
  Met l y (.code y bytes maxL ret :: mw_T) (mw_rm fr lo) (va_Pc vs (mw_Pre G kd μ)) (va_Qv Q (mw_B G kd) (mw_A G kd)) 0 0 (mw_A G kd)
/-- of a boolean method: what holds where it answers 1, where 0 -/
def mw_bq (QT QF : mw_M → Prop) : Int32 → mw_M → Prop := fun r u => (r = 1 ∧ QT u) ∨ (r = 0 ∧ QF u)
/-- of a method that writes nothing -/
def mw_pq {β : Type} (μ : mw_M) (Q : β → Prop) : β → mw_M → Prop := fun r u => Q r ∧ u = μ
def mw_pv (μ : mw_M) (Q : Prop) : mw_M → Prop := fun u => Q ∧ u = μ
theorem mw_blind {vs : List Value} {G : mw_G} {kd : List mw_CD} {μ : mw_M} : FrameBlind (va_Pc vs (mw_Pre G kd μ)) := by
  intro a U g mk h
  obtain ⟨h1, h2, h3, h4, h5, h6⟩ := h
  exact ⟨h1, h2, va_K.moved (u := U) (U := U.calling g mk a) (Vm.Alike.refl U.vm) h3, h4, fun i hi => ⟨va_Z.moved (u := U) (U := U.calling g mk a) (Vm.Alike.refl U.vm) (h5 i hi).1, va_T.moved (u := U) (U := U.calling g mk a) (Vm.Alike.refl U.vm) (h5 i hi).2⟩, va_Nw.same (u := U) (U := U.calling g mk a) rfl rfl h6.1, va_Nw.same (u := U) (U := U.calling g mk a) rfl rfl h6.2.1, va_Nw.same (u := U) (U := U.calling g mk a) rfl rfl h6.2.2⟩
theorem mw_pre_of {G : mw_G} {kd : List mw_CD} {s : State} {μ : mw_M} {H : Heap} {locs : List Loc} (hF : mw_F G kd s) (hH : mw_H G kd s μ H locs) {U : State} (hU : U.heap = H) (hW : s.WarmedH U.vm) : mw_Pre G kd μ U := by
  subst hU
  obtain ⟨hK, hi, hs, hn⟩ := hF
  refine ⟨hH.1, va_K.moved hW.alike hK, hi, fun i h => ⟨?_, ?_⟩, hn.1.warmF hW, hn.2.1.warmF hW, hn.2.2.warmF hW⟩
  · exact va_Z.moved hW.alike ((hs i h).1.kept (fun a h1 h2 => hH.2.2.1 a h1 h2))
  · exact va_T.moved hW.alike ((hs i h).2.kept (fun a h1 h2 => hH.2.2.1 a h1 h2))
theorem mw_S_old {G : mw_G} {kd : List mw_CD} {s : State} {μ : mw_M} {H : Heap} {locs : List Loc} (hH : mw_H G kd s μ H locs) {q : Nat} (h : mw_A G kd q) : q < H.size := by
  obtain ⟨k, hk, rfl⟩ := h
  have e : kd[k]? = some kd[k] := List.getElem?_eq_getElem hk
  exact (hH.1 k _ (mw_ws_at e)).lt

def mw_W (p : Program) (l : Launch) (e : Env) (R : Room) (s : State) (m : MethodId) (args : Array Value) (below : List Frame) (meth : Method) (c : Code) (G : mw_G) (kd : List mw_CD) (nL : Nat) (Q : State → Prop) (pc : Nat) (lv : List (Nat × Value)) (st : List Value) (μ : mw_M) : Prop :=
  ∀ (ls : Array Slot) (H : Heap) (locs : List Loc), lv_has ls nL lv → mw_H G kd s μ H locs → W p l e R s m args below meth c H locs 0 0 Q (F0 m pc ls st)
/-- what a method's body stands in -/
def mw_C (p : Program) (R : Room) (s : State) (m : MethodId) (args : Array Value) (meth : Method) (c : Code) (G : mw_G) (kd : List mw_CD) (cc : ByteArray) (nL : Nat) (own : String) (ret : Option FieldType) : Prop :=
  CallFix p m c cc nL s args mw_T own ∧ mw_F G kd s ∧ meth.sig.returnType = ret ∧ meth.locks = false
theorem mw_enter {l : Launch} {G : mw_G} {kd : List mw_CD} {y : MethodName} {bytes : ByteArray} {maxL : Nat} {ret : Option FieldType} {fr lo : Nat} {vs : List Value} {μ : mw_M} {Qc : Array Value → State → Outcome → State → Prop} (lv0 : List (Nat × Value)) (own : String) (hy : plainName y.cls = true) (hC : y.cls = own) (hlen : (lg_sl vs).length ≤ maxL) (hlv : lv_args 0 vs = lv0)
    (body : ∀ (p : Program) (e : Env) (s : State) (m : MethodId) (args : Array Value) (below : List Frame) (meth : Method) (c : Code), mw_C p (mw_rm fr lo) s m args meth c G kd bytes maxL own ret → mw_W p l e (mw_rm fr lo) s m args below meth c G kd maxL (MQ below Qc args s 0 0 (mw_A G kd)) 0 lv0 [] μ) :
    Met l y (.code y bytes maxL ret :: mw_T) (mw_rm fr lo) (va_Pc vs (mw_Pre G kd μ)) Qc 0 0 (mw_A G kd) := by
  refine Met.ofW (cc := bytes) (maxL := maxL) (ret := ret) hy rfl ?_
  intro p e s m args below meth c s₁ B hml hv
  obtain ⟨rfl, hP, hF⟩ := hv
  have hts := atoms_spec (ws := .code y bytes maxL ret :: mw_T) B.pre
  have hown : s.vm.findClass own = some m.cls := by rw [← hC]; exact findClass_of_methodNamed B.named
  have hl := lv_entry vs (n := maxL) hlen
  rw [hlv] at hl
  rw [lg_entry_eq]
  exact body p e s m _ below meth c ⟨⟨B.exec, B.bytes, hml, hown, fun w hw => hts w (List.mem_cons_of_mem _ hw)⟩, hF, B.returns, B.notSynchronized⟩ _ _ _ hl ⟨hP, va_S.rf⟩
def mw_rem (x y : Int32) : Int32 := x - x / y * y
def mw_ushr (x y : Int32) : Int32 := (x.toUInt32 >>> (y.toUInt32 &&& Int32.toUInt32 31)).toInt32
def mw_lshl (x : Int64) (y : Int32) : Int64 := x <<< (y.toInt64 &&& 63)
def mw_i2c (x : Int32) : Int32 := (x.toUInt32 % 65536).toInt32
def mw_max (x y : Int32) : Int32 := if x < y then y else x
def mw_min (x y : Int32) : Int32 := if y < x then y else x
def mw_abs (x : Int32) : Int32 := if 0 ≤ x then x else 0 - x
def mw_maxL (x y : Int64) : Int64 := if y < x then x else y
def mw_minL (x y : Int64) : Int64 := if y < x then y else x
def mw_absL (x : Int64) : Int64 := if 0 < x then x else -x
section MWR
variable {p : Program} {l : Launch} {e : Env} {R : Room} {s : State} {m : MethodId} {args : Array Value} {below : List Frame} {meth : Method} {c : Code} {G : mw_G} {kd : List mw_CD} {cc : ByteArray} {nL : Nat} {own : String} {ret : Option FieldType} {Q : State → Prop} {pc : Nat} {lv : List (Nat × Value)} {st : List Value} {μ : mw_M}
theorem r_iconst (hC : mw_C p R s m args meth c G kd cc nL own ret) {n : Int} (v : Int32) (hdg : decode cc pc = .ok (.iconst n, 1)) (hv : Int32.ofInt n = v) (K : mw_W p l e R s m args below meth c G kd nL Q (pc + 1) lv (.int v :: st) μ) : mw_W p l e R s m args below meth c G kd nL Q pc lv st μ := fun ls H locs hl hH => lv_iconst hC.1.1 hC.1.2.1 hdg hv (K ls H locs hl hH)
theorem r_bipush (hC : mw_C p R s m args meth c G kd cc nL own ret) {n : Int} (v : Int32) (hdg : decode cc pc = .ok (.bipush n, 2)) (hv : (Int8.ofInt n).toInt32 = v) (K : mw_W p l e R s m args below meth c G kd nL Q (pc + 2) lv (.int v :: st) μ) : mw_W p l e R s m args below meth c G kd nL Q pc lv st μ := fun ls H locs hl hH => lv_bipush hC.1.1 hC.1.2.1 hdg hv (K ls H locs hl hH)
theorem r_sipush (hC : mw_C p R s m args meth c G kd cc nL own ret) {n : Int} (v : Int32) (hdg : decode cc pc = .ok (.sipush n, 3)) (hv : (Int16.ofInt n).toInt32 = v) (K : mw_W p l e R s m args below meth c G kd nL Q (pc + 3) lv (.int v :: st) μ) : mw_W p l e R s m args below meth c G kd nL Q pc lv st μ := fun ls H locs hl hH => lv_sipush hC.1.1 hC.1.2.1 hdg hv (K ls H locs hl hH)
theorem r_lconst (hC : mw_C p R s m args meth c G kd cc nL own ret) {n : Fin 2} (v : Int64) (hdg : decode cc pc = .ok (.lconst n, 1)) (hv : Int64.ofNat (n : Nat) = v) (K : mw_W p l e R s m args below meth c G kd nL Q (pc + 1) lv (.long v :: st) μ) : mw_W p l e R s m args below meth c G kd nL Q pc lv st μ := fun ls H locs hl hH => lv_lconst hC.1.1 hC.1.2.1 hdg hv (K ls H locs hl hH)
theorem r_ldc (hC : mw_C p R s m args meth c G kd cc nL own ret) {i : Nat} {v : Int32} (hw : Jvm.Cond.constant own i v ∈ mw_T) (hdg : decode cc pc = .ok (.ldc i, 2)) (K : mw_W p l e R s m args below meth c G kd nL Q (pc + 2) lv (.int v :: st) μ) : mw_W p l e R s m args below meth c G kd nL Q pc lv st μ := fun ls H locs hl hH => lv_ldc hC.1.1 hC.1.2.1 hC.1.2.2.2.1 (hC.1.2.2.2.2 _ hw) hdg (K ls H locs hl hH)
theorem r_ldc2 (hC : mw_C p R s m args meth c G kd cc nL own ret) {i : Nat} {v : Int64} (hw : Jvm.Cond.constantLong own i v ∈ mw_T) (hdg : decode cc pc = .ok (.ldc2_w i, 3)) (K : mw_W p l e R s m args below meth c G kd nL Q (pc + 3) lv (.long v :: st) μ) : mw_W p l e R s m args below meth c G kd nL Q pc lv st μ := fun ls H locs hl hH => lv_ldc2 hC.1.1 hC.1.2.1 hC.1.2.2.2.1 (hC.1.2.2.2.2 _ hw) hdg (K ls H locs hl hH)
theorem r_iload_n (hC : mw_C p R s m args meth c G kd cc nL own ret) {k : Fin 4} {i : Nat} {x : Int32} (t : Nat) (hdg : decode cc pc = .ok (.iload_n k, 1)) (hi : (k : Nat) = i) (ht : lv[t]? = some (i, .int x)) (K : mw_W p l e R s m args below meth c G kd nL Q (pc + 1) lv (.int x :: st) μ) : mw_W p l e R s m args below meth c G kd nL Q (pc) lv st μ := fun ls H locs hl hH => lv_iload_n hC.1.1 hC.1.2.1 hdg hi (lv_at hl t ht) (K ls H locs hl hH)
theorem r_iload (hC : mw_C p R s m args meth c G kd cc nL own ret) {i : Nat} {x : Int32} (t : Nat) (hdg : decode cc pc = .ok (.iload i, 2)) (ht : lv[t]? = some (i, .int x)) (K : mw_W p l e R s m args below meth c G kd nL Q (pc + 2) lv (.int x :: st) μ) : mw_W p l e R s m args below meth c G kd nL Q (pc) lv st μ := fun ls H locs hl hH => lv_iload hC.1.1 hC.1.2.1 hdg (lv_at hl t ht) (K ls H locs hl hH)
theorem r_lload_n (hC : mw_C p R s m args meth c G kd cc nL own ret) {k : Fin 4} {i : Nat} {x : Int64} (t : Nat) (hdg : decode cc pc = .ok (.lload_n k, 1)) (hi : (k : Nat) = i) (ht : lv[t]? = some (i, .long x)) (K : mw_W p l e R s m args below meth c G kd nL Q (pc + 1) lv (.long x :: st) μ) : mw_W p l e R s m args below meth c G kd nL Q (pc) lv st μ := fun ls H locs hl hH => lv_lload_n hC.1.1 hC.1.2.1 hdg hi (lv_at hl t ht) (K ls H locs hl hH)
theorem r_lload (hC : mw_C p R s m args meth c G kd cc nL own ret) {i : Nat} {x : Int64} (t : Nat) (hdg : decode cc pc = .ok (.lload i, 2)) (ht : lv[t]? = some (i, .long x)) (K : mw_W p l e R s m args below meth c G kd nL Q (pc + 2) lv (.long x :: st) μ) : mw_W p l e R s m args below meth c G kd nL Q (pc) lv st μ := fun ls H locs hl hH => lv_lload hC.1.1 hC.1.2.1 hdg (lv_at hl t ht) (K ls H locs hl hH)
theorem r_aload_n (hC : mw_C p R s m args meth c G kd cc nL own ret) {k : Fin 4} {i : Nat} {x : Nat} (t : Nat) (hdg : decode cc pc = .ok (.aload_n k, 1)) (hi : (k : Nat) = i) (ht : lv[t]? = some (i, .ref x)) (K : mw_W p l e R s m args below meth c G kd nL Q (pc + 1) lv (.ref x :: st) μ) : mw_W p l e R s m args below meth c G kd nL Q (pc) lv st μ := fun ls H locs hl hH => lv_aload_n hC.1.1 hC.1.2.1 hdg hi (lv_at hl t ht) (K ls H locs hl hH)
theorem r_aload (hC : mw_C p R s m args meth c G kd cc nL own ret) {i : Nat} {x : Nat} (t : Nat) (hdg : decode cc pc = .ok (.aload i, 2)) (ht : lv[t]? = some (i, .ref x)) (K : mw_W p l e R s m args below meth c G kd nL Q (pc + 2) lv (.ref x :: st) μ) : mw_W p l e R s m args below meth c G kd nL Q (pc) lv st μ := fun ls H locs hl hH => lv_aload hC.1.1 hC.1.2.1 hdg (lv_at hl t ht) (K ls H locs hl hH)
theorem r_istore_n (hC : mw_C p R s m args meth c G kd cc nL own ret) {k : Fin 4} {i : Nat} {x : Int32} (lv' : List (Nat × Value)) (hdg : decode cc pc = .ok (.istore_n k, 1)) (hi : (k : Nat) = i) (hn : i < nL) (he : (i, Value.int x) :: lv.filter (fun q => !(q.1 == i) && !(q.1 + 1 == i && q.2.category == 2)) = lv') (K : mw_W p l e R s m args below meth c G kd nL Q (pc + 1) lv' st μ) : mw_W p l e R s m args below meth c G kd nL Q (pc) lv (.int x :: st) μ := fun ls H locs hl hH => lv_istore_n hC.1.1 hC.1.2.1 hdg hi hl hn he (fun ls h => K ls H locs h hH)
theorem r_istore (hC : mw_C p R s m args meth c G kd cc nL own ret) {i : Nat} {x : Int32} (lv' : List (Nat × Value)) (hdg : decode cc pc = .ok (.istore i, 2)) (hn : i < nL) (he : (i, Value.int x) :: lv.filter (fun q => !(q.1 == i) && !(q.1 + 1 == i && q.2.category == 2)) = lv') (K : mw_W p l e R s m args below meth c G kd nL Q (pc + 2) lv' st μ) : mw_W p l e R s m args below meth c G kd nL Q (pc) lv (.int x :: st) μ := fun ls H locs hl hH => lv_istore hC.1.1 hC.1.2.1 hdg hl hn he (fun ls h => K ls H locs h hH)
theorem r_lstore_n (hC : mw_C p R s m args meth c G kd cc nL own ret) {k : Fin 4} {i : Nat} {x : Int64} (lv' : List (Nat × Value)) (hdg : decode cc pc = .ok (.lstore_n k, 1)) (hi : (k : Nat) = i) (hn : i + 1 < nL) (he : (i, Value.long x) :: lv.filter (fun q => !(q.1 == i) && (!(q.1 == i + 1) && !(q.1 + 1 == i && q.2.category == 2))) = lv') (K : mw_W p l e R s m args below meth c G kd nL Q (pc + 1) lv' st μ) : mw_W p l e R s m args below meth c G kd nL Q (pc) lv (.long x :: st) μ := fun ls H locs hl hH => lv_lstore_n hC.1.1 hC.1.2.1 hdg hi hl hn he (fun ls h => K ls H locs h hH)
theorem r_lstore (hC : mw_C p R s m args meth c G kd cc nL own ret) {i : Nat} {x : Int64} (lv' : List (Nat × Value)) (hdg : decode cc pc = .ok (.lstore i, 2)) (hn : i + 1 < nL) (he : (i, Value.long x) :: lv.filter (fun q => !(q.1 == i) && (!(q.1 == i + 1) && !(q.1 + 1 == i && q.2.category == 2))) = lv') (K : mw_W p l e R s m args below meth c G kd nL Q (pc + 2) lv' st μ) : mw_W p l e R s m args below meth c G kd nL Q (pc) lv (.long x :: st) μ := fun ls H locs hl hH => lv_lstore hC.1.1 hC.1.2.1 hdg hl hn he (fun ls h => K ls H locs h hH)
theorem r_astore_n (hC : mw_C p R s m args meth c G kd cc nL own ret) {k : Fin 4} {i : Nat} {x : Nat} (lv' : List (Nat × Value)) (hdg : decode cc pc = .ok (.astore_n k, 1)) (hi : (k : Nat) = i) (hn : i < nL) (he : (i, Value.ref x) :: lv.filter (fun q => !(q.1 == i) && !(q.1 + 1 == i && q.2.category == 2)) = lv') (K : mw_W p l e R s m args below meth c G kd nL Q (pc + 1) lv' st μ) : mw_W p l e R s m args below meth c G kd nL Q (pc) lv (.ref x :: st) μ := fun ls H locs hl hH => lv_astore_n hC.1.1 hC.1.2.1 hdg hi hl hn he (fun ls h => K ls H locs h hH)
theorem r_astore (hC : mw_C p R s m args meth c G kd cc nL own ret) {i : Nat} {x : Nat} (lv' : List (Nat × Value)) (hdg : decode cc pc = .ok (.astore i, 2)) (hn : i < nL) (he : (i, Value.ref x) :: lv.filter (fun q => !(q.1 == i) && !(q.1 + 1 == i && q.2.category == 2)) = lv') (K : mw_W p l e R s m args below meth c G kd nL Q (pc + 2) lv' st μ) : mw_W p l e R s m args below meth c G kd nL Q (pc) lv (.ref x :: st) μ := fun ls H locs hl hH => lv_astore hC.1.1 hC.1.2.1 hdg hl hn he (fun ls h => K ls H locs h hH)
theorem r_iinc (hC : mw_C p R s m args meth c G kd cc nL own ret) {i : Nat} {n : Int} {x : Int32} (v : Int32) (t : Nat) (lv' : List (Nat × Value)) (hdg : decode cc pc = .ok (.iinc i n, 3)) (hk : lv[t]? = some (i, .int x)) (hv : x + Int32.ofInt n = v) (hn : i < nL) (he : (i, Value.int v) :: lv.filter (fun q => !(q.1 == i) && !(q.1 + 1 == i && q.2.category == 2)) = lv') (K : mw_W p l e R s m args below meth c G kd nL Q (pc + 3) lv' st μ) : mw_W p l e R s m args below meth c G kd nL Q (pc) lv st μ := fun ls H locs hl hH => lv_iinc hC.1.1 hC.1.2.1 hdg hl hk hv hn he (fun ls h => K ls H locs h hH)
theorem r_iadd (hC : mw_C p R s m args meth c G kd cc nL own ret) {x y : Int32} (hdg : decode cc pc = .ok (.iadd, 1)) (K : mw_W p l e R s m args below meth c G kd nL Q (pc + 1) lv (.int (x + y) :: st) μ) : mw_W p l e R s m args below meth c G kd nL Q (pc) lv (.int y :: .int x :: st) μ := fun ls H locs hl hH => lv_iadd hC.1.1 hC.1.2.1 hdg (K ls H locs hl hH)
theorem r_isub (hC : mw_C p R s m args meth c G kd cc nL own ret) {x y : Int32} (hdg : decode cc pc = .ok (.isub, 1)) (K : mw_W p l e R s m args below meth c G kd nL Q (pc + 1) lv (.int (x - y) :: st) μ) : mw_W p l e R s m args below meth c G kd nL Q (pc) lv (.int y :: .int x :: st) μ := fun ls H locs hl hH => lv_isub hC.1.1 hC.1.2.1 hdg (K ls H locs hl hH)
theorem r_imul (hC : mw_C p R s m args meth c G kd cc nL own ret) {x y : Int32} (hdg : decode cc pc = .ok (.imul, 1)) (K : mw_W p l e R s m args below meth c G kd nL Q (pc + 1) lv (.int (x * y) :: st) μ) : mw_W p l e R s m args below meth c G kd nL Q (pc) lv (.int y :: .int x :: st) μ := fun ls H locs hl hH => lv_imul hC.1.1 hC.1.2.1 hdg (K ls H locs hl hH)
theorem r_iand (hC : mw_C p R s m args meth c G kd cc nL own ret) {x y : Int32} (hdg : decode cc pc = .ok (.iand, 1)) (K : mw_W p l e R s m args below meth c G kd nL Q (pc + 1) lv (.int (x &&& y) :: st) μ) : mw_W p l e R s m args below meth c G kd nL Q (pc) lv (.int y :: .int x :: st) μ := fun ls H locs hl hH => lv_iand hC.1.1 hC.1.2.1 hdg (K ls H locs hl hH)
theorem r_ior (hC : mw_C p R s m args meth c G kd cc nL own ret) {x y : Int32} (hdg : decode cc pc = .ok (.ior, 1)) (K : mw_W p l e R s m args below meth c G kd nL Q (pc + 1) lv (.int (x ||| y) :: st) μ) : mw_W p l e R s m args below meth c G kd nL Q (pc) lv (.int y :: .int x :: st) μ := fun ls H locs hl hH => lv_ior hC.1.1 hC.1.2.1 hdg (K ls H locs hl hH)
theorem r_ixor (hC : mw_C p R s m args meth c G kd cc nL own ret) {x y : Int32} (hdg : decode cc pc = .ok (.ixor, 1)) (K : mw_W p l e R s m args below meth c G kd nL Q (pc + 1) lv (.int (x ^^^ y) :: st) μ) : mw_W p l e R s m args below meth c G kd nL Q (pc) lv (.int y :: .int x :: st) μ := fun ls H locs hl hH => lv_ixor hC.1.1 hC.1.2.1 hdg (K ls H locs hl hH)
theorem r_ishl (hC : mw_C p R s m args meth c G kd cc nL own ret) {x y : Int32} (hdg : decode cc pc = .ok (.ishl, 1)) (K : mw_W p l e R s m args below meth c G kd nL Q (pc + 1) lv (.int (x <<< (y &&& 31)) :: st) μ) : mw_W p l e R s m args below meth c G kd nL Q (pc) lv (.int y :: .int x :: st) μ := fun ls H locs hl hH => lv_ishl hC.1.1 hC.1.2.1 hdg (K ls H locs hl hH)
theorem r_ishr (hC : mw_C p R s m args meth c G kd cc nL own ret) {x y : Int32} (hdg : decode cc pc = .ok (.ishr, 1)) (K : mw_W p l e R s m args below meth c G kd nL Q (pc + 1) lv (.int (x >>> (y &&& 31)) :: st) μ) : mw_W p l e R s m args below meth c G kd nL Q (pc) lv (.int y :: .int x :: st) μ := fun ls H locs hl hH => lv_ishr hC.1.1 hC.1.2.1 hdg (K ls H locs hl hH)
theorem r_idiv (hC : mw_C p R s m args meth c G kd cc nL own ret) {x y : Int32} (hdg : decode cc pc = .ok (.idiv, 1)) (hne : ¬ y = 0) (K : mw_W p l e R s m args below meth c G kd nL Q (pc + 1) lv (.int (x / y) :: st) μ) : mw_W p l e R s m args below meth c G kd nL Q (pc) lv (.int y :: .int x :: st) μ := fun ls H locs hl hH => lv_idiv hC.1.1 hC.1.2.1 hdg hne (K ls H locs hl hH)
theorem r_irem (hC : mw_C p R s m args meth c G kd cc nL own ret) {x y : Int32} (hdg : decode cc pc = .ok (.irem, 1)) (hne : ¬ y = 0) (K : mw_W p l e R s m args below meth c G kd nL Q (pc + 1) lv (.int (mw_rem x y) :: st) μ) : mw_W p l e R s m args below meth c G kd nL Q (pc) lv (.int y :: .int x :: st) μ := fun ls H locs hl hH => lv_irem hC.1.1 hC.1.2.1 hdg hne (K ls H locs hl hH)
theorem r_ineg (hC : mw_C p R s m args meth c G kd cc nL own ret) {x : Int32} (hdg : decode cc pc = .ok (.ineg, 1)) (K : mw_W p l e R s m args below meth c G kd nL Q (pc + 1) lv (.int (-x) :: st) μ) : mw_W p l e R s m args below meth c G kd nL Q (pc) lv (.int x :: st) μ := fun ls H locs hl hH => lv_ineg hC.1.1 hC.1.2.1 hdg (K ls H locs hl hH)
theorem r_iushr (hC : mw_C p R s m args meth c G kd cc nL own ret) {x y : Int32} (hdg : decode cc pc = .ok (.iushr, 1)) (K : mw_W p l e R s m args below meth c G kd nL Q (pc + 1) lv (.int (mw_ushr x y) :: st) μ) : mw_W p l e R s m args below meth c G kd nL Q (pc) lv (.int y :: .int x :: st) μ := fun ls H locs hl hH => lv_iushr hC.1.1 hC.1.2.1 hdg rfl (K ls H locs hl hH)
theorem r_ladd (hC : mw_C p R s m args meth c G kd cc nL own ret) {x y : Int64} (hdg : decode cc pc = .ok (.ladd, 1)) (K : mw_W p l e R s m args below meth c G kd nL Q (pc + 1) lv (.long (x + y) :: st) μ) : mw_W p l e R s m args below meth c G kd nL Q (pc) lv (.long y :: .long x :: st) μ := fun ls H locs hl hH => lv_ladd hC.1.1 hC.1.2.1 hdg (K ls H locs hl hH)
theorem r_lsub (hC : mw_C p R s m args meth c G kd cc nL own ret) {x y : Int64} (hdg : decode cc pc = .ok (.lsub, 1)) (K : mw_W p l e R s m args below meth c G kd nL Q (pc + 1) lv (.long (x - y) :: st) μ) : mw_W p l e R s m args below meth c G kd nL Q (pc) lv (.long y :: .long x :: st) μ := fun ls H locs hl hH => lv_lsub hC.1.1 hC.1.2.1 hdg (K ls H locs hl hH)
theorem r_lmul (hC : mw_C p R s m args meth c G kd cc nL own ret) {x y : Int64} (hdg : decode cc pc = .ok (.lmul, 1)) (K : mw_W p l e R s m args below meth c G kd nL Q (pc + 1) lv (.long (x * y) :: st) μ) : mw_W p l e R s m args below meth c G kd nL Q (pc) lv (.long y :: .long x :: st) μ := fun ls H locs hl hH => lv_lmul hC.1.1 hC.1.2.1 hdg (K ls H locs hl hH)
theorem r_land (hC : mw_C p R s m args meth c G kd cc nL own ret) {x y : Int64} (hdg : decode cc pc = .ok (.land, 1)) (K : mw_W p l e R s m args below meth c G kd nL Q (pc + 1) lv (.long (x &&& y) :: st) μ) : mw_W p l e R s m args below meth c G kd nL Q (pc) lv (.long y :: .long x :: st) μ := fun ls H locs hl hH => lv_land hC.1.1 hC.1.2.1 hdg (K ls H locs hl hH)
theorem r_lor (hC : mw_C p R s m args meth c G kd cc nL own ret) {x y : Int64} (hdg : decode cc pc = .ok (.lor, 1)) (K : mw_W p l e R s m args below meth c G kd nL Q (pc + 1) lv (.long (x ||| y) :: st) μ) : mw_W p l e R s m args below meth c G kd nL Q (pc) lv (.long y :: .long x :: st) μ := fun ls H locs hl hH => lv_lor hC.1.1 hC.1.2.1 hdg (K ls H locs hl hH)
theorem r_ldiv (hC : mw_C p R s m args meth c G kd cc nL own ret) {x y : Int64} (hdg : decode cc pc = .ok (.ldiv, 1)) (hne : ¬ y = 0) (K : mw_W p l e R s m args below meth c G kd nL Q (pc + 1) lv (.long (x / y) :: st) μ) : mw_W p l e R s m args below meth c G kd nL Q (pc) lv (.long y :: .long x :: st) μ := fun ls H locs hl hH => lv_ldiv hC.1.1 hC.1.2.1 hdg hne (K ls H locs hl hH)
theorem r_lshl (hC : mw_C p R s m args meth c G kd cc nL own ret) {x : Int64} {y : Int32} (hdg : decode cc pc = .ok (.lshl, 1)) (K : mw_W p l e R s m args below meth c G kd nL Q (pc + 1) lv (.long (mw_lshl x y) :: st) μ) : mw_W p l e R s m args below meth c G kd nL Q (pc) lv (.int y :: .long x :: st) μ := fun ls H locs hl hH => lv_lshl hC.1.1 hC.1.2.1 hdg rfl (K ls H locs hl hH)
theorem r_lcmp (hC : mw_C p R s m args meth c G kd cc nL own ret) {x y : Int64} (hdg : decode cc pc = .ok (.lcmp, 1)) (K : mw_W p l e R s m args below meth c G kd nL Q (pc + 1) lv (.int (lg_cmp x y) :: st) μ) : mw_W p l e R s m args below meth c G kd nL Q (pc) lv (.long y :: .long x :: st) μ := fun ls H locs hl hH => W.lcmp hC.1.1 hC.1.2.1 hdg (K ls H locs hl hH)
theorem r_i2l (hC : mw_C p R s m args meth c G kd cc nL own ret) {x : Int32} (hdg : decode cc pc = .ok (.i2l, 1)) (K : mw_W p l e R s m args below meth c G kd nL Q (pc + 1) lv (.long (x.toInt64) :: st) μ) : mw_W p l e R s m args below meth c G kd nL Q (pc) lv (.int x :: st) μ := fun ls H locs hl hH => lv_i2l hC.1.1 hC.1.2.1 hdg rfl (K ls H locs hl hH)
theorem r_l2i (hC : mw_C p R s m args meth c G kd cc nL own ret) {x : Int64} (hdg : decode cc pc = .ok (.l2i, 1)) (K : mw_W p l e R s m args below meth c G kd nL Q (pc + 1) lv (.int (x.toInt32) :: st) μ) : mw_W p l e R s m args below meth c G kd nL Q (pc) lv (.long x :: st) μ := fun ls H locs hl hH => lv_l2i hC.1.1 hC.1.2.1 hdg rfl (K ls H locs hl hH)
theorem r_i2b (hC : mw_C p R s m args meth c G kd cc nL own ret) {x : Int32} (hdg : decode cc pc = .ok (.i2b, 1)) (K : mw_W p l e R s m args below meth c G kd nL Q (pc + 1) lv (.int (x.toInt8.toInt32) :: st) μ) : mw_W p l e R s m args below meth c G kd nL Q (pc) lv (.int x :: st) μ := fun ls H locs hl hH => lv_i2b hC.1.1 hC.1.2.1 hdg rfl (K ls H locs hl hH)
theorem r_i2s (hC : mw_C p R s m args meth c G kd cc nL own ret) {x : Int32} (hdg : decode cc pc = .ok (.i2s, 1)) (K : mw_W p l e R s m args below meth c G kd nL Q (pc + 1) lv (.int (x.toInt16.toInt32) :: st) μ) : mw_W p l e R s m args below meth c G kd nL Q (pc) lv (.int x :: st) μ := fun ls H locs hl hH => lv_i2s hC.1.1 hC.1.2.1 hdg rfl (K ls H locs hl hH)
theorem r_i2c (hC : mw_C p R s m args meth c G kd cc nL own ret) {x : Int32} (hdg : decode cc pc = .ok (.i2c, 1)) (K : mw_W p l e R s m args below meth c G kd nL Q (pc + 1) lv (.int (mw_i2c x) :: st) μ) : mw_W p l e R s m args below meth c G kd nL Q (pc) lv (.int x :: st) μ := fun ls H locs hl hH => lv_i2c hC.1.1 hC.1.2.1 hdg rfl (K ls H locs hl hH)
theorem r_dup (hC : mw_C p R s m args meth c G kd cc nL own ret) {v : Value} (hdg : decode cc pc = .ok (.dup, 1)) (hv : v.category = 1) (K : mw_W p l e R s m args below meth c G kd nL Q (pc + 1) lv (v :: v :: st) μ) : mw_W p l e R s m args below meth c G kd nL Q (pc) lv (v :: st) μ := fun ls H locs hl hH => lv_dup hC.1.1 hC.1.2.1 hdg hv (K ls H locs hl hH)
theorem r_pop (hC : mw_C p R s m args meth c G kd cc nL own ret) {v : Value} (hdg : decode cc pc = .ok (.pop, 1)) (hv : v.category = 1) (K : mw_W p l e R s m args below meth c G kd nL Q (pc + 1) lv st μ) : mw_W p l e R s m args below meth c G kd nL Q (pc) lv (v :: st) μ := fun ls H locs hl hH => lv_pop hC.1.1 hC.1.2.1 hdg hv (K ls H locs hl hH)
theorem r_icmp_eq (hC : mw_C p R s m args meth c G kd cc nL own ret) {x y : Int32} {off : Int} (tgt : Nat) (hdg : decode cc pc = .ok (.if_icmp .eq off, 3)) (ht : (pc : Int) + off = (tgt : Int)) (kt : x = y → mw_W p l e R s m args below meth c G kd nL Q (tgt) lv st μ) (kf : ¬ x = y → mw_W p l e R s m args below meth c G kd nL Q (pc + 3) lv st μ) : mw_W p l e R s m args below meth c G kd nL Q (pc) lv (.int y :: .int x :: st) μ := fun ls H locs hl hH => lv_icmp_eq hC.1.1 hC.1.2.1 hdg ht (fun h => kt h ls H locs hl hH) (fun h => kf h ls H locs hl hH)
theorem r_icmp_lt (hC : mw_C p R s m args meth c G kd cc nL own ret) {x y : Int32} {off : Int} (tgt : Nat) (hdg : decode cc pc = .ok (.if_icmp .lt off, 3)) (ht : (pc : Int) + off = (tgt : Int)) (kt : x < y → mw_W p l e R s m args below meth c G kd nL Q (tgt) lv st μ) (kf : ¬ x < y → mw_W p l e R s m args below meth c G kd nL Q (pc + 3) lv st μ) : mw_W p l e R s m args below meth c G kd nL Q (pc) lv (.int y :: .int x :: st) μ := fun ls H locs hl hH => lv_icmp_lt hC.1.1 hC.1.2.1 hdg ht (fun h => kt h ls H locs hl hH) (fun h => kf h ls H locs hl hH)
theorem r_icmp_ge (hC : mw_C p R s m args meth c G kd cc nL own ret) {x y : Int32} {off : Int} (tgt : Nat) (hdg : decode cc pc = .ok (.if_icmp .ge off, 3)) (ht : (pc : Int) + off = (tgt : Int)) (kt : y ≤ x → mw_W p l e R s m args below meth c G kd nL Q (tgt) lv st μ) (kf : ¬ y ≤ x → mw_W p l e R s m args below meth c G kd nL Q (pc + 3) lv st μ) : mw_W p l e R s m args below meth c G kd nL Q (pc) lv (.int y :: .int x :: st) μ := fun ls H locs hl hH => lv_icmp_ge hC.1.1 hC.1.2.1 hdg ht (fun h => kt h ls H locs hl hH) (fun h => kf h ls H locs hl hH)
theorem r_icmp_gt (hC : mw_C p R s m args meth c G kd cc nL own ret) {x y : Int32} {off : Int} (tgt : Nat) (hdg : decode cc pc = .ok (.if_icmp .gt off, 3)) (ht : (pc : Int) + off = (tgt : Int)) (kt : y < x → mw_W p l e R s m args below meth c G kd nL Q (tgt) lv st μ) (kf : ¬ y < x → mw_W p l e R s m args below meth c G kd nL Q (pc + 3) lv st μ) : mw_W p l e R s m args below meth c G kd nL Q (pc) lv (.int y :: .int x :: st) μ := fun ls H locs hl hH => lv_icmp_gt hC.1.1 hC.1.2.1 hdg ht (fun h => kt h ls H locs hl hH) (fun h => kf h ls H locs hl hH)
theorem r_icmp_le (hC : mw_C p R s m args meth c G kd cc nL own ret) {x y : Int32} {off : Int} (tgt : Nat) (hdg : decode cc pc = .ok (.if_icmp .le off, 3)) (ht : (pc : Int) + off = (tgt : Int)) (kt : x ≤ y → mw_W p l e R s m args below meth c G kd nL Q (tgt) lv st μ) (kf : ¬ x ≤ y → mw_W p l e R s m args below meth c G kd nL Q (pc + 3) lv st μ) : mw_W p l e R s m args below meth c G kd nL Q (pc) lv (.int y :: .int x :: st) μ := fun ls H locs hl hH => lv_icmp_le hC.1.1 hC.1.2.1 hdg ht (fun h => kt h ls H locs hl hH) (fun h => kf h ls H locs hl hH)
theorem r_if_eq (hC : mw_C p R s m args meth c G kd cc nL own ret) {x : Int32} {off : Int} (tgt : Nat) (hdg : decode cc pc = .ok (.ifCond .eq off, 3)) (ht : (pc : Int) + off = (tgt : Int)) (kt : x = 0 → mw_W p l e R s m args below meth c G kd nL Q (tgt) lv st μ) (kf : ¬ x = 0 → mw_W p l e R s m args below meth c G kd nL Q (pc + 3) lv st μ) : mw_W p l e R s m args below meth c G kd nL Q (pc) lv (.int x :: st) μ := fun ls H locs hl hH => lv_if_eq hC.1.1 hC.1.2.1 hdg ht (fun h => kt h ls H locs hl hH) (fun h => kf h ls H locs hl hH)
theorem r_if_lt (hC : mw_C p R s m args meth c G kd cc nL own ret) {x : Int32} {off : Int} (tgt : Nat) (hdg : decode cc pc = .ok (.ifCond .lt off, 3)) (ht : (pc : Int) + off = (tgt : Int)) (kt : x < 0 → mw_W p l e R s m args below meth c G kd nL Q (tgt) lv st μ) (kf : ¬ x < 0 → mw_W p l e R s m args below meth c G kd nL Q (pc + 3) lv st μ) : mw_W p l e R s m args below meth c G kd nL Q (pc) lv (.int x :: st) μ := fun ls H locs hl hH => lv_if_lt hC.1.1 hC.1.2.1 hdg ht (fun h => kt h ls H locs hl hH) (fun h => kf h ls H locs hl hH)
theorem r_if_ge (hC : mw_C p R s m args meth c G kd cc nL own ret) {x : Int32} {off : Int} (tgt : Nat) (hdg : decode cc pc = .ok (.ifCond .ge off, 3)) (ht : (pc : Int) + off = (tgt : Int)) (kt : 0 ≤ x → mw_W p l e R s m args below meth c G kd nL Q (tgt) lv st μ) (kf : ¬ 0 ≤ x → mw_W p l e R s m args below meth c G kd nL Q (pc + 3) lv st μ) : mw_W p l e R s m args below meth c G kd nL Q (pc) lv (.int x :: st) μ := fun ls H locs hl hH => lv_if_ge hC.1.1 hC.1.2.1 hdg ht (fun h => kt h ls H locs hl hH) (fun h => kf h ls H locs hl hH)
theorem r_if_gt (hC : mw_C p R s m args meth c G kd cc nL own ret) {x : Int32} {off : Int} (tgt : Nat) (hdg : decode cc pc = .ok (.ifCond .gt off, 3)) (ht : (pc : Int) + off = (tgt : Int)) (kt : 0 < x → mw_W p l e R s m args below meth c G kd nL Q (tgt) lv st μ) (kf : ¬ 0 < x → mw_W p l e R s m args below meth c G kd nL Q (pc + 3) lv st μ) : mw_W p l e R s m args below meth c G kd nL Q (pc) lv (.int x :: st) μ := fun ls H locs hl hH => lv_if_gt hC.1.1 hC.1.2.1 hdg ht (fun h => kt h ls H locs hl hH) (fun h => kf h ls H locs hl hH)
theorem r_if_le (hC : mw_C p R s m args meth c G kd cc nL own ret) {x : Int32} {off : Int} (tgt : Nat) (hdg : decode cc pc = .ok (.ifCond .le off, 3)) (ht : (pc : Int) + off = (tgt : Int)) (kt : x ≤ 0 → mw_W p l e R s m args below meth c G kd nL Q (tgt) lv st μ) (kf : ¬ x ≤ 0 → mw_W p l e R s m args below meth c G kd nL Q (pc + 3) lv st μ) : mw_W p l e R s m args below meth c G kd nL Q (pc) lv (.int x :: st) μ := fun ls H locs hl hH => lv_if_le hC.1.1 hC.1.2.1 hdg ht (fun h => kt h ls H locs hl hH) (fun h => kf h ls H locs hl hH)
theorem r_icmp_ne (hC : mw_C p R s m args meth c G kd cc nL own ret) {x y : Int32} {off : Int} (tgt : Nat) (hdg : decode cc pc = .ok (.if_icmp .ne off, 3)) (ht : (pc : Int) + off = (tgt : Int)) (kt : ¬ x = y → mw_W p l e R s m args below meth c G kd nL Q (tgt) lv st μ) (kf : x = y → mw_W p l e R s m args below meth c G kd nL Q (pc + 3) lv st μ) : mw_W p l e R s m args below meth c G kd nL Q (pc) lv (.int y :: .int x :: st) μ := fun ls H locs hl hH => lv_icmp_ne hC.1.1 hC.1.2.1 hdg ht (fun h => kt h ls H locs hl hH) (fun h => kf h ls H locs hl hH)
theorem r_if_ne (hC : mw_C p R s m args meth c G kd cc nL own ret) {x : Int32} {off : Int} (tgt : Nat) (hdg : decode cc pc = .ok (.ifCond .ne off, 3)) (ht : (pc : Int) + off = (tgt : Int)) (kt : ¬ x = 0 → mw_W p l e R s m args below meth c G kd nL Q (tgt) lv st μ) (kf : x = 0 → mw_W p l e R s m args below meth c G kd nL Q (pc + 3) lv st μ) : mw_W p l e R s m args below meth c G kd nL Q (pc) lv (.int x :: st) μ := fun ls H locs hl hH => lv_if_ne hC.1.1 hC.1.2.1 hdg ht (fun h => kt h ls H locs hl hH) (fun h => kf h ls H locs hl hH)
theorem r_goto (hC : mw_C p R s m args meth c G kd cc nL own ret) {off : Int} (tgt : Nat) (hdg : decode cc pc = .ok (.goto off, 3)) (ht : (pc : Int) + off = (tgt : Int)) (K : mw_W p l e R s m args below meth c G kd nL Q (tgt) lv st μ) : mw_W p l e R s m args below meth c G kd nL Q (pc) lv st μ := fun ls H locs hl hH => lv_goto hC.1.1 hC.1.2.1 hdg ht (K ls H locs hl hH)
theorem r_lv (hC : mw_C p R s m args meth c G kd cc nL own ret) (lv' : List (Nat × Value)) (ks : List Nat) (he : lv_pick lv ks = lv') (K : mw_W p l e R s m args below meth c G kd nL Q (pc) lv' st μ) : mw_W p l e R s m args below meth c G kd nL Q (pc) lv st μ := fun ls H locs hl hH => K ls H locs (lv_sub hl ks he) hH
theorem r_tin (hC : mw_C p R s m args meth c G kd cc nL own ret) {dflt lo hi : Int} {offs : Array Int} {len : Nat} {x : Int32} {off : Int} (tgt : Nat) (hdg : decode cc pc = .ok (.tableswitch dflt lo hi offs, len)) (h1 : ¬ x.toInt < lo) (h2 : ¬ hi < x.toInt) (ho : offs[(x.toInt - lo).toNat]? = some off) (ht : (pc : Int) + off = (tgt : Int)) (K : mw_W p l e R s m args below meth c G kd nL Q (tgt) lv st μ) : mw_W p l e R s m args below meth c G kd nL Q (pc) lv (.int x :: st) μ := fun ls H locs hl hH => lv_tableIn hC.1.1 hC.1.2.1 hdg h1 h2 ho ht (K ls H locs hl hH)
theorem r_tout (hC : mw_C p R s m args meth c G kd cc nL own ret) {dflt lo hi : Int} {offs : Array Int} {len : Nat} {x : Int32} (tgt : Nat) (hdg : decode cc pc = .ok (.tableswitch dflt lo hi offs, len)) (h : x.toInt < lo ∨ hi < x.toInt) (ht : (pc : Int) + dflt = (tgt : Int)) (K : mw_W p l e R s m args below meth c G kd nL Q (tgt) lv st μ) : mw_W p l e R s m args below meth c G kd nL Q (pc) lv (.int x :: st) μ := fun ls H locs hl hH => lv_tableOut hC.1.1 hC.1.2.1 hdg h ht (K ls H locs hl hH)
theorem r_lsw (hC : mw_C p R s m args meth c G kd cc nL own ret) {dflt : Int} {ps : Array (Int × Int)} {len : Nat} {x : Int32} {off : Int} (tgt : Nat) (hdg : decode cc pc = .ok (.lookupswitch dflt ps, len)) (hp : (ps.toList.zip (ps.toList.drop 1)).all (fun (a, next) => a.1 < next.1) = true) (ho : Op.lookupswitch.offset ps.toList dflt x.toInt = off) (ht : (pc : Int) + off = (tgt : Int)) (K : mw_W p l e R s m args below meth c G kd nL Q (tgt) lv st μ) : mw_W p l e R s m args below meth c G kd nL Q (pc) lv (.int x :: st) μ := fun ls H locs hl hH => lv_lookup hC.1.1 hC.1.2.1 hdg hp ho ht (K ls H locs hl hH)
end MWR
