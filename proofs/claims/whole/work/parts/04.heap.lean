/-! rows over the flat memory: fields, arrays, statics, calls, returns -/
def mw_fl (own : String) (idx ci j : Nat) (ty : FieldType) (fin : Bool) : Prop := ∃ (C : String) (T : u_T) (N : Nat) (t0 : Nat → FieldType), vwCl[ci]? = some (C, T, N) ∧ (∀ w ∈ u_ws C T N, w ∈ mw_T) ∧ j < N ∧ Cond.fieldLink own idx C (T j).2.1 (T j).2.2.1 ∈ mw_T ∧ (T j).1 = C ∧ (∀ k, k < N → parseFieldDescriptor (T k).2.2.1 = some (t0 k)) ∧ (∀ a, a < N → ∀ b, b < N → a ≠ b → (T a).2.1 ≠ (T b).2.1) ∧ t0 j = ty ∧ (T j).2.2.2 = fin
theorem mw_I_at (μ : mw_M) (k j : Nat) (v : Int32) : (mw_I μ k j v).1 k j = v := by simp [mw_I, mw_u]
theorem mw_I_get (μ : mw_M) (k j : Nat) (v : Int32) (a b : Nat) : (mw_I μ k j v).1 a b = if a = k ∧ b = j then v else μ.1 a b := rfl
theorem mw_I_long (μ : mw_M) (k j : Nat) (v : Int32) : (mw_I μ k j v).2 = μ.2 := rfl
theorem mw_L_get (μ : mw_M) (k j : Nat) (v : Int64) (a b : Nat) : (mw_L μ k j v).2 a b = if a = k ∧ b = j then v else μ.2 a b := rfl
theorem mw_L_int (μ : mw_M) (k j : Nat) (v : Int64) : (mw_L μ k j v).1 = μ.1 := rfl
section MWH
variable {p : Program} {l : Launch} {e : Env} {R : Room} {s : State} {m : MethodId} {args : Array Value} {below : List Frame} {meth : Method} {c : Code} {G : mw_G} {kd : List mw_CD} {cc : ByteArray} {nL : Nat} {own : String} {ret : Option FieldType} {Q : State → Prop} {pc : Nat} {lv : List (Nat × Value)} {st : List Value} {μ : mw_M}
theorem r_getI (hC : mw_C p R s m args meth c G kd cc nL own ret) {idx ci j b : Nat} {ty : FieldType} {fin : Bool} {ds : List Nat} (hf : mw_fl own idx ci j ty fin) (hb : kd[b]? = some (.inl (ci, ds))) (hd : ds[j]? = some 0) (hdg : decode cc pc = .ok (.getfield idx, 3)) (K : mw_W p l e R s m args below meth c G kd nL Q (pc + 3) lv (.int (μ.1 b j) :: st) μ) : mw_W p l e R s m args below meth c G kd nL Q pc lv (.ref (mw_a G b) :: st) μ := by
  intro ls H locs hl hH
  obtain ⟨C, T, N, t0, h1, h2, h3, h4, h5, h6, h7, h8, h9⟩ := hf
  exact va_get (C := C) (T := T) (N := N) (ref := C) (v := .int (μ.1 b j)) hC.1.1 hC.1.2.1 hC.1.2.2.2.2 h2 hC.1.2.2.2.1 hC.2.1.1 hH.1 b (mw_ws_at hb) h1 j h3 (hC.1.2.2.2.2 _ h4) (fun x h => by rw [h5] at h; exact h) (mw_fs_at hd) hdg (K ls H locs hl hH)
theorem r_getR (hC : mw_C p R s m args meth c G kd cc nL own ret) {idx ci j b : Nat} {ty : FieldType} {fin : Bool} {ds : List Nat} (n : Nat) (hf : mw_fl own idx ci j ty fin) (hb : kd[b]? = some (.inl (ci, ds))) (hd : ds[j]? = some (n + 2)) (hdg : decode cc pc = .ok (.getfield idx, 3)) (K : mw_W p l e R s m args below meth c G kd nL Q (pc + 3) lv (.ref (mw_a G n) :: st) μ) : mw_W p l e R s m args below meth c G kd nL Q pc lv (.ref (mw_a G b) :: st) μ := by
  intro ls H locs hl hH
  obtain ⟨C, T, N, t0, h1, h2, h3, h4, h5, h6, h7, h8, h9⟩ := hf
  exact va_get (C := C) (T := T) (N := N) (ref := C) (v := .ref (mw_a G n)) hC.1.1 hC.1.2.1 hC.1.2.2.2.2 h2 hC.1.2.2.2.1 hC.2.1.1 hH.1 b (mw_ws_at hb) h1 j h3 (hC.1.2.2.2.2 _ h4) (fun x h => by rw [h5] at h; exact h) (mw_fs_at hd) hdg (K ls H locs hl hH)
theorem r_getV (hC : mw_C p R s m args meth c G kd cc nL own ret) {idx ci j b : Nat} {ty : FieldType} {fin : Bool} {ds : List Nat} (hf : mw_fl own idx ci j ty fin) (hb : kd[b]? = some (.inl (ci, ds))) (hd : ds[j]? = some 1) (hn : ¬ μ.1 b j = 0) (hdg : decode cc pc = .ok (.getfield idx, 3)) (K : mw_W p l e R s m args below meth c G kd nL Q (pc + 3) lv (.ref (mw_a G (μ.1 b j).toNatClampNeg) :: st) μ) : mw_W p l e R s m args below meth c G kd nL Q pc lv (.ref (mw_a G b) :: st) μ := by
  intro ls H locs hl hH
  obtain ⟨C, T, N, t0, h1, h2, h3, h4, h5, h6, h7, h8, h9⟩ := hf
  refine va_get (C := C) (T := T) (N := N) (ref := C) (v := .ref (mw_a G (μ.1 b j).toNatClampNeg)) hC.1.1 hC.1.2.1 hC.1.2.2.2.2 h2 hC.1.2.2.2.1 hC.2.1.1 hH.1 b (mw_ws_at hb) h1 j h3 (hC.1.2.2.2.2 _ h4) (fun x h => by rw [h5] at h; exact h) ?_ hdg (K ls H locs hl hH)
  rw [mw_fs_at hd]
  show some (if μ.1 b j = 0 then Value.null else _) = _
  rw [if_neg hn]
theorem r_getN (hC : mw_C p R s m args meth c G kd cc nL own ret) {idx ci j b : Nat} {ds : List Nat} {host C : String} {T : u_T} {N : Nat} (hh : va_Nw (.fieldLinkNest own idx C (T j).2.1 (T j).2.2.1 host) s) (h1 : vwCl[ci]? = some (C, T, N)) (h2 : ∀ w ∈ u_ws C T N, w ∈ mw_T) (h3 : j < N) (h5 : (T j).1 = C) (hb : kd[b]? = some (.inl (ci, ds))) (hd : ds[j]? = some 0) (hdg : decode cc pc = .ok (.getfield idx, 3)) (K : mw_W p l e R s m args below meth c G kd nL Q (pc + 3) lv (.int (μ.1 b j) :: st) μ) : mw_W p l e R s m args below meth c G kd nL Q pc lv (.ref (mw_a G b) :: st) μ := by
  intro ls H locs hl hH
  exact va_getN (C := C) (T := T) (N := N) (ref := C) (host := host) (v := .int (μ.1 b j)) hC.1.1 hC.1.2.1 hC.1.2.2.2.2 h2 hC.1.2.2.2.1 hC.2.1.1 hH.1 b (mw_ws_at hb) h1 j h3 (va_Nw.use rfl hh) (fun x h => by rw [h5] at h; exact h) (mw_fs_at hd) hdg (K ls H locs hl hH)
theorem r_putI (hC : mw_C p R s m args meth c G kd cc nL own ret) {idx ci j b : Nat} {ty : FieldType} {ds : List Nat} {x : Int32} (hf : mw_fl own idx ci j ty false) (hb : kd[b]? = some (.inl (ci, ds))) (hd : ds[j]? = some 0) (hn : narrow ty (.int x) = .int x) (hfit : fits ty (.int x) = true) (hdg : decode cc pc = .ok (.putfield idx, 3)) (K : mw_W p l e R s m args below meth c G kd nL Q (pc + 3) lv st (mw_I μ b j x)) : mw_W p l e R s m args below meth c G kd nL Q pc lv (.int x :: .ref (mw_a G b) :: st) μ := by
  intro ls H locs hl hH
  obtain ⟨C, T, N, t0, h1, h2, h3, h4, h5, h6, h7, h8, h9⟩ := hf
  refine va_put (C := C) (T := T) (N := N) (ref := C) (ty := ty) (v := .int x) hC.1.1 hC.1.2.1 hC.1.2.2.2.2 h2 t0 h6 h7 hC.1.2.2.2.1 hC.2.1.1 hH.1 (mw_ws_D hC.2.1.2.1) hH.2 b (mw_ws_at hb) h1 j h3 (hC.1.2.2.2.2 _ h4) (fun x h => by rw [h5] at h; exact h) h9 (by rw [h6 j h3, h8]) hn hfit (by simp only [mw_fs, List.length_mapIdx]; exact (List.getElem?_eq_some_iff.mp hd).1) hdg (fun H1 locs1 hP hD hS => K ls H1 locs1 hl ⟨?_, hS⟩)
  rw [mw_ws_set (G := G) (μ := μ) (μ' := mw_I μ b j x) hb (by show Sum.inr _ = Sum.inr _; rw [mw_fs_set ⟨0, hd, by show Value.int _ = _; rw [mw_I_at]⟩]) (fun a d h => mw_e_ne h d)] at hP
  exact hP
theorem r_putV (hC : mw_C p R s m args meth c G kd cc nL own ret) {idx ci j b k : Nat} {ty : FieldType} {ds : List Nat} (hf : mw_fl own idx ci j ty false) (hb : kd[b]? = some (.inl (ci, ds))) (hd : ds[j]? = some 1) (hk : 0 < k ∧ k < 2 ^ 31) (hn : ∀ a, narrow ty (.ref a) = .ref a) (hfit : ∀ a, fits ty (.ref a) = true) (hdg : decode cc pc = .ok (.putfield idx, 3)) (K : mw_W p l e R s m args below meth c G kd nL Q (pc + 3) lv st (mw_I μ b j (nI k))) : mw_W p l e R s m args below meth c G kd nL Q pc lv (.ref (mw_a G k) :: .ref (mw_a G b) :: st) μ := by
  intro ls H locs hl hH
  obtain ⟨C, T, N, t0, h1, h2, h3, h4, h5, h6, h7, h8, h9⟩ := hf
  refine va_put (C := C) (T := T) (N := N) (ref := C) (ty := ty) (v := .ref (mw_a G k)) hC.1.1 hC.1.2.1 hC.1.2.2.2.2 h2 t0 h6 h7 hC.1.2.2.2.1 hC.2.1.1 hH.1 (mw_ws_D hC.2.1.2.1) hH.2 b (mw_ws_at hb) h1 j h3 (hC.1.2.2.2.2 _ h4) (fun x h => by rw [h5] at h; exact h) h9 (by rw [h6 j h3, h8]) (hn _) (hfit _) (by simp only [mw_fs, List.length_mapIdx]; exact (List.getElem?_eq_some_iff.mp hd).1) hdg (fun H1 locs1 hP hD hS => K ls H1 locs1 hl ⟨?_, hS⟩)
  rw [mw_ws_set (G := G) (μ := μ) (μ' := mw_I μ b j (nI k)) hb (by show Sum.inr _ = Sum.inr _; rw [mw_fs_set ⟨1, hd, by
    show (if (mw_I μ b j (nI k)).1 b j = 0 then Value.null else Value.ref (mw_a G ((mw_I μ b j (nI k)).1 b j).toNatClampNeg)) = _
    rw [mw_I_at, if_neg (nI_ne0 hk.1 hk.2), nI_clamp hk.2]⟩]) (fun a d h => mw_e_ne h d)] at hP
  exact hP
theorem r_iald (hC : mw_C p R s m args meth c G kd cc nL own ret) {b n x y : Nat} {i : Int32} (hb : kd[b]? = some (.inr (0, n, x, y))) (hin : vp_in i n) (j : Nat) (hj : i.toNatClampNeg = j) (hdg : decode cc pc = .ok (.iaload, 1)) (K : mw_W p l e R s m args below meth c G kd nL Q (pc + 1) lv (.int (μ.1 b j) :: st) μ) : mw_W p l e R s m args below meth c G kd nL Q pc lv (.int i :: .ref (mw_a G b) :: st) μ := by
  subst hj
  exact fun ls H locs hl hH =>
  va_iald (tys := mw_tys G) (f := μ.1 b) hC.1.1 hC.1.2.1 hC.2.1.1 hH.1 b 0 (mw_ws_at hb) rfl hin hdg (K ls H locs hl hH)
theorem r_lald (hC : mw_C p R s m args meth c G kd cc nL own ret) {b n x y : Nat} {i : Int32} (hb : kd[b]? = some (.inr (1, n, x, y))) (hin : vp_in i n) (j : Nat) (hj : i.toNatClampNeg = j) (hdg : decode cc pc = .ok (.laload, 1)) (K : mw_W p l e R s m args below meth c G kd nL Q (pc + 1) lv (.long (μ.2 b j) :: st) μ) : mw_W p l e R s m args below meth c G kd nL Q pc lv (.int i :: .ref (mw_a G b) :: st) μ := by
  subst hj
  exact fun ls H locs hl hH =>
  va_lald (tys := mw_tys G) (f := μ.2 b) hC.1.1 hC.1.2.1 hC.2.1.1 hH.1 b 1 (mw_ws_at hb) rfl hin hdg (K ls H locs hl hH)
theorem r_aald (hC : mw_C p R s m args meth c G kd cc nL own ret) {b t n x y : Nat} {i : Int32} (hb : kd[b]? = some (.inr (t + 2, n, x, y))) (ht : t < 3) (hin : vp_in i n) (j : Nat) (hj : i.toNatClampNeg = j) (cj : Nat) (hcj : x + y * j = cj) (hdg : decode cc pc = .ok (.aaload, 1)) (K : mw_W p l e R s m args below meth c G kd nL Q (pc + 1) lv (.ref (mw_a G cj) :: st) μ) : mw_W p l e R s m args below meth c G kd nL Q pc lv (.int i :: .ref (mw_a G b) :: st) μ := by
  subst hcj; subst hj
  intro ls H locs hl hH
  have hlt : i.toNatClampNeg < n := Nat.not_le.mp fun q => hin (Or.inr q)
  obtain ⟨ty, h1, h2⟩ : ∃ ty : FieldType, (mw_tys G)[t + 2]? = some (G.2.1 (t + 2), ty) ∧ ty.isReference = true := by
    rcases (show t = 0 ∨ t = 1 ∨ t = 2 by omega) with rfl | rfl | rfl
    · exact ⟨_, rfl, rfl⟩
    · exact ⟨_, rfl, rfl⟩
    · exact ⟨_, rfl, rfl⟩
  exact W.aald (v := .ref (mw_a G (x + y * i.toNatClampNeg))) (ty := ty) hC.1.1 hC.1.2.1 (hH.1 b _ (mw_ws_at hb)) ((hC.2.1.1.2 (t + 2) _ h1).1 n (fun j => va_rf (some (mw_a G (x + y * j))))) h2 (fun q => by cases q) (by show ¬ (i < 0 ∨ (arrV _ _ _).slots.size ≤ _); rw [arrV_size]; exact hin) (by show (arrV _ _ _).slots[_]? = _; rw [arrV_read _ _ hlt]; rfl) rfl rfl hdg (K ls H locs hl hH)
theorem r_iast (hC : mw_C p R s m args meth c G kd cc nL own ret) {b n x y : Nat} {i v : Int32} (hb : kd[b]? = some (.inr (0, n, x, y))) (hin : vp_in i n) (j : Nat) (hj : i.toNatClampNeg = j) (hdg : decode cc pc = .ok (.iastore, 1)) (K : mw_W p l e R s m args below meth c G kd nL Q (pc + 1) lv st (mw_I μ b j v)) : mw_W p l e R s m args below meth c G kd nL Q pc lv (.int v :: .int i :: .ref (mw_a G b) :: st) μ := by
  subst hj
  intro ls H locs hl hH
  refine va_iast (tys := mw_tys G) (f := μ.1 b) hC.1.1 hC.1.2.1 hC.2.1.1 hH.1 (mw_ws_D hC.2.1.2.1) hH.2 b 0 (mw_ws_at hb) rfl hin hdg (fun H1 locs1 hP hD hS => K ls H1 locs1 hl ⟨?_, hS⟩)
  rw [mw_ws_set (G := G) (μ := μ) (μ' := mw_I μ b i.toNatClampNeg v) hb (by
    show Sum.inl (_, _, Sum.inl (upd (μ.1 b) i.toNatClampNeg v)) = Sum.inl (_, _, Sum.inl ((mw_I μ b i.toNatClampNeg v).1 b))
    rw [show (mw_I μ b i.toNatClampNeg v).1 b = upd (μ.1 b) i.toNatClampNeg v from by funext j; exact mw_u_at _ _ _ _ _]) (fun a d h => mw_e_ne h d)] at hP
  exact hP
theorem r_last (hC : mw_C p R s m args meth c G kd cc nL own ret) {b n x y : Nat} {i : Int32} {v : Int64} (hb : kd[b]? = some (.inr (1, n, x, y))) (hin : vp_in i n) (j : Nat) (hj : i.toNatClampNeg = j) (hdg : decode cc pc = .ok (.lastore, 1)) (K : mw_W p l e R s m args below meth c G kd nL Q (pc + 1) lv st (mw_L μ b j v)) : mw_W p l e R s m args below meth c G kd nL Q pc lv (.long v :: .int i :: .ref (mw_a G b) :: st) μ := by
  subst hj
  intro ls H locs hl hH
  refine va_last (tys := mw_tys G) (f := μ.2 b) hC.1.1 hC.1.2.1 hC.2.1.1 hH.1 (mw_ws_D hC.2.1.2.1) hH.2 b 1 (mw_ws_at hb) rfl hin hdg (fun H1 locs1 hP hD hS => K ls H1 locs1 hl ⟨?_, hS⟩)
  rw [mw_ws_set (G := G) (μ := μ) (μ' := mw_L μ b i.toNatClampNeg v) hb (by
    show Sum.inl (_, _, Sum.inr (Sum.inl (vp_updL (μ.2 b) i.toNatClampNeg v))) = Sum.inl (_, _, Sum.inr (Sum.inl ((mw_L μ b i.toNatClampNeg v).2 b)))
    rw [show (mw_L μ b i.toNatClampNeg v).2 b = vp_updL (μ.2 b) i.toNatClampNeg v from by funext j; exact mw_u_at _ _ _ _ _]) (fun a d h => mw_e_neL (G := G) (μ := μ) (μ' := mw_L μ b i.toNatClampNeg v) rfl (mw_u_ne h) d)] at hP
  exact hP
theorem r_alen (hC : mw_C p R s m args meth c G kd cc nL own ret) {b n x y : Nat} (hb : kd[b]? = some (.inr (0, n, x, y))) (hdg : decode cc pc = .ok (.arraylength, 1)) (K : mw_W p l e R s m args below meth c G kd nL Q (pc + 1) lv (.int (Int32.ofNat n) :: st) μ) : mw_W p l e R s m args below meth c G kd nL Q pc lv (.ref (mw_a G b) :: st) μ := fun ls H locs hl hH =>
  va_alen (tys := mw_tys G) hC.1.1 hC.1.2.1 hC.2.1.1 hH.1 b 0 (mw_ws_at hb) rfl rfl hdg (K ls H locs hl hH)
theorem r_gets (hC : mw_C p R s m args meth c G kd cc nL own ret) {idx : Nat} (i : Nat) (hi : i < 4) (hw : Cond.fieldLink own idx (mw_sc i).1 (mw_sc i).2.1 "[I" ∈ mw_T) (hdg : decode cc pc = .ok (.getstatic idx, 3)) (K : mw_W p l e R s m args below meth c G kd nL Q (pc + 3) lv (.ref (mw_t G i) :: st) μ) : mw_W p l e R s m args below meth c G kd nL Q pc lv st μ := fun ls H locs hl hH =>
  va_gets (C := (mw_sc i).1) (ref := (mw_sc i).1) hC.1.1 hC.1.2.1 (hC.2.1.2.2.1 i hi).1 hH.2 hC.1.2.2.2.1 (hC.1.2.2.2.2 _ hw) (fun _ h => h) hdg (K ls H locs hl hH)
theorem r_sald (hC : mw_C p R s m args meth c G kd cc nL own ret) {i : Int32} (t : Nat) (ht : t < 4) (hin : vp_in i (mw_sc t).2.2.length) (j : Nat) (hj : i.toNatClampNeg = j) (hdg : decode cc pc = .ok (.iaload, 1)) (K : mw_W p l e R s m args below meth c G kd nL Q (pc + 1) lv (.int (mw_sv t j) :: st) μ) : mw_W p l e R s m args below meth c G kd nL Q pc lv (.int i :: .ref (mw_t G t) :: st) μ := by
  subst hj
  exact fun ls H locs hl hH =>
  va_ti hC.1.1 hC.1.2.1 (hC.2.1.2.2.1 t ht).2 hH.2 hin rfl hdg (K ls H locs hl hH)
/-- Math -/
def mw_mw (own : String) (idx : Nat) (y : MethodName) (cd : ByteArray) (n : Nat) (r : Option FieldType) : Prop := Cond.methodLink own idx y ∈ mw_T ∧ Cond.static y ∈ mw_T ∧ Cond.initialized "java/lang/Math" ∈ mw_T ∧ Cond.code y cd n r ∈ mw_T
theorem r_max (hC : mw_C p R s m args meth c G kd cc nL own ret) {idx : Nat} {x y : Int32} (hw : mw_mw own idx Lib.Math.max.name Lib.Math.max.code 2 (some .int)) (h1 : 1 ≤ R.frames) (h2 : (st.map fun v => v.category).sum + 13 ≤ R.locals) (hdg : decode cc pc = .ok (.invokestatic idx, 3)) (K : mw_W p l e R s m args below meth c G kd nL Q (pc + 3) lv (.int (mw_max x y) :: st) μ) : mw_W p l e R s m args below meth c G kd nL Q pc lv (.int y :: .int x :: st) μ := fun ls H locs hl hH =>
  va_mmax hC.1.1 hC.1.2.1 (by rw [hC.1.2.2.1]; exact hl.1.symm) hC.1.2.2.2.1 (hC.1.2.2.2.2 _ hw.1) (hC.1.2.2.2.2 _ hw.2.1) (hC.1.2.2.2.2 _ hw.2.2.1) (hC.1.2.2.2.2 _ hw.2.2.2) h1 h2 (Nat.zero_le _) (Nat.zero_le _) hdg (K ls H locs hl hH)
theorem r_min (hC : mw_C p R s m args meth c G kd cc nL own ret) {idx : Nat} {x y : Int32} (hw : mw_mw own idx Lib.Math.min.name Lib.Math.min.code 2 (some .int)) (h1 : 1 ≤ R.frames) (h2 : (st.map fun v => v.category).sum + 13 ≤ R.locals) (hdg : decode cc pc = .ok (.invokestatic idx, 3)) (K : mw_W p l e R s m args below meth c G kd nL Q (pc + 3) lv (.int (mw_min x y) :: st) μ) : mw_W p l e R s m args below meth c G kd nL Q pc lv (.int y :: .int x :: st) μ := fun ls H locs hl hH =>
  va_mmin hC.1.1 hC.1.2.1 (by rw [hC.1.2.2.1]; exact hl.1.symm) hC.1.2.2.2.1 (hC.1.2.2.2.2 _ hw.1) (hC.1.2.2.2.2 _ hw.2.1) (hC.1.2.2.2.2 _ hw.2.2.1) (hC.1.2.2.2.2 _ hw.2.2.2) h1 h2 (Nat.zero_le _) (Nat.zero_le _) hdg (K ls H locs hl hH)
theorem r_abs (hC : mw_C p R s m args meth c G kd cc nL own ret) {idx : Nat} {x : Int32} (hw : mw_mw own idx Lib.Math.abs.name Lib.Math.abs.code 1 (some .int)) (h1 : 1 ≤ R.frames) (h2 : (st.map fun v => v.category).sum + 13 ≤ R.locals) (hdg : decode cc pc = .ok (.invokestatic idx, 3)) (K : mw_W p l e R s m args below meth c G kd nL Q (pc + 3) lv (.int (mw_abs x) :: st) μ) : mw_W p l e R s m args below meth c G kd nL Q pc lv (.int x :: st) μ := fun ls H locs hl hH =>
  va_mabs hC.1.1 hC.1.2.1 (by rw [hC.1.2.2.1]; exact hl.1.symm) hC.1.2.2.2.1 (hC.1.2.2.2.2 _ hw.1) (hC.1.2.2.2.2 _ hw.2.1) (hC.1.2.2.2.2 _ hw.2.2.1) (hC.1.2.2.2.2 _ hw.2.2.2) h1 h2 (Nat.zero_le _) (Nat.zero_le _) hdg (K ls H locs hl hH)
theorem r_maxL (hC : mw_C p R s m args meth c G kd cc nL own ret) {idx : Nat} {x y : Int64} (hw : mw_mw own idx Lib.MathLoose.max_long.x Lib.MathLoose.max_long.code 4 (some .long)) (h1 : 1 ≤ R.frames) (h2 : (st.map fun v => v.category).sum + 15 ≤ R.locals) (hdg : decode cc pc = .ok (.invokestatic idx, 3)) (K : mw_W p l e R s m args below meth c G kd nL Q (pc + 3) lv (.long (mw_maxL x y) :: st) μ) : mw_W p l e R s m args below meth c G kd nL Q pc lv (.long y :: .long x :: st) μ := fun ls H locs hl hH =>
  va_mmax_long hC.1.1 hC.1.2.1 (by rw [hC.1.2.2.1]; exact hl.1.symm) hC.1.2.2.2.1 (hC.1.2.2.2.2 _ hw.1) (hC.1.2.2.2.2 _ hw.2.1) (hC.1.2.2.2.2 _ hw.2.2.1) (hC.1.2.2.2.2 _ hw.2.2.2) h1 h2 (Nat.zero_le _) (Nat.zero_le _) hdg (K ls H locs hl hH)
theorem r_minL (hC : mw_C p R s m args meth c G kd cc nL own ret) {idx : Nat} {x y : Int64} (hw : mw_mw own idx Lib.MathLoose.min_long.x Lib.MathLoose.min_long.code 4 (some .long)) (h1 : 1 ≤ R.frames) (h2 : (st.map fun v => v.category).sum + 15 ≤ R.locals) (hdg : decode cc pc = .ok (.invokestatic idx, 3)) (K : mw_W p l e R s m args below meth c G kd nL Q (pc + 3) lv (.long (mw_minL x y) :: st) μ) : mw_W p l e R s m args below meth c G kd nL Q pc lv (.long y :: .long x :: st) μ := fun ls H locs hl hH =>
  va_mmin_long hC.1.1 hC.1.2.1 (by rw [hC.1.2.2.1]; exact hl.1.symm) hC.1.2.2.2.1 (hC.1.2.2.2.2 _ hw.1) (hC.1.2.2.2.2 _ hw.2.1) (hC.1.2.2.2.2 _ hw.2.2.1) (hC.1.2.2.2.2 _ hw.2.2.2) h1 h2 (Nat.zero_le _) (Nat.zero_le _) hdg (K ls H locs hl hH)
theorem r_absL (hC : mw_C p R s m args meth c G kd cc nL own ret) {idx : Nat} {x : Int64} (hw : mw_mw own idx Lib.MathLoose.abs_long.x Lib.MathLoose.abs_long.code 2 (some .long)) (h1 : 1 ≤ R.frames) (h2 : (st.map fun v => v.category).sum + 13 ≤ R.locals) (hdg : decode cc pc = .ok (.invokestatic idx, 3)) (K : mw_W p l e R s m args below meth c G kd nL Q (pc + 3) lv (.long (mw_absL x) :: st) μ) : mw_W p l e R s m args below meth c G kd nL Q pc lv (.long x :: st) μ := fun ls H locs hl hH =>
  va_mabs_long hC.1.1 hC.1.2.1 (by rw [hC.1.2.2.1]; exact hl.1.symm) hC.1.2.2.2.1 (hC.1.2.2.2.2 _ hw.1) (hC.1.2.2.2.2 _ hw.2.1) (hC.1.2.2.2.2 _ hw.2.2.1) (hC.1.2.2.2.2 _ hw.2.2.2) h1 h2 (Nat.zero_le _) (Nat.zero_le _) hdg (K ls H locs hl hH)
/-- calls: what the tables say of a method, of a link -/
def mw_yV (y : MethodName) (C : String) (bytes : ByteArray) (maxL : Nat) (ret : Option FieldType) (n : Nat) : Prop := y.cls = C ∧ Cond.instanceMethod y ∈ mw_T ∧ Cond.selects C y y ∈ mw_T ∧ Cond.initialized C ∈ mw_T ∧ Cond.code y bytes maxL ret ∈ mw_T ∧ (C ≠ "java/lang/invoke/MethodHandle" ∧ C ≠ "java/lang/invoke/VarHandle") ∧ (parseMethodDescriptor y.desc).map (fun d => d.parameters.length) = some n
def mw_yS (y : MethodName) (C : String) (bytes : ByteArray) (maxL : Nat) (ret : Option FieldType) (n : Nat) : Prop := y.cls = C ∧ Cond.static y ∈ mw_T ∧ Cond.initialized C ∈ mw_T ∧ Cond.code y bytes maxL ret ∈ mw_T ∧ (C ≠ "java/lang/invoke/MethodHandle" ∧ C ≠ "java/lang/invoke/VarHandle") ∧ (parseMethodDescriptor y.desc).map (fun d => d.parameters.length) = some n
theorem mw_cw {args : Array Value} {s : State} (hts : ∀ w ∈ mw_T, w.before args s = true) {y : MethodName} {C : String} {bytes : ByteArray} {maxL n fr lo idx : Nat} {ret' : Option FieldType} (h1 : y.cls = C) (hini : Cond.initialized C ∈ mw_T) (hcode : Cond.code y bytes maxL ret' ∈ mw_T) (hd : C ≠ "java/lang/invoke/MethodHandle" ∧ C ≠ "java/lang/invoke/VarHandle") (hn : (parseMethodDescriptor y.desc).map (fun d => d.parameters.length) = some n) (hlk : Cond.methodLink own idx y ∈ mw_T) (hR : fr + 1 ≤ R.frames ∧ 8 + (maxL + 11) + lo ≤ R.locals) : CallB R s args own idx y bytes maxL ret' (.code y bytes maxL ret' :: mw_T) (mw_rm fr lo) 0 0 n := by
  subst h1
  refine ⟨rfl, rfl, hR.1, hR.2, pay_in hts (mw_goodIn hcode), List.mem_cons_self, hts _ hcode, hts _ hini, hd, fun sig h => ?_, hts _ hlk⟩
  rw [h] at hn
  exact (Option.some.inj hn).symm
theorem mw_recv (hC : mw_C p R s m args meth c G kd cc nL own ret) {H : Heap} {locs : List Loc} (hH : mw_H G kd s μ H locs) {b ci : Nat} {ds : List Nat} {q : vw_C} (hb : kd[b]? = some (.inl (ci, ds))) (hc : vwCl[ci]? = some q) : ∃ cell : Cell, H[mw_a G b]? = some cell ∧ cell.vm.isStatics = false ∧ s.vm.findClass q.1 = some cell.cls := va_recv hC.2.1.1 hH.1 hc (mw_ws_at hb)
theorem mw_preV (hC : mw_C p R s m args meth c G kd cc nL own ret) {H : Heap} {locs : List Loc} (hH : mw_H G kd s μ H locs) {b ci : Nat} {ds : List Nat} {q : vw_C} (hb : kd[b]? = some (.inl (ci, ds))) (hc : vwCl[ci]? = some q) (As : List Value) : PreV s H q.1 (mw_a G b) (va_Pc (.ref (mw_a G b) :: As) (mw_Pre G kd μ)) As := ⟨mw_blind, mw_recv hC hH hb hc, fun U hU hW => ⟨rfl, mw_pre_of hC.2.1 hH hU hW⟩⟩
theorem mw_preS (hC : mw_C p R s m args meth c G kd cc nL own ret) {H : Heap} {locs : List Loc} (hH : mw_H G kd s μ H locs) (As : List Value) : PreS s H (va_Pc As (mw_Pre G kd μ)) As := ⟨mw_blind, fun U hU hW => ⟨rfl, mw_pre_of hC.2.1 hH hU hW⟩⟩
theorem r_callVi (hC : mw_C p R s m args meth c G kd cc nL own ret) {y : MethodName} {C : String} {bytes : ByteArray} {maxL n fr lo idx b ci : Nat} {ret' : Option FieldType} {ds : List Nat} {T : u_T} {N : Nat} {Q1 : Int32 → mw_M → Prop} (As : List Value) (hM : mw_Mi l G kd y bytes maxL ret' fr lo (.ref (mw_a G b) :: As) μ Q1) (hy : mw_yV y C bytes maxL ret' n) (hlk : Cond.methodLink own idx y ∈ mw_T) (hb : kd[b]? = some (.inl (ci, ds))) (hc : vwCl[ci]? = some (C, T, N)) (hR : fr + 1 ≤ R.frames ∧ 8 + (maxL + 11) + lo ≤ R.locals) (hn : As.length = n) {st0 : List Value} (hst : st0 = As.reverse ++ .ref (mw_a G b) :: st) (hcat : (st.map fun v => v.category).sum ≤ 8) (hdg : decode cc pc = .ok (.invokevirtual idx, 3)) (K : ∀ r u, Q1 r u → mw_W p l e R s m args below meth c G kd nL Q (pc + 3) lv (.int r :: st) u) : mw_W p l e R s m args below meth c G kd nL Q (pc) lv st0 μ := by
  intro ls H locs hl hH
  obtain ⟨y1, y2, y3, y4, y5, y6, y7⟩ := hy
  exact va_calli (va_runV (Ts := mw_T) (C := C) (As := As) (rest := st) hC.1 hM ⟨mw_cw hC.1.2.2.2.2 y1 y4 y5 y6 y7 hlk hR, hC.1.2.2.2.2 _ y2, hC.1.2.2.2.2 _ y3⟩ (mw_preV hC hH hb hc As) rfl hn hl.1 hst (lv_room hcat) hdg ⟨Nat.zero_le _, Nat.zero_le _⟩) hH.2 (fun q _ h => h) (fun q h => h) (fun r u t H1 locs1 ht hvm hq hB hz hk hS => K r u hq ls H1 locs1 hl ⟨by rw [← ht]; exact hB, hS⟩)
theorem r_callSi (hC : mw_C p R s m args meth c G kd cc nL own ret) {y : MethodName} {C : String} {bytes : ByteArray} {maxL n fr lo idx : Nat} {ret' : Option FieldType} {Q1 : Int32 → mw_M → Prop} (As : List Value) (hM : mw_Mi l G kd y bytes maxL ret' fr lo As μ Q1) (hy : mw_yS y C bytes maxL ret' n) (hlk : Cond.methodLink own idx y ∈ mw_T) (hR : fr + 1 ≤ R.frames ∧ 8 + (maxL + 11) + lo ≤ R.locals) (hn : As.length = n) {st0 : List Value} (hst : st0 = As.reverse ++ st) (hcat : (st.map fun v => v.category).sum ≤ 8) (hdg : decode cc pc = .ok (.invokestatic idx, 3)) (K : ∀ r u, Q1 r u → mw_W p l e R s m args below meth c G kd nL Q (pc + 3) lv (.int r :: st) u) : mw_W p l e R s m args below meth c G kd nL Q (pc) lv st0 μ := by
  intro ls H locs hl hH
  obtain ⟨y1, y2, y4, y5, y6, y7⟩ := hy
  exact va_calli (va_runS (Ts := mw_T) (As := As) (rest := st) hC.1 hM ⟨mw_cw hC.1.2.2.2.2 y1 y4 y5 y6 y7 hlk hR, hC.1.2.2.2.2 _ y2⟩ (mw_preS hC hH As) rfl hn hl.1 hst (lv_room hcat) hdg ⟨Nat.zero_le _, Nat.zero_le _⟩) hH.2 (fun q _ h => h) (fun q h => h) (fun r u t H1 locs1 ht hvm hq hB hz hk hS => K r u hq ls H1 locs1 hl ⟨by rw [← ht]; exact hB, hS⟩)
theorem r_callVl (hC : mw_C p R s m args meth c G kd cc nL own ret) {y : MethodName} {C : String} {bytes : ByteArray} {maxL n fr lo idx b ci : Nat} {ret' : Option FieldType} {ds : List Nat} {T : u_T} {N : Nat} {Q1 : Int64 → mw_M → Prop} (As : List Value) (hM : mw_Ml l G kd y bytes maxL ret' fr lo (.ref (mw_a G b) :: As) μ Q1) (hy : mw_yV y C bytes maxL ret' n) (hlk : Cond.methodLink own idx y ∈ mw_T) (hb : kd[b]? = some (.inl (ci, ds))) (hc : vwCl[ci]? = some (C, T, N)) (hR : fr + 1 ≤ R.frames ∧ 8 + (maxL + 11) + lo ≤ R.locals) (hn : As.length = n) {st0 : List Value} (hst : st0 = As.reverse ++ .ref (mw_a G b) :: st) (hcat : (st.map fun v => v.category).sum ≤ 8) (hdg : decode cc pc = .ok (.invokevirtual idx, 3)) (K : ∀ r u, Q1 r u → mw_W p l e R s m args below meth c G kd nL Q (pc + 3) lv (.long r :: st) u) : mw_W p l e R s m args below meth c G kd nL Q (pc) lv st0 μ := by
  intro ls H locs hl hH
  obtain ⟨y1, y2, y3, y4, y5, y6, y7⟩ := hy
  exact va_calll (va_runV (Ts := mw_T) (C := C) (As := As) (rest := st) hC.1 hM ⟨mw_cw hC.1.2.2.2.2 y1 y4 y5 y6 y7 hlk hR, hC.1.2.2.2.2 _ y2, hC.1.2.2.2.2 _ y3⟩ (mw_preV hC hH hb hc As) rfl hn hl.1 hst (lv_room hcat) hdg ⟨Nat.zero_le _, Nat.zero_le _⟩) hH.2 (fun q _ h => h) (fun q h => h) (fun r u t H1 locs1 ht hvm hq hB hz hk hS => K r u hq ls H1 locs1 hl ⟨by rw [← ht]; exact hB, hS⟩)
theorem r_callSl (hC : mw_C p R s m args meth c G kd cc nL own ret) {y : MethodName} {C : String} {bytes : ByteArray} {maxL n fr lo idx : Nat} {ret' : Option FieldType} {Q1 : Int64 → mw_M → Prop} (As : List Value) (hM : mw_Ml l G kd y bytes maxL ret' fr lo As μ Q1) (hy : mw_yS y C bytes maxL ret' n) (hlk : Cond.methodLink own idx y ∈ mw_T) (hR : fr + 1 ≤ R.frames ∧ 8 + (maxL + 11) + lo ≤ R.locals) (hn : As.length = n) {st0 : List Value} (hst : st0 = As.reverse ++ st) (hcat : (st.map fun v => v.category).sum ≤ 8) (hdg : decode cc pc = .ok (.invokestatic idx, 3)) (K : ∀ r u, Q1 r u → mw_W p l e R s m args below meth c G kd nL Q (pc + 3) lv (.long r :: st) u) : mw_W p l e R s m args below meth c G kd nL Q (pc) lv st0 μ := by
  intro ls H locs hl hH
  obtain ⟨y1, y2, y4, y5, y6, y7⟩ := hy
  exact va_calll (va_runS (Ts := mw_T) (As := As) (rest := st) hC.1 hM ⟨mw_cw hC.1.2.2.2.2 y1 y4 y5 y6 y7 hlk hR, hC.1.2.2.2.2 _ y2⟩ (mw_preS hC hH As) rfl hn hl.1 hst (lv_room hcat) hdg ⟨Nat.zero_le _, Nat.zero_le _⟩) hH.2 (fun q _ h => h) (fun q h => h) (fun r u t H1 locs1 ht hvm hq hB hz hk hS => K r u hq ls H1 locs1 hl ⟨by rw [← ht]; exact hB, hS⟩)
theorem r_callVv (hC : mw_C p R s m args meth c G kd cc nL own ret) {y : MethodName} {C : String} {bytes : ByteArray} {maxL n fr lo idx b ci : Nat} {ret' : Option FieldType} {ds : List Nat} {T : u_T} {N : Nat} {Q1 : mw_M → Prop} (As : List Value) (hM : mw_Mv l G kd y bytes maxL ret' fr lo (.ref (mw_a G b) :: As) μ Q1) (hy : mw_yV y C bytes maxL ret' n) (hlk : Cond.methodLink own idx y ∈ mw_T) (hb : kd[b]? = some (.inl (ci, ds))) (hc : vwCl[ci]? = some (C, T, N)) (hR : fr + 1 ≤ R.frames ∧ 8 + (maxL + 11) + lo ≤ R.locals) (hn : As.length = n) {st0 : List Value} (hst : st0 = As.reverse ++ .ref (mw_a G b) :: st) (hcat : (st.map fun v => v.category).sum ≤ 8) (hdg : decode cc pc = .ok (.invokevirtual idx, 3)) (K : ∀ u, Q1 u → mw_W p l e R s m args below meth c G kd nL Q (pc + 3) lv st u) : mw_W p l e R s m args below meth c G kd nL Q (pc) lv st0 μ := by
  intro ls H locs hl hH
  obtain ⟨y1, y2, y3, y4, y5, y6, y7⟩ := hy
  exact va_callv (va_runV (Ts := mw_T) (C := C) (As := As) (rest := st) hC.1 hM ⟨mw_cw hC.1.2.2.2.2 y1 y4 y5 y6 y7 hlk hR, hC.1.2.2.2.2 _ y2, hC.1.2.2.2.2 _ y3⟩ (mw_preV hC hH hb hc As) rfl hn hl.1 hst (lv_room hcat) hdg ⟨Nat.zero_le _, Nat.zero_le _⟩) hH.2 (fun q _ h => h) (fun q h => h) (fun u t H1 locs1 ht hvm hq hB hz hk hS => K u hq ls H1 locs1 hl ⟨by rw [← ht]; exact hB, hS⟩)
theorem r_callSv (hC : mw_C p R s m args meth c G kd cc nL own ret) {y : MethodName} {C : String} {bytes : ByteArray} {maxL n fr lo idx : Nat} {ret' : Option FieldType} {Q1 : mw_M → Prop} (As : List Value) (hM : mw_Mv l G kd y bytes maxL ret' fr lo As μ Q1) (hy : mw_yS y C bytes maxL ret' n) (hlk : Cond.methodLink own idx y ∈ mw_T) (hR : fr + 1 ≤ R.frames ∧ 8 + (maxL + 11) + lo ≤ R.locals) (hn : As.length = n) {st0 : List Value} (hst : st0 = As.reverse ++ st) (hcat : (st.map fun v => v.category).sum ≤ 8) (hdg : decode cc pc = .ok (.invokestatic idx, 3)) (K : ∀ u, Q1 u → mw_W p l e R s m args below meth c G kd nL Q (pc + 3) lv st u) : mw_W p l e R s m args below meth c G kd nL Q (pc) lv st0 μ := by
  intro ls H locs hl hH
  obtain ⟨y1, y2, y4, y5, y6, y7⟩ := hy
  exact va_callv (va_runS (Ts := mw_T) (As := As) (rest := st) hC.1 hM ⟨mw_cw hC.1.2.2.2.2 y1 y4 y5 y6 y7 hlk hR, hC.1.2.2.2.2 _ y2⟩ (mw_preS hC hH As) rfl hn hl.1 hst (lv_room hcat) hdg ⟨Nat.zero_le _, Nat.zero_le _⟩) hH.2 (fun q _ h => h) (fun q h => h) (fun u t H1 locs1 ht hvm hq hB hz hk hS => K u hq ls H1 locs1 hl ⟨by rw [← ht]; exact hB, hS⟩)
theorem r_iret (hC : mw_C p R s m args meth c G kd cc nL own ret) {Q1 : Int32 → mw_M → Prop} {x : Int32} (hr : ret = some .int) (hdg : decode cc pc = .ok (.ireturn, 1)) (hq : Q1 x μ) : mw_W p l e R s m args below meth c G kd nL (MQ below (va_Qi Q1 (mw_B G kd) (mw_A G kd)) args s 0 0 (mw_A G kd)) pc lv [.int x] μ := fun ls H locs hl hH =>
  W.iret (v := x) hC.1.1 hC.1.2.1 (hC.2.2.1.trans hr) (fun t ht hW => ⟨⟨x, μ, rfl, hq, by show va_P _ _ _ t.heap; rw [ht]; exact hH.1⟩, hH.2.F ht⟩) hH.2.2.2 hdg hC.2.2.2
theorem r_zret (hC : mw_C p R s m args meth c G kd cc nL own ret) {Q1 : Int32 → mw_M → Prop} {x : Int32} {ty : FieldType} (hr : ret = some ty) (hn : narrow ty (.int x) = .int x) (hdg : decode cc pc = .ok (.ireturn, 1)) (hq : Q1 x μ) : mw_W p l e R s m args below meth c G kd nL (MQ below (va_Qi Q1 (mw_B G kd) (mw_A G kd)) args s 0 0 (mw_A G kd)) pc lv [.int x] μ := fun ls H locs hl hH =>
  W.zret (v := x) (ty := ty) hC.1.1 hC.1.2.1 (hC.2.2.1.trans hr) hn (fun t ht hW => ⟨⟨x, μ, rfl, hq, by show va_P _ _ _ t.heap; rw [ht]; exact hH.1⟩, hH.2.F ht⟩) hH.2.2.2 hdg hC.2.2.2
theorem r_vret (hC : mw_C p R s m args meth c G kd cc nL own ret) {Q1 : mw_M → Prop} (hr : ret = none) (hdg : decode cc pc = .ok (.return_, 1)) (hq : Q1 μ) : mw_W p l e R s m args below meth c G kd nL (MQ below (va_Qv Q1 (mw_B G kd) (mw_A G kd)) args s 0 0 (mw_A G kd)) pc lv [] μ := fun ls H locs hl hH =>
  W.vret hC.1.1 hC.1.2.1 (hC.2.2.1.trans hr) (fun t ht hW => ⟨⟨μ, rfl, hq, by show va_P _ _ _ t.heap; rw [ht]; exact hH.1⟩, hH.2.F ht⟩) hH.2.2.2 hdg hC.2.2.2
theorem r_lret (hC : mw_C p R s m args meth c G kd cc nL own ret) {Q1 : Int64 → mw_M → Prop} {x : Int64} (hr : ret = some .long) (hdg : decode cc pc = .ok (.lreturn, 1)) (hq : Q1 x μ) : mw_W p l e R s m args below meth c G kd nL (MQ below (va_Ql Q1 (mw_B G kd) (mw_A G kd)) args s 0 0 (mw_A G kd)) pc lv [.long x] μ := fun ls H locs hl hH =>
  W.lret (v := x) hC.1.1 hC.1.2.1 (hC.2.2.1.trans hr) (fun t ht hW => ⟨⟨x, μ, rfl, hq, by show va_P _ _ _ t.heap; rw [ht]; exact hH.1⟩, hH.2.F ht⟩) hH.2.2.2 hdg hC.2.2.2
theorem r_copyL (hC : mw_C p R s m args meth c G kd cc nL own ret) {idx a b na nb x y x2 y2 : Nat} {sp dp n : Int32} (hw : Cond.methodLink own idx arraycopyName ∈ mw_T ∧ Cond.native arraycopyName ∈ mw_T ∧ Cond.static arraycopyName ∈ mw_T ∧ Cond.initialized "java/lang/System" ∈ mw_T) (ha : kd[a]? = some (.inr (1, na, x, y))) (hb : kd[b]? = some (.inr (1, nb, x2, y2))) (h1 : ¬ sp < 0) (h2 : ¬ dp < 0) (h3 : ¬ n < 0) (h4 : sp.toNatClampNeg + n.toNatClampNeg ≤ na) (h5 : dp.toNatClampNeg + n.toNatClampNeg ≤ nb) (h6 : 1 ≤ R.frames) (h7 : (st.map fun v => v.category).sum + (nativeFrameWords "java/lang/System" "arraycopy" 5 + 11) ≤ R.locals) (hdg : decode cc pc = .ok (.invokestatic idx, 3)) (K : mw_W p l e R s m args below meth c G kd nL Q (pc + 3) lv st (mw_cpy μ a b sp.toNatClampNeg dp.toNatClampNeg n.toNatClampNeg)) : mw_W p l e R s m args below meth c G kd nL Q (pc) lv (.int n :: .int dp :: .ref (mw_a G b) :: .int sp :: .ref (mw_a G a) :: st) μ := by
  intro ls H locs hl hH
  refine va_copyl (tys := mw_tys G) (f := μ.2 a) (g := μ.2 b) hC.1.1 hC.1.2.1 (by rw [hC.1.2.2.1]; exact hl.1.symm) hC.1.2.2.2.1 (hC.1.2.2.2.2 _ hw.1) (hC.1.2.2.2.2 _ hw.2.1) (hC.1.2.2.2.2 _ hw.2.2.1) (hC.1.2.2.2.2 _ hw.2.2.2) hC.2.1.1 hH.1 (mw_ws_D hC.2.1.2.1) hH.2 a b 1 1 (mw_ws_at ha) (mw_ws_at hb) rfl rfl rfl h1 h2 h3 h4 h5 (fun i hi => rfl) h6 h7 hdg (fun H1 locs1 hP hD hS => K ls H1 locs1 hl ⟨?_, hS⟩)
  rw [mw_ws_set (G := G) (μ := μ) (μ' := mw_cpy μ a b sp.toNatClampNeg dp.toNatClampNeg n.toNatClampNeg) hb (by
    show Sum.inl (_, _, Sum.inr (Sum.inl _)) = Sum.inl (_, _, Sum.inr (Sum.inl ((mw_cpy μ a b sp.toNatClampNeg dp.toNatClampNeg n.toNatClampNeg).2 b)))
    rw [show (mw_cpy μ a b sp.toNatClampNeg dp.toNatClampNeg n.toNatClampNeg).2 b = va_cpy (μ.2 a) (μ.2 b) sp.toNatClampNeg dp.toNatClampNeg n.toNatClampNeg from if_pos rfl]) (fun q d h => mw_e_neL (G := G) (μ := μ) (μ' := mw_cpy μ a b sp.toNatClampNeg dp.toNatClampNeg n.toNatClampNeg) rfl (if_neg h) d)] at hP
  exact hP
theorem r_nmI {x : Int32} (K : ∀ y, y = x → mw_W p l e R s m args below meth c G kd nL Q pc lv (.int y :: st) μ) : mw_W p l e R s m args below meth c G kd nL Q pc lv (.int x :: st) μ := K x rfl
theorem r_nmL {x : Int64} (K : ∀ y, y = x → mw_W p l e R s m args below meth c G kd nL Q pc lv (.long y :: st) μ) : mw_W p l e R s m args below meth c G kd nL Q pc lv (.long x :: st) μ := K x rfl
theorem r_nmM (K : ∀ u, u = μ → mw_W p l e R s m args below meth c G kd nL Q pc lv st u) : mw_W p l e R s m args below meth c G kd nL Q pc lv st μ := K μ rfl
theorem r_memEq {u : mw_M} (h : u = μ) (K : mw_W p l e R s m args below meth c G kd nL Q pc lv st μ) : mw_W p l e R s m args below meth c G kd nL Q pc lv st u := h ▸ K
theorem r_topEq {x y : Int32} (h : x = y) (K : mw_W p l e R s m args below meth c G kd nL Q pc lv (.int y :: st) μ) : mw_W p l e R s m args below meth c G kd nL Q pc lv (.int x :: st) μ := h ▸ K
theorem mw_ne {x c : Int32} {n : Int} (h : ¬ x = c) (hn : c.toInt = n) : x.toInt ≠ n := fun e => h (Int32.toInt_inj.mp (e.trans hn.symm))
theorem vpc {i : Int32} {n : Nat} (h : (decide (i < 0) || decide (n ≤ i.toNatClampNeg)) = false) : vp_in i n := by
  intro q
  rw [Bool.or_eq_false_iff] at h
  rcases q with q | q
  · exact absurd q (of_decide_eq_false h.1)
  · exact absurd q (of_decide_eq_false h.2)
theorem vp_lt {i : Int32} {n : Nat} (h : vp_in i n) : i.toNatClampNeg < n := Nat.not_le.mp fun q => h (Or.inr q)
theorem r_tdef (hC : mw_C p R s m args meth c G kd cc nL own ret) {dflt lo hi : Int} {offs : Array Int} {len : Nat} {x : Int32} (tgt : Nat) (hdg : decode cc pc = .ok (.tableswitch dflt lo hi offs, len)) (ht : (pc : Int) + dflt = (tgt : Int)) (hz : offs.size = (hi - lo + 1).toNat) (h : ∀ k : Nat, k < offs.size → offs[k]? = some dflt ∨ x.toInt ≠ lo + k) (K : mw_W p l e R s m args below meth c G kd nL Q tgt lv st μ) : mw_W p l e R s m args below meth c G kd nL Q pc lv (.int x :: st) μ := by
  by_cases h1 : x.toInt < lo ∨ hi < x.toInt
  · exact r_tout hC tgt hdg h1 ht K
  · have h2 : ¬ x.toInt < lo := fun q => h1 (Or.inl q)
    have h3 : ¬ hi < x.toInt := fun q => h1 (Or.inr q)
    rcases h (x.toInt - lo).toNat (by omega) with q | q
    · exact r_tin hC tgt hdg h2 h3 q ht K
    · exact absurd (by omega) q
theorem r_ldef (hC : mw_C p R s m args meth c G kd cc nL own ret) {dflt : Int} {ps : Array (Int × Int)} {len : Nat} {x : Int32} (tgt : Nat) (hdg : decode cc pc = .ok (.lookupswitch dflt ps, len)) (hp : (ps.toList.zip (ps.toList.drop 1)).all (fun (a, next) => a.1 < next.1) = true) (h : ∀ q ∈ ps.toList, x.toInt ≠ q.1) (ht : (pc : Int) + dflt = (tgt : Int)) (K : mw_W p l e R s m args below meth c G kd nL Q tgt lv st μ) : mw_W p l e R s m args below meth c G kd nL Q pc lv (.int x :: st) μ := by
  refine r_lsw hC tgt hdg hp (off := dflt) ?_ ht K
  have key : ∀ l : List (Int × Int), (∀ q ∈ l, x.toInt ≠ q.1) → Op.lookupswitch.offset l dflt x.toInt = dflt := by
    intro l
    induction l with
    | nil => intro _; rfl
    | cons a t ih =>
      intro hq
      have h1 := hq a List.mem_cons_self
      have h2 := ih (fun q hm => hq q (List.mem_cons_of_mem _ hm))
      simp only [Op.lookupswitch.offset] at h2 ⊢
      first
        | (rw [if_neg (fun e => h1 (by first | exact e | exact e.symm))]; exact h2)
        | (simp [h1, Ne.symm h1]; exact h2)
        | (simp [List.find?, h1, Ne.symm h1] at h2 ⊢; exact h2)
  exact key _ h
end MWH
