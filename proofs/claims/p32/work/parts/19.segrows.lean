/-! instructions over worlds in segments -/
section SGR
variable {p : Program} {l : Launch} {e : Env} {R : Room} {s : State} {m : MethodId} {args : Array Value} {below : List Frame} {meth : Method} {c : Code} {H : Heap} {locs : List Loc} {cells slots : Nat} {Q : State → Prop}
variable {cc : ByteArray} {pc : Nat} {ls : Array Slot} {rest : List Value} {D : va_G} {cl : List vw_C} {A : Nat → Prop} {a : Nat} {tys : List (ClassId × FieldType)} {segs : gW} {H0 : Heap}
theorem s_get (hexec : p.tables.exec = Jvm.exec) (hb : c.code = cc) {own ref C : String} {T : u_T} {N ci index : Nat} {Ts : List Cond} (hts : ∀ w ∈ Ts, w.before args s = true) (hin : ∀ w ∈ u_ws C T N, w ∈ Ts) (hown : s.vm.findClass own = some m.cls) (hK : va_K D cl tys s) (hP : va_P D cl segs.flatten H) (k i : Nat) {b : va_W} {fs : List Value} (hk : segs[k]? = some b) (hi : b[i]? = some (a, .inr (ci, fs))) (hc : cl[ci]? = some (C, T, N)) (j : Nat) (hj : j < N) (hlink : (Cond.fieldLink own index ref (T j).2.1 (T j).2.2.1).before args s = true) (hsame : ∀ x, s.fieldFound? (T j).1 (T j).2.1 (T j).2.2.1 = some x → s.fieldFound? ref (T j).2.1 (T j).2.2.1 = some x) {v : Value} (hv : fs[j]? = some v) (hdg : decode cc pc = .ok (.getfield index, 3))
    (kk : W p l e R s m args below meth c H locs cells slots Q (F0 m (pc + 3) ls (v :: rest))) : W p l e R s m args below meth c H locs cells slots Q (F0 m pc ls (.ref a :: rest)) := by
  obtain ⟨q0, h1, -⟩ := sg_at segs k b i _ hk hi
  exact va_get hexec hb hts hin hown hK hP q0 h1 hc j hj hlink hsame hv hdg kk
theorem s_put (hexec : p.tables.exec = Jvm.exec) (hb : c.code = cc) {own ref C : String} {T : u_T} {N ci index : Nat} {Ts : List Cond} (hts : ∀ w ∈ Ts, w.before args s = true) (hin : ∀ w ∈ u_ws C T N, w ∈ Ts) (ty0 : Nat → FieldType) (hty : ∀ k, k < N → parseFieldDescriptor (T k).2.2.1 = some (ty0 k)) (hnm : ∀ a, a < N → ∀ b, b < N → a ≠ b → (T a).2.1 ≠ (T b).2.1) (hown : s.vm.findClass own = some m.cls) (hK : va_K D cl tys s) (hP : va_P D cl segs.flatten H) (hD : va_D A segs.flatten) (hS0 : va_S A H0 H locs) (k i : Nat) {b : va_W} {fs : List Value} (hk : segs[k]? = some b) (hi : b[i]? = some (a, .inr (ci, fs))) (hc : cl[ci]? = some (C, T, N)) (j : Nat) (hj : j < N) (hlink : (Cond.fieldLink own index ref (T j).2.1 (T j).2.2.1).before args s = true) (hsame : ∀ x, s.fieldFound? (T j).1 (T j).2.1 (T j).2.2.1 = some x → s.fieldFound? ref (T j).2.1 (T j).2.2.1 = some x) (hfin : (T j).2.2.2 = false) {ty : FieldType} {v : Value} (hd : parseFieldDescriptor (T j).2.2.1 = some ty) (hn : narrow ty v = v) (hfit : fits ty v = true) (hl : j < fs.length)
    (hdg : decode cc pc = .ok (.putfield index, 3)) (kk : ∀ (H1 : Heap) (locs1 : List Loc), va_P D cl (segs.set k (b.set i (a, .inr (ci, fs.set j v)))).flatten H1 → va_D A (segs.set k (b.set i (a, .inr (ci, fs.set j v)))).flatten → va_S A H0 H1 locs1 → W p l e R s m args below meth c H1 locs1 cells slots Q (F0 m (pc + 3) ls rest)) : W p l e R s m args below meth c H locs cells slots Q (F0 m pc ls (v :: .ref a :: rest)) := by
  obtain ⟨q0, h1, h2⟩ := sg_at segs k b i _ hk hi
  refine va_put hexec hb hts hin ty0 hty hnm hown hK hP hD hS0 q0 h1 hc j hj hlink hsame hfin hd hn hfit hl hdg (fun H1 locs1 hP1 hD1 hS1 => ?_)
  rw [h2] at hP1 hD1
  exact kk H1 locs1 hP1 hD1 hS1
theorem s_iald (hexec : p.tables.exec = Jvm.exec) (hb : c.code = cc) (hK : va_K D cl tys s) (hP : va_P D cl segs.flatten H) (k i t0 : Nat) {b : va_W} {cA : ClassId} {n : Nat} {f : Nat → Int32} (hk : segs[k]? = some b) (hi : b[i]? = some (a, .inl (cA, n, .inl f))) (ht : tys[t0]? = some (cA, .int)) {x : Int32} (j : Nat) (hx : x = nI j) (hj : j < n) (hn : n < 2 ^ 31) (hdg : decode cc pc = .ok (.iaload, 1))
    (kk : W p l e R s m args below meth c H locs cells slots Q (F0 m (pc + 1) ls (.int (f j) :: rest))) : W p l e R s m args below meth c H locs cells slots Q (F0 m pc ls (.int x :: .ref a :: rest)) := by
  obtain ⟨q0, h1, -⟩ := sg_at segs k b i _ hk hi
  exact z_iald hexec hb hK hP q0 t0 h1 ht j hx hj hn hdg kk
theorem s_zald (hexec : p.tables.exec = Jvm.exec) (hb : c.code = cc) (hK : va_K D cl tys s) (hP : va_P D cl segs.flatten H) (k i t0 : Nat) {b : va_W} {cA : ClassId} {n : Nat} {f : Nat → Int32} (hk : segs[k]? = some b) (hi : b[i]? = some (a, .inl (cA, n, .inl f))) (ht : tys[t0]? = some (cA, .boolean)) {x : Int32} (j : Nat) (hx : x = nI j) (hj : j < n) (hn : n < 2 ^ 31) (hdg : decode cc pc = .ok (.baload, 1))
    (kk : W p l e R s m args below meth c H locs cells slots Q (F0 m (pc + 1) ls (.int (f j) :: rest))) : W p l e R s m args below meth c H locs cells slots Q (F0 m pc ls (.int x :: .ref a :: rest)) := by
  obtain ⟨q0, h1, -⟩ := sg_at segs k b i _ hk hi
  exact z_zald hexec hb hK hP q0 t0 h1 ht j hx hj hn hdg kk
theorem s_iast (hexec : p.tables.exec = Jvm.exec) (hb : c.code = cc) (hK : va_K D cl tys s) (hP : va_P D cl segs.flatten H) (hD : va_D A segs.flatten) (hS : va_S A H0 H locs) (k i t0 : Nat) {b : va_W} {cA : ClassId} {n : Nat} {f : Nat → Int32} (hk : segs[k]? = some b) (hi : b[i]? = some (a, .inl (cA, n, .inl f))) (ht : tys[t0]? = some (cA, .int)) {x v : Int32} (j : Nat) (hx : x = nI j) (hj : j < n) (hn : n < 2 ^ 31) (hdg : decode cc pc = .ok (.iastore, 1))
    (kk : ∀ (H1 : Heap) (locs1 : List Loc), va_P D cl (segs.set k (b.set i (a, .inl (cA, n, .inl (upd f j v))))).flatten H1 → va_D A (segs.set k (b.set i (a, .inl (cA, n, .inl (upd f j v))))).flatten → va_S A H0 H1 locs1 → W p l e R s m args below meth c H1 locs1 cells slots Q (F0 m (pc + 1) ls rest)) : W p l e R s m args below meth c H locs cells slots Q (F0 m pc ls (.int v :: .int x :: .ref a :: rest)) := by
  obtain ⟨q0, h1, h2⟩ := sg_at segs k b i _ hk hi
  refine z_iast hexec hb hK hP hD hS q0 t0 h1 ht j hx hj hn hdg (fun H1 locs1 hP1 hD1 hS1 => ?_)
  rw [h2] at hP1 hD1
  exact kk H1 locs1 hP1 hD1 hS1
/-- rows of a block -/
theorem s_gald (hexec : p.tables.exec = Jvm.exec) (hb : c.code = cc) (hK : va_K D cl tys s) (hP : va_P D cl segs.flatten H) (k t0 : Nat) {n mm : Nat} {r : Nat → Nat} {cA : ClassId} {M : Nat → Nat → Int32} (i : Nat) (hk : segs[k]? = some (gB n r cA mm M)) (hi : i < n) (ht : tys[t0]? = some (cA, .int)) {x : Int32} (j : Nat) (hx : x = nI j) (hj : j < mm) (hn : mm < 2 ^ 31) (hdg : decode cc pc = .ok (.iaload, 1))
    (kk : W p l e R s m args below meth c H locs cells slots Q (F0 m (pc + 1) ls (.int (M i j) :: rest))) : W p l e R s m args below meth c H locs cells slots Q (F0 m pc ls (.int x :: .ref (r i) :: rest)) :=
  s_iald hexec hb hK hP k i t0 hk (gB_at hi) ht j hx hj hn hdg kk
theorem s_gzald (hexec : p.tables.exec = Jvm.exec) (hb : c.code = cc) (hK : va_K D cl tys s) (hP : va_P D cl segs.flatten H) (k t0 : Nat) {n mm : Nat} {r : Nat → Nat} {cA : ClassId} {M : Nat → Nat → Int32} (i : Nat) (hk : segs[k]? = some (gB n r cA mm M)) (hi : i < n) (ht : tys[t0]? = some (cA, .boolean)) {x : Int32} (j : Nat) (hx : x = nI j) (hj : j < mm) (hn : mm < 2 ^ 31) (hdg : decode cc pc = .ok (.baload, 1))
    (kk : W p l e R s m args below meth c H locs cells slots Q (F0 m (pc + 1) ls (.int (M i j) :: rest))) : W p l e R s m args below meth c H locs cells slots Q (F0 m pc ls (.int x :: .ref (r i) :: rest)) :=
  s_zald hexec hb hK hP k i t0 hk (gB_at hi) ht j hx hj hn hdg kk
theorem s_gast (hexec : p.tables.exec = Jvm.exec) (hb : c.code = cc) (hK : va_K D cl tys s) (hP : va_P D cl segs.flatten H) (hD : va_D A segs.flatten) (hS : va_S A H0 H locs) (k t0 : Nat) {n mm : Nat} {r : Nat → Nat} {cA : ClassId} {M : Nat → Nat → Int32} (i : Nat) (hk : segs[k]? = some (gB n r cA mm M)) (hi : i < n) (ht : tys[t0]? = some (cA, .int)) {x v : Int32} (j : Nat) (hx : x = nI j) (hj : j < mm) (hn : mm < 2 ^ 31) (hdg : decode cc pc = .ok (.iastore, 1))
    (kk : ∀ (H1 : Heap) (locs1 : List Loc), va_P D cl (segs.set k (gB n r cA mm (gU M i j v))).flatten H1 → va_D A (segs.set k (gB n r cA mm (gU M i j v))).flatten → va_S A H0 H1 locs1 → W p l e R s m args below meth c H1 locs1 cells slots Q (F0 m (pc + 1) ls rest)) : W p l e R s m args below meth c H locs cells slots Q (F0 m pc ls (.int v :: .int x :: .ref (r i) :: rest)) := by
  refine s_iast hexec hb hK hP hD hS k i t0 hk (gB_at hi) ht j hx hj hn hdg (fun H1 locs1 hP1 hD1 hS1 => ?_)
  rw [gB_set hi] at hP1 hD1
  exact kk H1 locs1 hP1 hD1 hS1
theorem s_gzast (hexec : p.tables.exec = Jvm.exec) (hb : c.code = cc) (hK : va_K D cl tys s) (hP : va_P D cl segs.flatten H) (hD : va_D A segs.flatten) (hS : va_S A H0 H locs) (k t0 : Nat) {n mm : Nat} {r : Nat → Nat} {cA : ClassId} {M : Nat → Nat → Int32} (i : Nat) (hk : segs[k]? = some (gB n r cA mm M)) (hi : i < n) (ht : tys[t0]? = some (cA, .boolean)) {x v : Int32} (j : Nat) (hx : x = nI j) (hj : j < mm) (hn : mm < 2 ^ 31) (hv : vp_nar .boolean v = v) (hdg : decode cc pc = .ok (.bastore, 1))
    (kk : ∀ (H1 : Heap) (locs1 : List Loc), va_P D cl (segs.set k (gB n r cA mm (gU M i j v))).flatten H1 → va_D A (segs.set k (gB n r cA mm (gU M i j v))).flatten → va_S A H0 H1 locs1 → W p l e R s m args below meth c H1 locs1 cells slots Q (F0 m (pc + 1) ls rest)) : W p l e R s m args below meth c H locs cells slots Q (F0 m pc ls (.int v :: .int x :: .ref (r i) :: rest)) := by
  obtain ⟨q0, h1, h2⟩ := sg_at segs k _ i _ hk (gB_at hi)
  refine z_zast hexec hb hK hP hD hS q0 t0 h1 ht j hx hj hn hv hdg (fun H1 locs1 hP1 hD1 hS1 => ?_)
  rw [h2, gB_set hi] at hP1 hD1
  exact kk H1 locs1 hP1 hD1 hS1
theorem s_qald (hexec : p.tables.exec = Jvm.exec) (hb : c.code = cc) (hK : va_K D cl tys s) (hP : va_P D cl segs.flatten H) (k t0 : Nat) {b : va_W} {ty : FieldType} {cA : ClassId} {n : Nat} {r : Nat → Nat} (hk : segs[k]? = some b) (hi : b[0]? = some (a, .inl (cA, n, .inr (.inr (.inr (.inr (gQ n r))))))) (ht : tys[t0]? = some (cA, .array ty)) {x : Int32} (j : Nat) (hx : x = nI j) (hj : j < n) (hn : n < 2 ^ 31) (hdg : decode cc pc = .ok (.aaload, 1))
    (kk : W p l e R s m args below meth c H locs cells slots Q (F0 m (pc + 1) ls (.ref (r j) :: rest))) : W p l e R s m args below meth c H locs cells slots Q (F0 m pc ls (.int x :: .ref a :: rest)) := by
  obtain ⟨q0, h1, -⟩ := sg_at segs k b 0 _ hk hi
  subst hx
  have hin := vp_in_nI hj hn
  have hcl : (nI j).toNatClampNeg = j := nI_clamp (Nat.lt_trans hj hn)
  refine W.aald (v := .ref (r j)) (ty := .array ty) hexec hb (hP q0 _ h1) ((hK.2 t0 _ ht).1 n (fun j => va_rf (gQ n r j))) rfl (fun q => by cases q) (by show ¬ (_ < 0 ∨ (arrV _ _ _).slots.size ≤ _); rw [arrV_size]; exact hin) ?_ rfl rfl hdg kk
  show (arrV _ _ _).slots[_]? = _
  rw [hcl, arrV_read _ _ hj, gQ_at hj]
theorem s_alen (hexec : p.tables.exec = Jvm.exec) (hb : c.code = cc) (hK : va_K D cl tys s) (hP : va_P D cl segs.flatten H) (k i t0 : Nat) {b : va_W} {cA : ClassId} {x : vp_A} (hk : segs[k]? = some b) (hi : b[i]? = some (a, .inl (cA, x))) {ty : FieldType} (ht : tys[t0]? = some (cA, ty)) (hdg : decode cc pc = .ok (.arraylength, 1))
    (kk : W p l e R s m args below meth c H locs cells slots Q (F0 m (pc + 1) ls (.int (nI x.1) :: rest))) : W p l e R s m args below meth c H locs cells slots Q (F0 m pc ls (.ref a :: rest)) := by
  obtain ⟨q0, h1, -⟩ := sg_at segs k b i _ hk hi
  exact va_alen hexec hb hK hP q0 t0 h1 ht rfl hdg kk
theorem sg_snoc {b : va_W} : (segs ++ [b]).flatten = segs.flatten ++ b := by rw [List.flatten_append, List.flatten_cons, List.flatten_nil, List.append_nil]
theorem s_newa (hexec : p.tables.exec = Jvm.exec) (hb : c.code = cc) {atype : ArrayType} (harr : (Cond.arrayClass (newarray.typeOf atype)).before args s = true) {ty : FieldType} (hty : newarray.typeOf atype = ty) (hK : va_K D cl tys s) (hP : va_P D cl segs.flatten H) (hD : va_D A segs.flatten) (hS : va_S A H0 H locs) (hA : ∀ q, H0.size ≤ q → A q)
    (t0 : Nat) {cA : ClassId} (ht : tys[t0]? = some (cA, ty)) {x : Int32} (N' : Nat) (hx : x = nI N') (a0 : vp_A) (ha : ∀ cA : ClassId, vp_cell cA a0 = arrV cA N' (fun _ => defaultValue ty)) (hb0 : N' < 1000) (hbytes : N' * componentBytes ty ≤ 536870912) (hcells : cells + 1 ≤ R.cells) (hslots : slots + N' ≤ R.slots) (hdg : decode cc pc = .ok (.newarray atype, 2))
    (kk : ∀ (q : Nat) (H1 : Heap), va_P D cl (segs ++ ([[(q, .inl (cA, a0))]] : gW)).flatten H1 → va_D A (segs ++ ([[(q, .inl (cA, a0))]] : gW)).flatten → va_S A H0 H1 locs →
      W p l e R s m args below meth c H1 locs (cells + 1) (slots + N') Q (F0 m (pc + 2) ls (.ref q :: rest))) : W p l e R s m args below meth c H locs cells slots Q (F0 m pc ls (.int x :: rest)) := by
  subst hx
  exact z_newa hexec hb harr hty hK hP hD hS hA t0 ht ha (nI_pos (by omega)) (nI_clamp (by omega)) hbytes hcells hslots hdg (fun q H1 hP1 hD1 hS1 => kk q H1 (by rw [sg_snoc]; exact hP1) (by rw [sg_snoc]; exact hD1) hS1)
theorem s_new (hexec : p.tables.exec = Jvm.exec) (hb : c.code = cc) {own C : String} {T : u_T} {N ci index : Nat} {Ts : List Cond} (hts : ∀ w ∈ Ts, w.before args s = true) (hin : ∀ w ∈ u_ws C T N, w ∈ Ts) (ty : Nat → FieldType) (hty : ∀ k, k < N → parseFieldDescriptor (T k).2.2.1 = some (ty k)) (hown : s.vm.findClass own = some m.cls) (hcl : (Cond.classLink own index C).before args s = true) (hinst : (Cond.instantiable C N).before args s = true) (hini : (Cond.initialized C).before args s = true)
    (hK : va_K D cl tys s) (hP : va_P D cl segs.flatten H) (hD : va_D A segs.flatten) (hS : va_S A H0 H locs) (hA : ∀ q, H0.size ≤ q → A q) (hc : cl[ci]? = some (C, T, N)) {fs : List Value} (hfs : ∀ j, j < N → defaultValue (ty j) = vp_V fs j) (hcells : cells + 1 ≤ R.cells) (hslots : slots + N ≤ R.slots) (hdg : decode cc pc = .ok (.new index, 3))
    (kk : ∀ (q : Nat) (H1 : Heap), va_P D cl (segs ++ ([[(q, .inr (ci, fs))]] : gW)).flatten H1 → va_D A (segs ++ ([[(q, .inr (ci, fs))]] : gW)).flatten → va_S A H0 H1 locs →
      W p l e R s m args below meth c H1 locs (cells + 1) (slots + N) Q (F0 m (pc + 3) ls (.ref q :: rest))) : W p l e R s m args below meth c H locs cells slots Q (F0 m pc ls rest) :=
  va_new hexec hb hts hin ty hty hown hcl hinst hini hK hP hD hS hA hc hfs hcells hslots hdg (fun q H1 hP1 hD1 hS1 => kk q H1 (by rw [sg_snoc]; exact hP1) (by rw [sg_snoc]; exact hD1) hS1)
/-- new T[N'][K'] -/
theorem s_mna (hexec : p.tables.exec = Jvm.exec) (hb : c.code = cc) {own : String} {index : Nat} {ty : FieldType} (hown : s.vm.findClass own = some m.cls) (hclink : (Cond.classLink own index ("[" ++ (FieldType.array ty).toString)).before args s = true) (harr : (Cond.arrayClass ty).before args s = true) (hG : zAO ty s)
    (hK : va_K D cl tys s) (hP : va_P D cl segs.flatten H) (hD : va_D A segs.flatten) (hS : va_S A H0 H locs) (hA : ∀ q, H0.size ≤ q → A q) (t0 t1 : Nat) {cR cO : ClassId} (ht0 : tys[t0]? = some (cR, ty)) (ht1 : tys[t1]? = some (cO, .array ty)) (hty : ty = .int ∨ ty = .boolean)
    {x y : Int32} (N' K' : Nat) (hx : x = nI N') (hy : y = nI K') (hN : N' < 1000) (hM : K' < 1000) (hcells : cells + (1 + N') ≤ R.cells) (hslots : slots + (N' + N' * K') ≤ R.slots) (hdg : decode cc pc = .ok (.multianewarray index 2, 4))
    (kk : ∀ (q : Nat) (r : Nat → Nat) (H1 : Heap), va_P D cl (segs ++ ([[(q, .inl (cO, N', .inr (.inr (.inr (.inr (gQ N' r))))))], gB N' r cR K' (fun _ _ => 0)] : gW)).flatten H1 → va_D A (segs ++ ([[(q, .inl (cO, N', .inr (.inr (.inr (.inr (gQ N' r))))))], gB N' r cR K' (fun _ _ => 0)] : gW)).flatten → va_S A H0 H1 locs →
      W p l e R s m args below meth c H1 locs (cells + 1 + N') (slots + N' + N' * K') Q (F0 m (pc + 4) ls (.ref q :: rest))) : W p l e R s m args below meth c H locs cells slots Q (F0 m pc ls (.int y :: .int x :: rest)) := by
  subst hx hy
  have hn : ¬ nI N' < 0 := nI_pos (by omega)
  have hm : ¬ nI K' < 0 := nI_pos (by omega)
  have eN : (nI N').toNatClampNeg = N' := nI_clamp (by omega)
  have eM : (nI K').toNatClampNeg = K' := nI_clamp (by omega)
  obtain ⟨cO', cR', kO, g1, g2, g3, g4⟩ := hG
  have r0 := (hK.2 t0 _ ht0).2
  have r1 := (hK.2 t1 _ ht1).2
  have n0 : s.vm.findClass ("[" ++ ty.toString) = some cR := by
    rcases hty with rfl | rfl <;> exact r0
  have n1 : s.vm.findClass ("[" ++ (FieldType.array ty).toString) = some cO := r1
  have eO : cO' = cO := Option.some.inj (g4.symm.trans n1)
  have eR : cR' = cR := Option.some.inj (g1.symm.trans (by rcases hty with rfl | rfl <;> exact n0))
  subst eO
  subst eR
  have hfd : fits ty (defaultValue ty) = true ∧ (defaultValue ty).isDefault = true ∧ defaultValue ty = .int 0 ∧ componentBytes ty ≤ 4 := by
    rcases hty with rfl | rfl <;> exact ⟨rfl, rfl, rfl, by decide⟩
  obtain ⟨hfd, hdd, hd0, hcb⟩ := hfd
  obtain ⟨-, kR, hkR, cc9, hR⟩ := (hK.2 t0 _ ht0).1 0 (fun _ => .int 0)
  intro T hT X
  subst hb
  have hpl : e.platform.magicAccessors = ({} : Platform).magicAccessors := by rw [X.admits.platform]
  obtain ⟨c0, hf0, hcl⟩ := Cond.classLink_spec hown hclink e.platform hpl
  have ec : c0 = cO' := Option.some.inj (hf0.symm.trans n1)
  subst ec
  obtain ⟨hg₁, hW₁, -⟩ := State.classEntry (e := e) X.warmed hcl
  generalize T.vm.noted m.cls index (.cls c0) = vm₁ at hg₁ hW₁
  obtain ⟨kO₁, hkO₁, eO₁⟩ := hW₁.alike.2.2 _ _ g2
  obtain ⟨kR₁, hkR₁, eR₁⟩ := hW₁.alike.2.2 _ _ hkR
  have X₁ := X.noted hW₁
  have XF := zm_stand X₁ c0 cR' N' K' (defaultValue ty) N'
  obtain ⟨q1, q2⟩ := X.roomAbove (a := 1 + N') (b := N' + N' * K') hcells hslots
  have hTh : (T.setVm vm₁).heap = H := hT
  obtain ⟨f1, -, -, f4, f5, f6⟩ := zmS_at (T.setVm vm₁) c0 cR' N' K' (defaultValue ty) N'
  rw [hTh] at f1 f4 f5 f6
  have hlN : ¬ N' > e.platform.arrayLengthLimit := by rw [Launch.admits_arrayLengthLimit X.admits]; omega
  have hlM : ¬ K' > e.platform.arrayLengthLimit := by rw [Launch.admits_arrayLengthLimit X.admits]; omega
  have hbN : ¬ N' * 4 > e.platform.maxHeapBytes := by rw [Launch.admits_maxHeapBytes X.admits]; omega
  have hbM : ¬ K' * componentBytes ty > e.platform.maxHeapBytes := by
    have := Nat.mul_le_mul_left K' hcb
    rw [Launch.admits_maxHeapBytes X.admits]; omega
  generalize hF : zmS (T.setVm vm₁) c0 cR' N' K' (defaultValue ty) N' = F at XF f1 f4 f5 f6
  have hout : zmO c0 N' H.size N' = vp_cell c0 (N', .inr (.inr (.inr (.inr (gQ N' (fun i => H.size + 1 + i)))))) := rfl
  have hrow : ∀ j, j < N' → F.heap[H.size + 1 + j]? = some (vp_cell cR' (K', .inl (fun _ => 0))) := fun j hj => by rw [f6 j hj, hd0]; rfl
  have hold := sg_memP.mp hP
  have hD1 := sg_memD.mp hD
  obtain ⟨t, a1, b1⟩ := kk H.size (fun i => H.size + 1 + i) F.heap (sg_memP.mpr (fun z hz => by
      rw [List.flatten_append, List.flatten_cons, List.flatten_cons, List.flatten_nil, List.append_nil] at hz
      rcases List.mem_append.mp hz with h | h
      · exact (hold z h).kept (f5 z.1 (hold z h).lt)
      rcases List.mem_append.mp h with h | h
      · rw [List.mem_singleton.mp h]
        show F.heap[H.size]? = _
        rw [f4, hout]
      · obtain ⟨i, hi, rfl⟩ := List.mem_map.mp h
        exact hrow i (List.mem_range.mp hi)))
    (sg_memD.mpr ⟨by
      rw [List.flatten_append, List.flatten_cons, List.flatten_cons, List.flatten_nil, List.append_nil, List.map_append, List.nodup_append]
      have hlo : ∀ z ∈ List.map Prod.fst segs.flatten, z < H.size := fun z hz => by
        obtain ⟨w, hw, rfl⟩ := List.mem_map.mp hz
        exact (hold w hw).lt
      have hhi : ∀ z ∈ List.map Prod.fst (gB N' (fun i => H.size + 1 + i) cR' K' (fun _ _ => 0)), H.size < z := fun z hz => by
        obtain ⟨w, hw, rfl⟩ := List.mem_map.mp hz
        obtain ⟨i, -, rfl⟩ := List.mem_map.mp hw
        show H.size < H.size + 1 + i
        omega
      refine ⟨hD1.1, ?_, fun x hx y hy hxy => ?_⟩
      · rw [List.map_append, List.nodup_append]
        refine ⟨by simp, ?_, fun x hx y hy hxy => ?_⟩
        · refine sg_nd.mp (fun i j z hi hj => ?_)
          rw [gB, List.map_map, List.getElem?_map] at hi hj
          obtain ⟨i', hi', ei⟩ := Option.map_eq_some_iff.mp hi
          obtain ⟨j', hj', ej⟩ := Option.map_eq_some_iff.mp hj
          have h1 : i < N' := by have := (List.getElem?_eq_some_iff.mp hi').1; rwa [List.length_range] at this
          have h2 : j < N' := by have := (List.getElem?_eq_some_iff.mp hj').1; rwa [List.length_range] at this
          rw [List.getElem?_range h1] at hi'
          rw [List.getElem?_range h2] at hj'
          cases hi'
          cases hj'
          have h3 : H.size + 1 + i = z := ei
          have h4 : H.size + 1 + j = z := ej
          omega
        · have h1 : x = H.size := by simpa using hx
          have h2 := hhi y hy
          omega
      · have h1 := hlo x hx
        rw [List.map_append] at hy
        rcases List.mem_append.mp hy with h | h
        · have h2 : y = H.size := by simpa using h
          omega
        · have h2 := hhi y h
          omega, fun z hz => by
      rw [List.flatten_append, List.flatten_cons, List.flatten_cons, List.flatten_nil, List.append_nil] at hz
      rcases List.mem_append.mp hz with h | h
      · exact hD1.2 z h
      rcases List.mem_append.mp h with h | h
      · rw [List.mem_singleton.mp h]
        exact hA _ hS.1
      · obtain ⟨i, -, rfl⟩ := List.mem_map.mp h
        exact hA _ (by have := hS.1; show H0.size ≤ H.size + 1 + i; omega)⟩)
    ⟨by rw [f1]; have := hS.1; omega, fun z h1 h2 => (f5 z (Nat.lt_of_lt_of_le h1 hS.1)).trans (hS.2.1 z h1 h2), hS.2.2⟩ F rfl XF
  refine ⟨t, ?_, b1⟩
  have hsz : T.heap.size = H.size := by rw [hT]
  have hg₂ : (resolveClass (F0 m pc ls (.int (nI K') :: .int (nI N') :: rest)).method.cls index).Gives e.toSetting (T.setTop (F0 m pc ls (.int (nI K') :: .int (nI N') :: rest))).vm (.ok c0) vm₁ := hg₁
  jvm_step X.here [hexec, hdg]
  simp only [multianewarray.sem, wp_bind', W.resolveClassAt_links (State.method?_setTop (F0 m pc ls (.int (nI K') :: .int (nI N') :: rest)) X.here.top) hg₂]
  rw [W.popN, if_neg (by decide)]
  refine ⟨_, State.topJava?_setTop' (s := T.setVm vm₁) _ X.here.top, [.int (nI N'), .int (nI K')], rest, rfl, rfl, ?_⟩
  simp only [List.mapM_cons, List.mapM_nil, wp_bind', wp_pure']
  refine zm_grid (kO := kO₁) (kR := kR₁) (cR := cR') (cc := cc9) (ty := ty) hkO₁ (by rw [eO₁]; exact g3) hkR₁ (by rw [eR₁]; exact hR) hn hm (by rw [eN]; exact hlN) (by rw [eN]; exact hbN) (by rw [eM]; exact hlM) (by rw [eM]; exact hbM) hfd hdd (by rw [eN]; show T.heap.size + 1 + _ ≤ _; omega) (by rw [eN, eM]; show T.slotsUsed + _ + _ ≤ _; omega) (fun d' acts' => ?_)
  rw [eN, eM]
  have eS : ((T.setTop (F0 m pc ls (.int (nI K') :: .int (nI N') :: rest))).setVm vm₁).setTop { (F0 m pc ls (.int (nI K') :: .int (nI N') :: rest)) with stack := rest } = (T.setVm vm₁).setTop { (F0 m pc ls (.int (nI K') :: .int (nI N') :: rest)) with stack := rest } := by
    show ((T.setVm vm₁).setTop _).setTop _ = _
    rw [State.setTop_setTop]
  rw [eS, zmS_top, hF]
  simp only [wp_bind', W.mark, W.pushRef, State.topJava?_setTop' _ XF.here.top, Option.some.injEq, exists_eq_left', State.setTop_setTop, State.heap_setTop]
  intro acts
  have hsz2 : (T.setVm vm₁).heap.size = H.size := hsz
  simp [jvm, XF.here.top]
  rw [hsz]
  exact a1
end SGR
